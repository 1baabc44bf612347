def rmX8_mix : Room := { frames := 0, cells := 0, slots := 0, locals := 0 }
def wwX8_mix (cyB cyI cyJ cyZ cyS : ClassId) (a_t a_t_w a_t_isKept a_t_text a_t_refused a_t_numbers a_t_weights : Nat) (c_t_texted : Int32) (c_t_above : Int64) (c_t_below : Int64) (c_t_at : Int32) (c_t_start : Int32) (c_t_isWord : Int32) (c_t_isFigures : Int32) (c_t_all : Int64) (c_t_known : Int32) (c_t_truth : Int32) (c_t_x : Int64) (c_t_h : Int64) (c_t_w : (Nat → Int32)) : va_W := [(a_t, .inr (8, [.ref a_t_w, .ref a_t_isKept, .ref a_t_text, .int c_t_texted, .ref a_t_refused, .long c_t_above, .long c_t_below, .int c_t_at, .int c_t_start, .int c_t_isWord, .int c_t_isFigures, .ref a_t_numbers, .ref a_t_weights, .long c_t_all, .int c_t_known, .int c_t_truth, .long c_t_x, .long c_t_h])), (a_t_w, .inl (cyI, 1508, .inl c_t_w))]
theorem hnX8_mix_X8 : ∀ w ∈ wsX80, w ∈ wsX8_mix := fun _ h => List.mem_cons_of_mem _ (List.mem_append_right _ h)
set_option maxHeartbeats 4000000 in
set_option maxRecDepth 100000 in
theorem kcX8_mix (l : Launch) (dC : Nat → ClassId) (dI : Nat → Nat → Nat) (cyB cyI cyJ cyZ cyS : ClassId) (a_t a_t_w a_t_isKept a_t_text a_t_refused a_t_numbers a_t_weights : Nat) (c_t_texted : Int32) (c_t_above : Int64) (c_t_below : Int64) (c_t_at : Int32) (c_t_start : Int32) (c_t_isWord : Int32) (c_t_isFigures : Int32) (c_t_all : Int64) (c_t_known : Int32) (c_t_truth : Int32) (c_t_x : Int64) (c_t_h : Int64) (c_t_w : (Nat → Int32)) (p1 : Int32) (p2 : Int32) (out : Int64) (hf : fX8_mix c_t_h c_t_w p1 p2 = some out) : pb_K l yX8_mix wsX8_mix rmX8_mix (dC, dI) vwCl (pb_tys cyB cyI cyJ cyZ cyS) pb_NW [.ref a_t, .int p1, .int p2] (wwX8_mix cyB cyI cyJ cyZ cyS a_t a_t_w a_t_isKept a_t_text a_t_refused a_t_numbers a_t_weights c_t_texted c_t_above c_t_below c_t_at c_t_start c_t_isWord c_t_isFigures c_t_all c_t_known c_t_truth c_t_x c_t_h c_t_w) (wwX8_mix cyB cyI cyJ cyZ cyS a_t a_t_w a_t_isKept a_t_text a_t_refused a_t_numbers a_t_weights c_t_texted c_t_above c_t_below c_t_at c_t_start c_t_isWord c_t_isFigures c_t_all c_t_known c_t_truth c_t_x out c_t_w) none := by
  unfold fX8_mix at hf
  refine pb_K.ofV (cc := cX8_mix) (maxL := 4) (ret := none) (lv0 := [(0, .ref a_t), (1, .int p1), (2, .int p2)]) (by decide) rfl (Nat.le_of_ble_eq_true rfl) rfl ?_
  intro p e s m below meth c A C hX hr hlk hA
  refine pb_iconst (v := 0) (pc := 0) C dX8_mix_0 pb_kI_0 ?_
  refine pb_istore_n (lv' := [(3, .int 0), (0, .ref a_t), (1, .int p1), (2, .int p2)]) (pc := 1) C dX8_mix_1 rfl (by decide) rfl ?_
  obtain ⟨z2, hz2, hk2⟩ := pb_bind hf
  have E2 : ∀ (e2_3 : Int32) (e2_c_t_h : Int64), fX8_mix_E2 e2_3 e2_c_t_h = some out → pb_V p l e rmX8_mix s m (([.ref a_t, .int p1, .int p2] : List Value).toArray) below meth c 4 (dC, dI) vwCl A 0 0 (pb_MQ below (([.ref a_t, .int p1, .int p2] : List Value).toArray) s (dC, dI) vwCl (wwX8_mix cyB cyI cyJ cyZ cyS a_t a_t_w a_t_isKept a_t_text a_t_refused a_t_numbers a_t_weights c_t_texted c_t_above c_t_below c_t_at c_t_start c_t_isWord c_t_isFigures c_t_all c_t_known c_t_truth c_t_x c_t_h c_t_w) (wwX8_mix cyB cyI cyJ cyZ cyS a_t a_t_w a_t_isKept a_t_text a_t_refused a_t_numbers a_t_weights c_t_texted c_t_above c_t_below c_t_at c_t_start c_t_isWord c_t_isFigures c_t_all c_t_known c_t_truth c_t_x out c_t_w) none A) (wwX8_mix cyB cyI cyJ cyZ cyS a_t a_t_w a_t_isKept a_t_text a_t_refused a_t_numbers a_t_weights c_t_texted c_t_above c_t_below c_t_at c_t_start c_t_isWord c_t_isFigures c_t_all c_t_known c_t_truth c_t_x e2_c_t_h c_t_w) [] [] 35 := by
    intro e2_3 e2_c_t_h hf
    unfold fX8_mix_E2 at hf
    obtain rfl := Option.some.inj hf
    exact pb_vret (pc := 35) C hr hlk hA dX8_mix_35
  have L2 : ∀ (n : Nat) (l2_3 : Int32) (l2_c_t_h : Int64), pb_lp (fun y => fX8_mix_L2 c_t_w p1 p2 y.1 y.2) n (l2_3, l2_c_t_h) = some z2 → pb_V p l e rmX8_mix s m (([.ref a_t, .int p1, .int p2] : List Value).toArray) below meth c 4 (dC, dI) vwCl A 0 0 (pb_MQ below (([.ref a_t, .int p1, .int p2] : List Value).toArray) s (dC, dI) vwCl (wwX8_mix cyB cyI cyJ cyZ cyS a_t a_t_w a_t_isKept a_t_text a_t_refused a_t_numbers a_t_weights c_t_texted c_t_above c_t_below c_t_at c_t_start c_t_isWord c_t_isFigures c_t_all c_t_known c_t_truth c_t_x c_t_h c_t_w) (wwX8_mix cyB cyI cyJ cyZ cyS a_t a_t_w a_t_isKept a_t_text a_t_refused a_t_numbers a_t_weights c_t_texted c_t_above c_t_below c_t_at c_t_start c_t_isWord c_t_isFigures c_t_all c_t_known c_t_truth c_t_x out c_t_w) none A) (wwX8_mix cyB cyI cyJ cyZ cyS a_t a_t_w a_t_isKept a_t_text a_t_refused a_t_numbers a_t_weights c_t_texted c_t_above c_t_below c_t_at c_t_start c_t_isWord c_t_isFigures c_t_all c_t_known c_t_truth c_t_x l2_c_t_h c_t_w) [(0, .ref a_t), (1, .int p1), (2, .int p2), (3, .int l2_3)] [] 2 := by
    intro n
    induction n with
    | zero => intro l2_3 l2_c_t_h hf; exact (pb_lp_zero hf).elim
    | succ n ih2 =>
      intro l2_3 l2_c_t_h hf
      obtain ⟨y2, hf, hl2⟩ := pb_lp_succ hf
      have hf : fX8_mix_L2 c_t_w p1 p2 l2_3 l2_c_t_h = some y2 := hf
      unfold fX8_mix_L2 at hf
      refine pb_iload_n (pc := 2) C dX8_mix_2 rfl 3 rfl ?_
      refine pb_iload_n (pc := 3) C dX8_mix_3 rfl 2 rfl ?_
      refine pb_icmp_ge (pc := 4) (tgt := 35) C dX8_mix_4 (by decide) (fun hc4 => ?_) (fun hc4 => ?_)
      · have hf := pb_pos hf hc4
        obtain rfl := Option.some.inj hf
        obtain rfl := pb_esc hl2
        refine pb_sub [] rfl ?_
        exact E2 l2_3 l2_c_t_h hk2
      · have hf := pb_neg hf hc4
        refine pb_aload_n (pc := 7) C dX8_mix_7 rfl 0 rfl ?_
        refine pb_ldc2 (v := 31) (pc := 8) C dX8_mix_8 (List.mem_of_getElem? (i := 1) rfl) ?_
        refine pb_aload_n (pc := 11) C dX8_mix_11 rfl 0 rfl ?_
        refine pb_get (pc := 12) C hnX8_mix_X8 0 rfl rfl 17 (by decide) (List.mem_of_getElem? (i := 2) rfl) rfl rfl dX8_mix_12 ?_
        refine pb_lmul (pc := 15) C dX8_mix_15 ?_
        refine pb_aload_n (pc := 16) C dX8_mix_16 rfl 0 rfl ?_
        refine pb_get (pc := 17) C hnX8_mix_X8 0 rfl rfl 0 (by decide) (List.mem_of_getElem? (i := 3) rfl) rfl rfl dX8_mix_17 ?_
        refine pb_iload_n (pc := 20) C dX8_mix_20 rfl 1 rfl ?_
        refine pb_iload_n (pc := 21) C dX8_mix_21 rfl 3 rfl ?_
        refine pb_iadd (pc := 22) C dX8_mix_22 ?_
        obtain ⟨g23, hf⟩ := pb_grd hf
        refine pb_iald (pc := 23) C 1 1 rfl rfl g23 dX8_mix_23 ?_
        refine pb_i2l (pc := 24) C dX8_mix_24 ?_
        refine pb_ladd (pc := 25) C dX8_mix_25 ?_
        obtain ⟨x26, ex26, hf⟩ := pb_bind hf
        have ex26 := Option.some.inj ex26
        refine pb_topl ex26 ?_
        refine pb_put (pc := 26) (ws' := (wwX8_mix cyB cyI cyJ cyZ cyS a_t a_t_w a_t_isKept a_t_text a_t_refused a_t_numbers a_t_weights c_t_texted c_t_above c_t_below c_t_at c_t_start c_t_isWord c_t_isFigures c_t_all c_t_known c_t_truth c_t_x x26 c_t_w)) C hnX8_mix_X8 tyX8 tyX8_ok nmX8 0 rfl rfl 17 (by decide) (List.mem_of_getElem? (i := 2) rfl) rfl rfl rfl rfl (Nat.le_of_ble_eq_true rfl) rfl dX8_mix_26 ?_
        refine pb_iinc (v := l2_3 + 1) (lv' := [(3, .int (l2_3 + 1)), (0, .ref a_t), (1, .int p1), (2, .int p2)]) (pc := 29) C dX8_mix_29 3 rfl (pb_inc pb_kI_1 rfl) (by decide) rfl ?_
        refine pb_goto (pc := 32) (tgt := 2) C dX8_mix_32 (by decide) ?_
        obtain rfl := Option.some.inj hf
        refine pb_sub [1, 2, 3, 0] rfl ?_
        have hl2 := pb_inl hl2
        exact ih2 (l2_3 + 1) x26 hl2
  refine pb_sub [1, 2, 3, 0] rfl ?_
  exact L2 pb_FU 0 c_t_h hz2
def rmX8_digest : Room := { frames := 1, cells := 0, slots := 0, locals := 23 }
def wwX8_digest (cyB cyI cyJ cyZ cyS : ClassId) (a_t a_t_w a_t_isKept a_t_text a_t_refused a_t_numbers a_t_weights : Nat) (c_t_texted : Int32) (c_t_above : Int64) (c_t_below : Int64) (c_t_at : Int32) (c_t_start : Int32) (c_t_isWord : Int32) (c_t_isFigures : Int32) (c_t_all : Int64) (c_t_known : Int32) (c_t_truth : Int32) (c_t_x : Int64) (c_t_h : Int64) (c_t_w : (Nat → Int32)) : va_W := [(a_t, .inr (8, [.ref a_t_w, .ref a_t_isKept, .ref a_t_text, .int c_t_texted, .ref a_t_refused, .long c_t_above, .long c_t_below, .int c_t_at, .int c_t_start, .int c_t_isWord, .int c_t_isFigures, .ref a_t_numbers, .ref a_t_weights, .long c_t_all, .int c_t_known, .int c_t_truth, .long c_t_x, .long c_t_h])), (a_t_w, .inl (cyI, 1508, .inl c_t_w))]
theorem hnX8_digest_X8 : ∀ w ∈ wsX80, w ∈ wsX8_digest := fun _ h => List.mem_cons_of_mem _ (List.mem_append_right _ h)
set_option maxHeartbeats 4000000 in
set_option maxRecDepth 100000 in
theorem kcX8_digest (l : Launch) (dC : Nat → ClassId) (dI : Nat → Nat → Nat) (cyB cyI cyJ cyZ cyS : ClassId) (a_t a_t_w a_t_isKept a_t_text a_t_refused a_t_numbers a_t_weights : Nat) (c_t_texted : Int32) (c_t_above : Int64) (c_t_below : Int64) (c_t_at : Int32) (c_t_start : Int32) (c_t_isWord : Int32) (c_t_isFigures : Int32) (c_t_all : Int64) (c_t_known : Int32) (c_t_truth : Int32) (c_t_x : Int64) (c_t_h : Int64) (c_t_w : (Nat → Int32)) (out : (Int64 × Int64)) (hf : fX8_digest c_t_texted c_t_above c_t_below c_t_h c_t_w = some out) : pb_K l yX8_digest wsX8_digest rmX8_digest (dC, dI) vwCl (pb_tys cyB cyI cyJ cyZ cyS) pb_NW [.ref a_t] (wwX8_digest cyB cyI cyJ cyZ cyS a_t a_t_w a_t_isKept a_t_text a_t_refused a_t_numbers a_t_weights c_t_texted c_t_above c_t_below c_t_at c_t_start c_t_isWord c_t_isFigures c_t_all c_t_known c_t_truth c_t_x c_t_h c_t_w) (wwX8_digest cyB cyI cyJ cyZ cyS a_t a_t_w a_t_isKept a_t_text a_t_refused a_t_numbers a_t_weights c_t_texted c_t_above c_t_below c_t_at c_t_start c_t_isWord c_t_isFigures c_t_all c_t_known c_t_truth c_t_x out.2 c_t_w) (some (.long out.1)) := by
  unfold fX8_digest at hf
  refine pb_K.ofV (cc := cX8_digest) (maxL := 2) (ret := (some .long)) (lv0 := [(0, .ref a_t)]) (by decide) rfl (Nat.le_of_ble_eq_true rfl) rfl ?_
  intro p e s m below meth c A C hX hr hlk hA
  refine pb_aload_n (pc := 0) C dX8_digest_0 rfl 0 rfl ?_
  refine pb_ldc2 (v := 1031) (pc := 1) C dX8_digest_1 (List.mem_of_getElem? (i := 1) rfl) ?_
  refine pb_put (pc := 4) (ws' := (wwX8_digest cyB cyI cyJ cyZ cyS a_t a_t_w a_t_isKept a_t_text a_t_refused a_t_numbers a_t_weights c_t_texted c_t_above c_t_below c_t_at c_t_start c_t_isWord c_t_isFigures c_t_all c_t_known c_t_truth c_t_x 1031 c_t_w)) C hnX8_digest_X8 tyX8 tyX8_ok nmX8 0 rfl rfl 17 (by decide) (List.mem_of_getElem? (i := 2) rfl) rfl rfl rfl rfl (Nat.le_of_ble_eq_true rfl) rfl dX8_digest_4 ?_
  refine pb_iconst (v := 0) (pc := 7) C dX8_digest_7 pb_kI_0 ?_
  refine pb_istore_n (lv' := [(1, .int 0), (0, .ref a_t)]) (pc := 8) C dX8_digest_8 rfl (by decide) rfl ?_
  obtain ⟨z9, hz9, hk9⟩ := pb_bind hf
  have E9 : ∀ (e9_1 : Int32) (e9_c_t_h : Int64), fX8_digest_E9 c_t_above c_t_below c_t_w e9_1 e9_c_t_h = some out → pb_V p l e rmX8_digest s m (([.ref a_t] : List Value).toArray) below meth c 2 (dC, dI) vwCl A 0 0 (pb_MQ below (([.ref a_t] : List Value).toArray) s (dC, dI) vwCl (wwX8_digest cyB cyI cyJ cyZ cyS a_t a_t_w a_t_isKept a_t_text a_t_refused a_t_numbers a_t_weights c_t_texted c_t_above c_t_below c_t_at c_t_start c_t_isWord c_t_isFigures c_t_all c_t_known c_t_truth c_t_x c_t_h c_t_w) (wwX8_digest cyB cyI cyJ cyZ cyS a_t a_t_w a_t_isKept a_t_text a_t_refused a_t_numbers a_t_weights c_t_texted c_t_above c_t_below c_t_at c_t_start c_t_isWord c_t_isFigures c_t_all c_t_known c_t_truth c_t_x out.2 c_t_w) (some (.long out.1)) A) (wwX8_digest cyB cyI cyJ cyZ cyS a_t a_t_w a_t_isKept a_t_text a_t_refused a_t_numbers a_t_weights c_t_texted c_t_above c_t_below c_t_at c_t_start c_t_isWord c_t_isFigures c_t_all c_t_known c_t_truth c_t_x e9_c_t_h c_t_w) [(0, .ref a_t)] [] 40 := by
    intro e9_1 e9_c_t_h hf
    unfold fX8_digest_E9 at hf
    refine pb_aload_n (pc := 40) C dX8_digest_40 rfl 0 rfl ?_
    refine pb_iconst (v := 5) (pc := 41) C dX8_digest_41 pb_kI_5 ?_
    refine pb_iconst (v := 3) (pc := 42) C dX8_digest_42 pb_kI_3 ?_
    refine pb_aload_n (pc := 43) C dX8_digest_43 rfl 0 rfl ?_
    refine pb_get (pc := 44) C hnX8_digest_X8 0 rfl rfl 0 (by decide) (List.mem_of_getElem? (i := 4) rfl) rfl rfl dX8_digest_44 ?_
    refine pb_iconst (v := 0) (pc := 47) C dX8_digest_47 pb_kI_0 ?_
    refine pb_iald (pc := 48) C 1 1 rfl rfl pb_ok_0_1508 dX8_digest_48 ?_
    refine pb_topi (congrArg c_t_w pb_kN_0) ?_
    refine pb_imul (pc := 49) C dX8_digest_49 ?_
    obtain ⟨r50, hr50, hf⟩ := pb_bind hf
    refine pb_callV (pc := 50) (n0 := 2) (ws' := (wwX8_digest cyB cyI cyJ cyZ cyS a_t a_t_w a_t_isKept a_t_text a_t_refused a_t_numbers a_t_weights c_t_texted c_t_above c_t_below c_t_at c_t_start c_t_isWord c_t_isFigures c_t_all c_t_known c_t_truth c_t_x r50 c_t_w)) (rest := []) (st2 := []) C (kcX8_mix l dC dI cyB cyI cyJ cyZ cyS a_t a_t_w a_t_isKept a_t_text a_t_refused a_t_numbers a_t_weights c_t_texted c_t_above c_t_below c_t_at c_t_start c_t_isWord c_t_isFigures c_t_all c_t_known c_t_truth c_t_x e9_c_t_h c_t_w 5 (3 * (c_t_w 0)) r50 hr50) pb_NW_b (pb_NW_x hX) (cwV 2 C.1.2.2.2.2 gX8_digest_X8_mix rfl rfl rfl kdV_X8_mix ⟨Nat.le_of_ble_eq_true rfl, Nat.le_of_ble_eq_true rfl⟩) 0 rfl rfl [0, 1] [] rfl rfl trivial rfl (by decide +kernel) (adl := [a_t, a_t_w]) rfl rfl rfl rfl rfl (Nat.le_of_ble_eq_true rfl) ⟨Nat.le_refl _, Nat.le_refl _⟩ dX8_digest_50 rfl ?_
    refine pb_aload_n (pc := 53) C dX8_digest_53 rfl 0 rfl ?_
    refine pb_bipush (v := 29) (pc := 54) C dX8_digest_54 pb_kB_29 ?_
    refine pb_iconst (v := 3) (pc := 56) C dX8_digest_56 pb_kI_3 ?_
    refine pb_aload_n (pc := 57) C dX8_digest_57 rfl 0 rfl ?_
    refine pb_get (pc := 58) C hnX8_digest_X8 0 rfl rfl 0 (by decide) (List.mem_of_getElem? (i := 4) rfl) rfl rfl dX8_digest_58 ?_
    refine pb_iconst (v := 1) (pc := 61) C dX8_digest_61 pb_kI_1 ?_
    refine pb_iald (pc := 62) C 1 1 rfl rfl pb_ok_1_1508 dX8_digest_62 ?_
    refine pb_topi (congrArg c_t_w pb_kN_1) ?_
    refine pb_imul (pc := 63) C dX8_digest_63 ?_
    obtain ⟨r64, hr64, hf⟩ := pb_bind hf
    refine pb_callV (pc := 64) (n0 := 2) (ws' := (wwX8_digest cyB cyI cyJ cyZ cyS a_t a_t_w a_t_isKept a_t_text a_t_refused a_t_numbers a_t_weights c_t_texted c_t_above c_t_below c_t_at c_t_start c_t_isWord c_t_isFigures c_t_all c_t_known c_t_truth c_t_x r64 c_t_w)) (rest := []) (st2 := []) C (kcX8_mix l dC dI cyB cyI cyJ cyZ cyS a_t a_t_w a_t_isKept a_t_text a_t_refused a_t_numbers a_t_weights c_t_texted c_t_above c_t_below c_t_at c_t_start c_t_isWord c_t_isFigures c_t_all c_t_known c_t_truth c_t_x r50 c_t_w 29 (3 * (c_t_w 1)) r64 hr64) pb_NW_b (pb_NW_x hX) (cwV 2 C.1.2.2.2.2 gX8_digest_X8_mix rfl rfl rfl kdV_X8_mix ⟨Nat.le_of_ble_eq_true rfl, Nat.le_of_ble_eq_true rfl⟩) 0 rfl rfl [0, 1] [] rfl rfl trivial rfl (by decide +kernel) (adl := [a_t, a_t_w]) rfl rfl rfl rfl rfl (Nat.le_of_ble_eq_true rfl) ⟨Nat.le_refl _, Nat.le_refl _⟩ dX8_digest_64 rfl ?_
    refine pb_aload_n (pc := 67) C dX8_digest_67 rfl 0 rfl ?_
    refine pb_bipush (v := 59) (pc := 68) C dX8_digest_68 pb_kB_59 ?_
    refine pb_iconst (v := 5) (pc := 70) C dX8_digest_70 pb_kI_5 ?_
    refine pb_aload_n (pc := 71) C dX8_digest_71 rfl 0 rfl ?_
    refine pb_get (pc := 72) C hnX8_digest_X8 0 rfl rfl 0 (by decide) (List.mem_of_getElem? (i := 4) rfl) rfl rfl dX8_digest_72 ?_
    refine pb_iconst (v := 2) (pc := 75) C dX8_digest_75 pb_kI_2 ?_
    refine pb_iald (pc := 76) C 1 1 rfl rfl pb_ok_2_1508 dX8_digest_76 ?_
    refine pb_topi (congrArg c_t_w pb_kN_2) ?_
    refine pb_imul (pc := 77) C dX8_digest_77 ?_
    obtain ⟨r78, hr78, hf⟩ := pb_bind hf
    refine pb_callV (pc := 78) (n0 := 2) (ws' := (wwX8_digest cyB cyI cyJ cyZ cyS a_t a_t_w a_t_isKept a_t_text a_t_refused a_t_numbers a_t_weights c_t_texted c_t_above c_t_below c_t_at c_t_start c_t_isWord c_t_isFigures c_t_all c_t_known c_t_truth c_t_x r78 c_t_w)) (rest := []) (st2 := []) C (kcX8_mix l dC dI cyB cyI cyJ cyZ cyS a_t a_t_w a_t_isKept a_t_text a_t_refused a_t_numbers a_t_weights c_t_texted c_t_above c_t_below c_t_at c_t_start c_t_isWord c_t_isFigures c_t_all c_t_known c_t_truth c_t_x r64 c_t_w 59 (5 * (c_t_w 2)) r78 hr78) pb_NW_b (pb_NW_x hX) (cwV 2 C.1.2.2.2.2 gX8_digest_X8_mix rfl rfl rfl kdV_X8_mix ⟨Nat.le_of_ble_eq_true rfl, Nat.le_of_ble_eq_true rfl⟩) 0 rfl rfl [0, 1] [] rfl rfl trivial rfl (by decide +kernel) (adl := [a_t, a_t_w]) rfl rfl rfl rfl rfl (Nat.le_of_ble_eq_true rfl) ⟨Nat.le_refl _, Nat.le_refl _⟩ dX8_digest_78 rfl ?_
    refine pb_aload_n (pc := 81) C dX8_digest_81 rfl 0 rfl ?_
    refine pb_bipush (v := 99) (pc := 82) C dX8_digest_82 pb_kB_99 ?_
    refine pb_iconst (v := 5) (pc := 84) C dX8_digest_84 pb_kI_5 ?_
    refine pb_aload_n (pc := 85) C dX8_digest_85 rfl 0 rfl ?_
    refine pb_get (pc := 86) C hnX8_digest_X8 0 rfl rfl 0 (by decide) (List.mem_of_getElem? (i := 4) rfl) rfl rfl dX8_digest_86 ?_
    refine pb_iconst (v := 3) (pc := 89) C dX8_digest_89 pb_kI_3 ?_
    refine pb_iald (pc := 90) C 1 1 rfl rfl pb_ok_3_1508 dX8_digest_90 ?_
    refine pb_topi (congrArg c_t_w pb_kN_3) ?_
    refine pb_imul (pc := 91) C dX8_digest_91 ?_
    obtain ⟨r92, hr92, hf⟩ := pb_bind hf
    refine pb_callV (pc := 92) (n0 := 2) (ws' := (wwX8_digest cyB cyI cyJ cyZ cyS a_t a_t_w a_t_isKept a_t_text a_t_refused a_t_numbers a_t_weights c_t_texted c_t_above c_t_below c_t_at c_t_start c_t_isWord c_t_isFigures c_t_all c_t_known c_t_truth c_t_x r92 c_t_w)) (rest := []) (st2 := []) C (kcX8_mix l dC dI cyB cyI cyJ cyZ cyS a_t a_t_w a_t_isKept a_t_text a_t_refused a_t_numbers a_t_weights c_t_texted c_t_above c_t_below c_t_at c_t_start c_t_isWord c_t_isFigures c_t_all c_t_known c_t_truth c_t_x r78 c_t_w 99 (5 * (c_t_w 3)) r92 hr92) pb_NW_b (pb_NW_x hX) (cwV 2 C.1.2.2.2.2 gX8_digest_X8_mix rfl rfl rfl kdV_X8_mix ⟨Nat.le_of_ble_eq_true rfl, Nat.le_of_ble_eq_true rfl⟩) 0 rfl rfl [0, 1] [] rfl rfl trivial rfl (by decide +kernel) (adl := [a_t, a_t_w]) rfl rfl rfl rfl rfl (Nat.le_of_ble_eq_true rfl) ⟨Nat.le_refl _, Nat.le_refl _⟩ dX8_digest_92 rfl ?_
    refine pb_aload_n (pc := 95) C dX8_digest_95 rfl 0 rfl ?_
    refine pb_ldc2 (v := 31) (pc := 96) C dX8_digest_96 (List.mem_of_getElem? (i := 3) rfl) ?_
    refine pb_aload_n (pc := 99) C dX8_digest_99 rfl 0 rfl ?_
    refine pb_get (pc := 100) C hnX8_digest_X8 0 rfl rfl 17 (by decide) (List.mem_of_getElem? (i := 2) rfl) rfl rfl dX8_digest_100 ?_
    refine pb_lmul (pc := 103) C dX8_digest_103 ?_
    refine pb_aload_n (pc := 104) C dX8_digest_104 rfl 0 rfl ?_
    refine pb_get (pc := 105) C hnX8_digest_X8 0 rfl rfl 5 (by decide) (List.mem_of_getElem? (i := 5) rfl) rfl rfl dX8_digest_105 ?_
    refine pb_ladd (pc := 108) C dX8_digest_108 ?_
    obtain ⟨x109, ex109, hf⟩ := pb_bind hf
    have ex109 := Option.some.inj ex109
    refine pb_topl ex109 ?_
    refine pb_put (pc := 109) (ws' := (wwX8_digest cyB cyI cyJ cyZ cyS a_t a_t_w a_t_isKept a_t_text a_t_refused a_t_numbers a_t_weights c_t_texted c_t_above c_t_below c_t_at c_t_start c_t_isWord c_t_isFigures c_t_all c_t_known c_t_truth c_t_x x109 c_t_w)) C hnX8_digest_X8 tyX8 tyX8_ok nmX8 0 rfl rfl 17 (by decide) (List.mem_of_getElem? (i := 2) rfl) rfl rfl rfl rfl (Nat.le_of_ble_eq_true rfl) rfl dX8_digest_109 ?_
    refine pb_aload_n (pc := 112) C dX8_digest_112 rfl 0 rfl ?_
    refine pb_ldc2 (v := 31) (pc := 113) C dX8_digest_113 (List.mem_of_getElem? (i := 3) rfl) ?_
    refine pb_aload_n (pc := 116) C dX8_digest_116 rfl 0 rfl ?_
    refine pb_get (pc := 117) C hnX8_digest_X8 0 rfl rfl 17 (by decide) (List.mem_of_getElem? (i := 2) rfl) rfl rfl dX8_digest_117 ?_
    refine pb_lmul (pc := 120) C dX8_digest_120 ?_
    refine pb_aload_n (pc := 121) C dX8_digest_121 rfl 0 rfl ?_
    refine pb_get (pc := 122) C hnX8_digest_X8 0 rfl rfl 6 (by decide) (List.mem_of_getElem? (i := 6) rfl) rfl rfl dX8_digest_122 ?_
    refine pb_ladd (pc := 125) C dX8_digest_125 ?_
    obtain ⟨x126, ex126, hf⟩ := pb_bind hf
    have ex126 := Option.some.inj ex126
    refine pb_topl ex126 ?_
    refine pb_put (pc := 126) (ws' := (wwX8_digest cyB cyI cyJ cyZ cyS a_t a_t_w a_t_isKept a_t_text a_t_refused a_t_numbers a_t_weights c_t_texted c_t_above c_t_below c_t_at c_t_start c_t_isWord c_t_isFigures c_t_all c_t_known c_t_truth c_t_x x126 c_t_w)) C hnX8_digest_X8 tyX8 tyX8_ok nmX8 0 rfl rfl 17 (by decide) (List.mem_of_getElem? (i := 2) rfl) rfl rfl rfl rfl (Nat.le_of_ble_eq_true rfl) rfl dX8_digest_126 ?_
    refine pb_aload_n (pc := 129) C dX8_digest_129 rfl 0 rfl ?_
    refine pb_get (pc := 130) C hnX8_digest_X8 0 rfl rfl 17 (by decide) (List.mem_of_getElem? (i := 2) rfl) rfl rfl dX8_digest_130 ?_
    obtain rfl := Option.some.inj hf
    exact pb_lret (pc := 133) C hr hlk hA dX8_digest_133
  have L9 : ∀ (n : Nat) (l9_1 : Int32) (l9_c_t_h : Int64), pb_lp (fun y => fX8_digest_L9 c_t_texted c_t_w y.1 y.2) n (l9_1, l9_c_t_h) = some z9 → pb_V p l e rmX8_digest s m (([.ref a_t] : List Value).toArray) below meth c 2 (dC, dI) vwCl A 0 0 (pb_MQ below (([.ref a_t] : List Value).toArray) s (dC, dI) vwCl (wwX8_digest cyB cyI cyJ cyZ cyS a_t a_t_w a_t_isKept a_t_text a_t_refused a_t_numbers a_t_weights c_t_texted c_t_above c_t_below c_t_at c_t_start c_t_isWord c_t_isFigures c_t_all c_t_known c_t_truth c_t_x c_t_h c_t_w) (wwX8_digest cyB cyI cyJ cyZ cyS a_t a_t_w a_t_isKept a_t_text a_t_refused a_t_numbers a_t_weights c_t_texted c_t_above c_t_below c_t_at c_t_start c_t_isWord c_t_isFigures c_t_all c_t_known c_t_truth c_t_x out.2 c_t_w) (some (.long out.1)) A) (wwX8_digest cyB cyI cyJ cyZ cyS a_t a_t_w a_t_isKept a_t_text a_t_refused a_t_numbers a_t_weights c_t_texted c_t_above c_t_below c_t_at c_t_start c_t_isWord c_t_isFigures c_t_all c_t_known c_t_truth c_t_x l9_c_t_h c_t_w) [(0, .ref a_t), (1, .int l9_1)] [] 9 := by
    intro n
    induction n with
    | zero => intro l9_1 l9_c_t_h hf; exact (pb_lp_zero hf).elim
    | succ n ih9 =>
      intro l9_1 l9_c_t_h hf
      obtain ⟨y9, hf, hl9⟩ := pb_lp_succ hf
      have hf : fX8_digest_L9 c_t_texted c_t_w l9_1 l9_c_t_h = some y9 := hf
      unfold fX8_digest_L9 at hf
      refine pb_iload_n (pc := 9) C dX8_digest_9 rfl 1 rfl ?_
      refine pb_bipush (v := 6) (pc := 10) C dX8_digest_10 pb_kB_6 ?_
      refine pb_icmp_ge (pc := 12) (tgt := 40) C dX8_digest_12 (by decide) (fun hc12 => ?_) (fun hc12 => ?_)
      · have hf := pb_pos hf hc12
        obtain rfl := Option.some.inj hf
        obtain rfl := pb_esc hl9
        refine pb_sub [0] rfl ?_
        exact E9 l9_1 l9_c_t_h hk9
      · have hf := pb_neg hf hc12
        refine pb_aload_n (pc := 15) C dX8_digest_15 rfl 0 rfl ?_
        refine pb_ldc2 (v := 31) (pc := 16) C dX8_digest_16 (List.mem_of_getElem? (i := 3) rfl) ?_
        refine pb_aload_n (pc := 19) C dX8_digest_19 rfl 0 rfl ?_
        refine pb_get (pc := 20) C hnX8_digest_X8 0 rfl rfl 17 (by decide) (List.mem_of_getElem? (i := 2) rfl) rfl rfl dX8_digest_20 ?_
        refine pb_lmul (pc := 23) C dX8_digest_23 ?_
        refine pb_aload_n (pc := 24) C dX8_digest_24 rfl 0 rfl ?_
        refine pb_iload_n (pc := 25) C dX8_digest_25 rfl 1 rfl ?_
        obtain ⟨r26, hr26, hf⟩ := pb_bind hf
        refine pb_callV (pc := 26) (n0 := 2) (ws' := (wwX8_digest cyB cyI cyJ cyZ cyS a_t a_t_w a_t_isKept a_t_text a_t_refused a_t_numbers a_t_weights c_t_texted c_t_above c_t_below c_t_at c_t_start c_t_isWord c_t_isFigures c_t_all c_t_known c_t_truth c_t_x l9_c_t_h c_t_w)) (rest := [.long (31 * l9_c_t_h), .ref a_t]) (st2 := [.int r26, .long (31 * l9_c_t_h), .ref a_t]) C (kcX8_countOf l dC dI cyB cyI cyJ cyZ cyS a_t a_t_w a_t_isKept a_t_text a_t_refused a_t_numbers a_t_weights c_t_texted c_t_above c_t_below c_t_at c_t_start c_t_isWord c_t_isFigures c_t_all c_t_known c_t_truth c_t_x l9_c_t_h c_t_w l9_1 r26 hr26) pb_NW_b (pb_NW_x hX) (cwV 1 C.1.2.2.2.2 gX8_digest_X8_countOf rfl rfl rfl kdV_X8_countOf ⟨Nat.le_of_ble_eq_true rfl, Nat.le_of_ble_eq_true rfl⟩) 0 rfl rfl [0, 1] [] rfl rfl trivial rfl (by decide +kernel) (adl := [a_t, a_t_w]) rfl rfl rfl rfl rfl (Nat.le_of_ble_eq_true rfl) ⟨Nat.le_refl _, Nat.le_refl _⟩ dX8_digest_26 rfl ?_
        refine pb_i2l (pc := 29) C dX8_digest_29 ?_
        refine pb_ladd (pc := 30) C dX8_digest_30 ?_
        obtain ⟨x31, ex31, hf⟩ := pb_bind hf
        have ex31 := Option.some.inj ex31
        refine pb_topl ex31 ?_
        refine pb_put (pc := 31) (ws' := (wwX8_digest cyB cyI cyJ cyZ cyS a_t a_t_w a_t_isKept a_t_text a_t_refused a_t_numbers a_t_weights c_t_texted c_t_above c_t_below c_t_at c_t_start c_t_isWord c_t_isFigures c_t_all c_t_known c_t_truth c_t_x x31 c_t_w)) C hnX8_digest_X8 tyX8 tyX8_ok nmX8 0 rfl rfl 17 (by decide) (List.mem_of_getElem? (i := 2) rfl) rfl rfl rfl rfl (Nat.le_of_ble_eq_true rfl) rfl dX8_digest_31 ?_
        refine pb_iinc (v := l9_1 + 1) (lv' := [(1, .int (l9_1 + 1)), (0, .ref a_t)]) (pc := 34) C dX8_digest_34 1 rfl (pb_inc pb_kI_1 rfl) (by decide) rfl ?_
        refine pb_goto (pc := 37) (tgt := 9) C dX8_digest_37 (by decide) ?_
        obtain rfl := Option.some.inj hf
        refine pb_sub [1, 0] rfl ?_
        have hl9 := pb_inl hl9
        exact ih9 (l9_1 + 1) x31 hl9
  refine pb_sub [1, 0] rfl ?_
  exact L9 pb_FU 0 1031 hz9
