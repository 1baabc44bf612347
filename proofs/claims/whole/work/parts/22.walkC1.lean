def rmX3_append : Room := { frames := 0, cells := 0, slots := 0, locals := 0 }
def wwX3_append (cyB cyI cyJ cyZ cyS : ClassId) (a_t a_t_bytes a_t_numbers : Nat) (c_t_size : Int32) (c_t_place : Int32) (c_t_behind : Int32) (c_t_sort : Int32) (c_t_bytes : (Nat → Int32)) : va_W := [(a_t, .inr (3, [.ref a_t_bytes, .ref a_t_numbers, .int c_t_size, .int c_t_place, .int c_t_behind, .int c_t_sort])), (a_t_bytes, .inl (cyB, 150, .inl c_t_bytes))]
theorem hnX3_append_X3 : ∀ w ∈ wsX30, w ∈ wsX3_append := fun _ h => List.mem_cons_of_mem _ (List.mem_append_right _ h)
set_option maxHeartbeats 4000000 in
set_option maxRecDepth 100000 in
theorem kcX3_append (l : Launch) (dC : Nat → ClassId) (dI : Nat → Nat → Nat) (cyB cyI cyJ cyZ cyS : ClassId) (a_t a_t_bytes a_t_numbers : Nat) (c_t_size : Int32) (c_t_place : Int32) (c_t_behind : Int32) (c_t_sort : Int32) (c_t_bytes : (Nat → Int32)) (p1 : Int32) (out : (Int32 × (Nat → Int32))) (hf : fX3_append c_t_size c_t_bytes p1 = some out) : pb_K l yX3_append wsX3_append rmX3_append (dC, dI) vwCl (pb_tys cyB cyI cyJ cyZ cyS) pb_NW [.ref a_t, .int p1] (wwX3_append cyB cyI cyJ cyZ cyS a_t a_t_bytes a_t_numbers c_t_size c_t_place c_t_behind c_t_sort c_t_bytes) (wwX3_append cyB cyI cyJ cyZ cyS a_t a_t_bytes a_t_numbers out.1 c_t_place c_t_behind c_t_sort out.2) none := by
  unfold fX3_append at hf
  refine pb_K.ofV (cc := cX3_append) (maxL := 2) (ret := none) (lv0 := [(0, .ref a_t), (1, .int p1)]) (by decide) rfl (Nat.le_of_ble_eq_true rfl) rfl ?_
  intro p e s m below meth c A C hX hr hlk hA
  refine pb_aload_n (pc := 0) C dX3_append_0 rfl 0 rfl ?_
  refine pb_get (pc := 1) C hnX3_append_X3 0 rfl rfl 2 (by decide) (List.mem_of_getElem? (i := 1) rfl) rfl rfl dX3_append_1 ?_
  refine pb_sipush (v := 150) (pc := 4) C dX3_append_4 pb_kS_150 ?_
  refine pb_icmp_ge (pc := 7) (tgt := 31) C dX3_append_7 (by decide) (fun hc7 => ?_) (fun hc7 => ?_)
  · have hf := pb_pos hf hc7
    obtain rfl := Option.some.inj hf
    exact pb_vret (pc := 31) C hr hlk hA dX3_append_31
  · have hf := pb_neg hf hc7
    refine pb_aload_n (pc := 10) C dX3_append_10 rfl 0 rfl ?_
    refine pb_get (pc := 11) C hnX3_append_X3 0 rfl rfl 0 (by decide) (List.mem_of_getElem? (i := 2) rfl) rfl rfl dX3_append_11 ?_
    refine pb_aload_n (pc := 14) C dX3_append_14 rfl 0 rfl ?_
    refine pb_get (pc := 15) C hnX3_append_X3 0 rfl rfl 2 (by decide) (List.mem_of_getElem? (i := 1) rfl) rfl rfl dX3_append_15 ?_
    refine pb_iload_n (pc := 18) C dX3_append_18 rfl 1 rfl ?_
    refine pb_i2b (pc := 19) C dX3_append_19 ?_
    obtain ⟨g20, hf⟩ := pb_grd hf
    obtain ⟨u20, eu20, hf⟩ := pb_bind hf
    have eu20 := Option.some.inj eu20
    refine pb_bast (pc := 20) (ws' := (wwX3_append cyB cyI cyJ cyZ cyS a_t a_t_bytes a_t_numbers c_t_size c_t_place c_t_behind c_t_sort u20)) C 1 0 rfl rfl g20 eu20 rfl dX3_append_20 ?_
    refine pb_aload_n (pc := 21) C dX3_append_21 rfl 0 rfl ?_
    refine pb_dup (pc := 22) C dX3_append_22 rfl ?_
    refine pb_get (pc := 23) C hnX3_append_X3 0 rfl rfl 2 (by decide) (List.mem_of_getElem? (i := 1) rfl) rfl rfl dX3_append_23 ?_
    refine pb_iconst (v := 1) (pc := 26) C dX3_append_26 pb_kI_1 ?_
    refine pb_iadd (pc := 27) C dX3_append_27 ?_
    obtain ⟨x28, ex28, hf⟩ := pb_bind hf
    have ex28 := Option.some.inj ex28
    refine pb_topi ex28 ?_
    refine pb_put (pc := 28) (ws' := (wwX3_append cyB cyI cyJ cyZ cyS a_t a_t_bytes a_t_numbers x28 c_t_place c_t_behind c_t_sort u20)) C hnX3_append_X3 tyX3 tyX3_ok nmX3 0 rfl rfl 2 (by decide) (List.mem_of_getElem? (i := 1) rfl) rfl rfl rfl rfl (Nat.le_of_ble_eq_true rfl) rfl dX3_append_28 ?_
    obtain rfl := Option.some.inj hf
    exact pb_vret (pc := 31) C hr hlk hA dX3_append_31
def rmX3_isLetter : Room := { frames := 0, cells := 0, slots := 0, locals := 0 }
def wwX3_isLetter (cyB cyI cyJ cyZ cyS : ClassId) : va_W := []
set_option maxHeartbeats 4000000 in
set_option maxRecDepth 100000 in
theorem kcX3_isLetter (l : Launch) (dC : Nat → ClassId) (dI : Nat → Nat → Nat) (cyB cyI cyJ cyZ cyS : ClassId) (p1 : Int32) (out : Int32) (hf : fX3_isLetter p1 = some out) : pb_K l yX3_isLetter wsX3_isLetter rmX3_isLetter (dC, dI) vwCl (pb_tys cyB cyI cyJ cyZ cyS) pb_NW [.int p1] (wwX3_isLetter cyB cyI cyJ cyZ cyS) (wwX3_isLetter cyB cyI cyJ cyZ cyS) (some (.int out)) := by
  unfold fX3_isLetter at hf
  refine pb_K.ofV (cc := cX3_isLetter) (maxL := 1) (ret := (some .boolean)) (lv0 := [(0, .int p1)]) (by decide) rfl (Nat.le_of_ble_eq_true rfl) rfl ?_
  intro p e s m below meth c A C hX hr hlk hA
  refine pb_iload_n (pc := 0) C dX3_isLetter_0 rfl 0 rfl ?_
  refine pb_bipush (v := 97) (pc := 1) C dX3_isLetter_1 pb_kB_97 ?_
  refine pb_icmp_lt (pc := 3) (tgt := 16) C dX3_isLetter_3 (by decide) (fun hc3 => ?_) (fun hc3 => ?_)
  · have hf := pb_pos hf hc3
    refine pb_iconst (v := 0) (pc := 16) C dX3_isLetter_16 pb_kI_0 ?_
    obtain rfl := Option.some.inj hf
    exact pb_zret (pc := 17) C hr hlk hA pb_isB0 dX3_isLetter_17
  · have hf := pb_neg hf hc3
    refine pb_iload_n (pc := 6) C dX3_isLetter_6 rfl 0 rfl ?_
    refine pb_bipush (v := 122) (pc := 7) C dX3_isLetter_7 pb_kB_122 ?_
    refine pb_icmp_gt (pc := 9) (tgt := 16) C dX3_isLetter_9 (by decide) (fun hc9 => ?_) (fun hc9 => ?_)
    · have hf := pb_pos hf hc9
      refine pb_iconst (v := 0) (pc := 16) C dX3_isLetter_16 pb_kI_0 ?_
      obtain rfl := Option.some.inj hf
      exact pb_zret (pc := 17) C hr hlk hA pb_isB0 dX3_isLetter_17
    · have hf := pb_neg hf hc9
      refine pb_iconst (v := 1) (pc := 12) C dX3_isLetter_12 pb_kI_1 ?_
      refine pb_goto (pc := 13) (tgt := 17) C dX3_isLetter_13 (by decide) ?_
      obtain rfl := Option.some.inj hf
      exact pb_zret (pc := 17) C hr hlk hA pb_isB1 dX3_isLetter_17
def rmX3_isFigure : Room := { frames := 0, cells := 0, slots := 0, locals := 0 }
def wwX3_isFigure (cyB cyI cyJ cyZ cyS : ClassId) : va_W := []
set_option maxHeartbeats 4000000 in
set_option maxRecDepth 100000 in
theorem kcX3_isFigure (l : Launch) (dC : Nat → ClassId) (dI : Nat → Nat → Nat) (cyB cyI cyJ cyZ cyS : ClassId) (p1 : Int32) (out : Int32) (hf : fX3_isFigure p1 = some out) : pb_K l yX3_isFigure wsX3_isFigure rmX3_isFigure (dC, dI) vwCl (pb_tys cyB cyI cyJ cyZ cyS) pb_NW [.int p1] (wwX3_isFigure cyB cyI cyJ cyZ cyS) (wwX3_isFigure cyB cyI cyJ cyZ cyS) (some (.int out)) := by
  unfold fX3_isFigure at hf
  refine pb_K.ofV (cc := cX3_isFigure) (maxL := 1) (ret := (some .boolean)) (lv0 := [(0, .int p1)]) (by decide) rfl (Nat.le_of_ble_eq_true rfl) rfl ?_
  intro p e s m below meth c A C hX hr hlk hA
  refine pb_iload_n (pc := 0) C dX3_isFigure_0 rfl 0 rfl ?_
  refine pb_bipush (v := 48) (pc := 1) C dX3_isFigure_1 pb_kB_48 ?_
  refine pb_icmp_lt (pc := 3) (tgt := 16) C dX3_isFigure_3 (by decide) (fun hc3 => ?_) (fun hc3 => ?_)
  · have hf := pb_pos hf hc3
    refine pb_iconst (v := 0) (pc := 16) C dX3_isFigure_16 pb_kI_0 ?_
    obtain rfl := Option.some.inj hf
    exact pb_zret (pc := 17) C hr hlk hA pb_isB0 dX3_isFigure_17
  · have hf := pb_neg hf hc3
    refine pb_iload_n (pc := 6) C dX3_isFigure_6 rfl 0 rfl ?_
    refine pb_bipush (v := 57) (pc := 7) C dX3_isFigure_7 pb_kB_57 ?_
    refine pb_icmp_gt (pc := 9) (tgt := 16) C dX3_isFigure_9 (by decide) (fun hc9 => ?_) (fun hc9 => ?_)
    · have hf := pb_pos hf hc9
      refine pb_iconst (v := 0) (pc := 16) C dX3_isFigure_16 pb_kI_0 ?_
      obtain rfl := Option.some.inj hf
      exact pb_zret (pc := 17) C hr hlk hA pb_isB0 dX3_isFigure_17
    · have hf := pb_neg hf hc9
      refine pb_iconst (v := 1) (pc := 12) C dX3_isFigure_12 pb_kI_1 ?_
      refine pb_goto (pc := 13) (tgt := 17) C dX3_isFigure_13 (by decide) ?_
      obtain rfl := Option.some.inj hf
      exact pb_zret (pc := 17) C hr hlk hA pb_isB1 dX3_isFigure_17
def rmX3_endOfRun : Room := { frames := 1, cells := 0, slots := 0, locals := 20 }
def wwX3_endOfRun (cyB cyI cyJ cyZ cyS : ClassId) (a_t a_t_bytes a_t_numbers : Nat) (c_t_size : Int32) (c_t_place : Int32) (c_t_behind : Int32) (c_t_sort : Int32) (c_t_bytes : (Nat → Int32)) : va_W := [(a_t, .inr (3, [.ref a_t_bytes, .ref a_t_numbers, .int c_t_size, .int c_t_place, .int c_t_behind, .int c_t_sort])), (a_t_bytes, .inl (cyB, 150, .inl c_t_bytes))]
theorem hnX3_endOfRun_X3 : ∀ w ∈ wsX30, w ∈ wsX3_endOfRun := fun _ h => List.mem_cons_of_mem _ (List.mem_append_right _ h)
set_option maxHeartbeats 4000000 in
set_option maxRecDepth 100000 in
theorem kcX3_endOfRun (l : Launch) (dC : Nat → ClassId) (dI : Nat → Nat → Nat) (cyB cyI cyJ cyZ cyS : ClassId) (a_t a_t_bytes a_t_numbers : Nat) (c_t_size : Int32) (c_t_place : Int32) (c_t_behind : Int32) (c_t_sort : Int32) (c_t_bytes : (Nat → Int32)) (p1 : Int32) (out : Int32) (hf : fX3_endOfRun c_t_size c_t_place c_t_bytes p1 = some out) : pb_K l yX3_endOfRun wsX3_endOfRun rmX3_endOfRun (dC, dI) vwCl (pb_tys cyB cyI cyJ cyZ cyS) pb_NW [.ref a_t, .int p1] (wwX3_endOfRun cyB cyI cyJ cyZ cyS a_t a_t_bytes a_t_numbers c_t_size c_t_place c_t_behind c_t_sort c_t_bytes) (wwX3_endOfRun cyB cyI cyJ cyZ cyS a_t a_t_bytes a_t_numbers c_t_size c_t_place c_t_behind c_t_sort c_t_bytes) (some (.int out)) := by
  unfold fX3_endOfRun at hf
  refine pb_K.ofV (cc := cX3_endOfRun) (maxL := 3) (ret := (some .int)) (lv0 := [(0, .ref a_t), (1, .int p1)]) (by decide) rfl (Nat.le_of_ble_eq_true rfl) rfl ?_
  intro p e s m below meth c A C hX hr hlk hA
  refine pb_aload_n (pc := 0) C dX3_endOfRun_0 rfl 0 rfl ?_
  refine pb_get (pc := 1) C hnX3_endOfRun_X3 0 rfl rfl 3 (by decide) (List.mem_of_getElem? (i := 1) rfl) rfl rfl dX3_endOfRun_1 ?_
  refine pb_istore_n (lv' := [(2, .int c_t_place), (0, .ref a_t), (1, .int p1)]) (pc := 4) C dX3_endOfRun_4 rfl (by decide) rfl ?_
  obtain ⟨z5, hz5, hk5⟩ := pb_bind hf
  have E5 : ∀ (e5_2 : Int32), fX3_endOfRun_E5 e5_2 = some out → pb_V p l e rmX3_endOfRun s m (([.ref a_t, .int p1] : List Value).toArray) below meth c 3 (dC, dI) vwCl A 0 0 (pb_MQ below (([.ref a_t, .int p1] : List Value).toArray) s (dC, dI) vwCl (wwX3_endOfRun cyB cyI cyJ cyZ cyS a_t a_t_bytes a_t_numbers c_t_size c_t_place c_t_behind c_t_sort c_t_bytes) (wwX3_endOfRun cyB cyI cyJ cyZ cyS a_t a_t_bytes a_t_numbers c_t_size c_t_place c_t_behind c_t_sort c_t_bytes) (some (.int out)) A) (wwX3_endOfRun cyB cyI cyJ cyZ cyS a_t a_t_bytes a_t_numbers c_t_size c_t_place c_t_behind c_t_sort c_t_bytes) [(2, .int e5_2)] [] 51 := by
    intro e5_2 hf
    unfold fX3_endOfRun_E5 at hf
    refine pb_iload_n (pc := 51) C dX3_endOfRun_51 rfl 0 rfl ?_
    obtain rfl := Option.some.inj hf
    exact pb_iret (pc := 52) C hr hlk hA dX3_endOfRun_52
  have L5 : ∀ (n : Nat) (l5_2 : Int32), pb_lp (fun y => fX3_endOfRun_L5 c_t_size c_t_bytes p1 y) n l5_2 = some z5 → pb_V p l e rmX3_endOfRun s m (([.ref a_t, .int p1] : List Value).toArray) below meth c 3 (dC, dI) vwCl A 0 0 (pb_MQ below (([.ref a_t, .int p1] : List Value).toArray) s (dC, dI) vwCl (wwX3_endOfRun cyB cyI cyJ cyZ cyS a_t a_t_bytes a_t_numbers c_t_size c_t_place c_t_behind c_t_sort c_t_bytes) (wwX3_endOfRun cyB cyI cyJ cyZ cyS a_t a_t_bytes a_t_numbers c_t_size c_t_place c_t_behind c_t_sort c_t_bytes) (some (.int out)) A) (wwX3_endOfRun cyB cyI cyJ cyZ cyS a_t a_t_bytes a_t_numbers c_t_size c_t_place c_t_behind c_t_sort c_t_bytes) [(0, .ref a_t), (1, .int p1), (2, .int l5_2)] [] 5 := by
    intro n
    induction n with
    | zero => intro l5_2 hf; exact (pb_lp_zero hf).elim
    | succ n ih5 =>
      intro l5_2 hf
      obtain ⟨y5, hf, hl5⟩ := pb_lp_succ hf
      have hf : fX3_endOfRun_L5 c_t_size c_t_bytes p1 l5_2 = some y5 := hf
      unfold fX3_endOfRun_L5 at hf
      refine pb_iload_n (pc := 5) C dX3_endOfRun_5 rfl 2 rfl ?_
      refine pb_aload_n (pc := 6) C dX3_endOfRun_6 rfl 0 rfl ?_
      refine pb_get (pc := 7) C hnX3_endOfRun_X3 0 rfl rfl 2 (by decide) (List.mem_of_getElem? (i := 2) rfl) rfl rfl dX3_endOfRun_7 ?_
      refine pb_icmp_ge (pc := 10) (tgt := 51) C dX3_endOfRun_10 (by decide) (fun hc10 => ?_) (fun hc10 => ?_)
      · have hf := pb_pos hf hc10
        obtain rfl := Option.some.inj hf
        obtain rfl := pb_esc hl5
        refine pb_sub [2] rfl ?_
        exact E5 l5_2 hk5
      · have hf := pb_neg hf hc10
        refine pb_iload_n (pc := 13) C dX3_endOfRun_13 rfl 1 rfl ?_
        refine pb_iconst (v := 1) (pc := 14) C dX3_endOfRun_14 pb_kI_1 ?_
        refine pb_icmp_ne (pc := 15) (tgt := 33) C dX3_endOfRun_15 (by decide) (fun hc15 => ?_) (fun hc15 => ?_)
        · have hf := pb_neg hf hc15
          refine pb_aload_n (pc := 33) C dX3_endOfRun_33 rfl 0 rfl ?_
          refine pb_get (pc := 34) C hnX3_endOfRun_X3 0 rfl rfl 0 (by decide) (List.mem_of_getElem? (i := 3) rfl) rfl rfl dX3_endOfRun_34 ?_
          refine pb_iload_n (pc := 37) C dX3_endOfRun_37 rfl 2 rfl ?_
          obtain ⟨g38, hf⟩ := pb_grd hf
          refine pb_bald (pc := 38) C 1 0 rfl rfl g38 dX3_endOfRun_38 ?_
          obtain ⟨r39, hr39, hf⟩ := pb_bind hf
          refine pb_callS (pc := 39) (n0 := 2) (ws' := (wwX3_endOfRun cyB cyI cyJ cyZ cyS a_t a_t_bytes a_t_numbers c_t_size c_t_place c_t_behind c_t_sort c_t_bytes)) (rest := []) (st2 := [.int r39]) C (kcX3_isFigure l dC dI cyB cyI cyJ cyZ cyS (c_t_bytes (Int32.toNatClampNeg l5_2)) r39 hr39) pb_NW_b (pb_NW_x hX) (va_cwS 1 C.1.2.2.2.2 gX3_endOfRun_X3_isFigure rfl rfl rfl kdS_X3_isFigure ⟨Nat.le_of_ble_eq_true rfl, Nat.le_of_ble_eq_true rfl⟩) [] [0, 1] rfl rfl ⟨⟨_, rfl, rfl⟩, ⟨⟨_, rfl, rfl⟩, trivial⟩⟩ rfl (by decide +kernel) (adl := []) rfl rfl rfl rfl rfl (Nat.le_of_ble_eq_true rfl) ⟨Nat.le_refl _, Nat.le_refl _⟩ dX3_endOfRun_39 rfl ?_
          refine pb_if_eq (pc := 42) (tgt := 51) C dX3_endOfRun_42 (by decide) (fun hc42 => ?_) (fun hc42 => ?_)
          · have hf := pb_pos hf hc42
            obtain rfl := Option.some.inj hf
            obtain rfl := pb_esc hl5
            refine pb_sub [2] rfl ?_
            exact E5 l5_2 hk5
          · have hf := pb_neg hf hc42
            refine pb_iinc (v := l5_2 + 1) (lv' := [(2, .int (l5_2 + 1)), (0, .ref a_t), (1, .int p1)]) (pc := 45) C dX3_endOfRun_45 2 rfl (pb_inc pb_kI_1 rfl) (by decide) rfl ?_
            refine pb_goto (pc := 48) (tgt := 5) C dX3_endOfRun_48 (by decide) ?_
            obtain rfl := Option.some.inj hf
            refine pb_sub [1, 2, 0] rfl ?_
            have hl5 := pb_inl hl5
            exact ih5 (l5_2 + 1) hl5
        · have hf := pb_pos hf hc15
          refine pb_aload_n (pc := 18) C dX3_endOfRun_18 rfl 0 rfl ?_
          refine pb_get (pc := 19) C hnX3_endOfRun_X3 0 rfl rfl 0 (by decide) (List.mem_of_getElem? (i := 3) rfl) rfl rfl dX3_endOfRun_19 ?_
          refine pb_iload_n (pc := 22) C dX3_endOfRun_22 rfl 2 rfl ?_
          obtain ⟨g23, hf⟩ := pb_grd hf
          refine pb_bald (pc := 23) C 1 0 rfl rfl g23 dX3_endOfRun_23 ?_
          obtain ⟨r24, hr24, hf⟩ := pb_bind hf
          refine pb_callS (pc := 24) (n0 := 2) (ws' := (wwX3_endOfRun cyB cyI cyJ cyZ cyS a_t a_t_bytes a_t_numbers c_t_size c_t_place c_t_behind c_t_sort c_t_bytes)) (rest := []) (st2 := [.int r24]) C (kcX3_isLetter l dC dI cyB cyI cyJ cyZ cyS (c_t_bytes (Int32.toNatClampNeg l5_2)) r24 hr24) pb_NW_b (pb_NW_x hX) (va_cwS 1 C.1.2.2.2.2 gX3_endOfRun_X3_isLetter rfl rfl rfl kdS_X3_isLetter ⟨Nat.le_of_ble_eq_true rfl, Nat.le_of_ble_eq_true rfl⟩) [] [0, 1] rfl rfl ⟨⟨_, rfl, rfl⟩, ⟨⟨_, rfl, rfl⟩, trivial⟩⟩ rfl (by decide +kernel) (adl := []) rfl rfl rfl rfl rfl (Nat.le_of_ble_eq_true rfl) ⟨Nat.le_refl _, Nat.le_refl _⟩ dX3_endOfRun_24 rfl ?_
          refine pb_if_eq (pc := 27) (tgt := 51) C dX3_endOfRun_27 (by decide) (fun hc27 => ?_) (fun hc27 => ?_)
          · have hf := pb_pos hf hc27
            obtain rfl := Option.some.inj hf
            obtain rfl := pb_esc hl5
            refine pb_sub [2] rfl ?_
            exact E5 l5_2 hk5
          · have hf := pb_neg hf hc27
            refine pb_goto (pc := 30) (tgt := 45) C dX3_endOfRun_30 (by decide) ?_
            refine pb_iinc (v := l5_2 + 1) (lv' := [(2, .int (l5_2 + 1)), (0, .ref a_t), (1, .int p1)]) (pc := 45) C dX3_endOfRun_45 2 rfl (pb_inc pb_kI_1 rfl) (by decide) rfl ?_
            refine pb_goto (pc := 48) (tgt := 5) C dX3_endOfRun_48 (by decide) ?_
            obtain rfl := Option.some.inj hf
            refine pb_sub [1, 2, 0] rfl ?_
            have hl5 := pb_inl hl5
            exact ih5 (l5_2 + 1) hl5
  refine pb_sub [1, 2, 0] rfl ?_
  exact L5 pb_FU c_t_place hz5
def rmX3_takeToken : Room := { frames := 2, cells := 0, slots := 0, locals := 42 }
def wwX3_takeToken (cyB cyI cyJ cyZ cyS : ClassId) (a_t a_t_bytes a_t_numbers : Nat) (c_t_size : Int32) (c_t_place : Int32) (c_t_behind : Int32) (c_t_sort : Int32) (c_t_bytes : (Nat → Int32)) : va_W := [(a_t, .inr (3, [.ref a_t_bytes, .ref a_t_numbers, .int c_t_size, .int c_t_place, .int c_t_behind, .int c_t_sort])), (a_t_bytes, .inl (cyB, 150, .inl c_t_bytes))]
theorem hnX3_takeToken_X3 : ∀ w ∈ wsX30, w ∈ wsX3_takeToken := fun _ h => List.mem_cons_of_mem _ (List.mem_append_right _ h)
set_option maxHeartbeats 4000000 in
set_option maxRecDepth 100000 in
theorem kcX3_takeToken (l : Launch) (dC : Nat → ClassId) (dI : Nat → Nat → Nat) (cyB cyI cyJ cyZ cyS : ClassId) (a_t a_t_bytes a_t_numbers : Nat) (c_t_size : Int32) (c_t_place : Int32) (c_t_behind : Int32) (c_t_sort : Int32) (c_t_bytes : (Nat → Int32)) (out : (Int32 × Int32 × Int32)) (hf : fX3_takeToken c_t_size c_t_place c_t_behind c_t_sort c_t_bytes = some out) : pb_K l yX3_takeToken wsX3_takeToken rmX3_takeToken (dC, dI) vwCl (pb_tys cyB cyI cyJ cyZ cyS) pb_NW [.ref a_t] (wwX3_takeToken cyB cyI cyJ cyZ cyS a_t a_t_bytes a_t_numbers c_t_size c_t_place c_t_behind c_t_sort c_t_bytes) (wwX3_takeToken cyB cyI cyJ cyZ cyS a_t a_t_bytes a_t_numbers c_t_size out.1 out.2.1 out.2.2 c_t_bytes) none := by
  unfold fX3_takeToken at hf
  refine pb_K.ofV (cc := cX3_takeToken) (maxL := 2) (ret := none) (lv0 := [(0, .ref a_t)]) (by decide) rfl (Nat.le_of_ble_eq_true rfl) rfl ?_
  intro p e s m below meth c A C hX hr hlk hA
  refine pb_aload_n (pc := 0) C dX3_takeToken_0 rfl 0 rfl ?_
  refine pb_aload_n (pc := 1) C dX3_takeToken_1 rfl 0 rfl ?_
  refine pb_get (pc := 2) C hnX3_takeToken_X3 0 rfl rfl 4 (by decide) (List.mem_of_getElem? (i := 1) rfl) rfl rfl dX3_takeToken_2 ?_
  refine pb_put (pc := 5) (ws' := (wwX3_takeToken cyB cyI cyJ cyZ cyS a_t a_t_bytes a_t_numbers c_t_size c_t_behind c_t_behind c_t_sort c_t_bytes)) C hnX3_takeToken_X3 tyX3 tyX3_ok nmX3 0 rfl rfl 3 (by decide) (List.mem_of_getElem? (i := 2) rfl) rfl rfl rfl rfl (Nat.le_of_ble_eq_true rfl) rfl dX3_takeToken_5 ?_
  refine pb_aload_n (pc := 8) C dX3_takeToken_8 rfl 0 rfl ?_
  refine pb_get (pc := 9) C hnX3_takeToken_X3 0 rfl rfl 4 (by decide) (List.mem_of_getElem? (i := 1) rfl) rfl rfl dX3_takeToken_9 ?_
  refine pb_istore_n (lv' := [(1, .int c_t_behind), (0, .ref a_t)]) (pc := 12) C dX3_takeToken_12 rfl (by decide) rfl ?_
  obtain ⟨z13, hz13, hk13⟩ := pb_bind hf
  have E13 : ∀ (e13_1 : Int32) (e13_c_t_place : Int32), fX3_takeToken_E13 c_t_size c_t_bytes e13_1 e13_c_t_place = some out → pb_V p l e rmX3_takeToken s m (([.ref a_t] : List Value).toArray) below meth c 2 (dC, dI) vwCl A 0 0 (pb_MQ below (([.ref a_t] : List Value).toArray) s (dC, dI) vwCl (wwX3_takeToken cyB cyI cyJ cyZ cyS a_t a_t_bytes a_t_numbers c_t_size c_t_place c_t_behind c_t_sort c_t_bytes) (wwX3_takeToken cyB cyI cyJ cyZ cyS a_t a_t_bytes a_t_numbers c_t_size out.1 out.2.1 out.2.2 c_t_bytes) none A) (wwX3_takeToken cyB cyI cyJ cyZ cyS a_t a_t_bytes a_t_numbers c_t_size e13_c_t_place c_t_behind c_t_sort c_t_bytes) [(0, .ref a_t)] [] 45 := by
    intro e13_1 e13_c_t_place hf
    unfold fX3_takeToken_E13 at hf
    refine pb_aload_n (pc := 45) C dX3_takeToken_45 rfl 0 rfl ?_
    refine pb_get (pc := 46) C hnX3_takeToken_X3 0 rfl rfl 3 (by decide) (List.mem_of_getElem? (i := 2) rfl) rfl rfl dX3_takeToken_46 ?_
    refine pb_aload_n (pc := 49) C dX3_takeToken_49 rfl 0 rfl ?_
    refine pb_get (pc := 50) C hnX3_takeToken_X3 0 rfl rfl 2 (by decide) (List.mem_of_getElem? (i := 3) rfl) rfl rfl dX3_takeToken_50 ?_
    refine pb_icmp_lt (pc := 53) (tgt := 70) C dX3_takeToken_53 (by decide) (fun hc53 => ?_) (fun hc53 => ?_)
    · have hf := pb_pos hf hc53
      refine pb_aload_n (pc := 70) C dX3_takeToken_70 rfl 0 rfl ?_
      refine pb_get (pc := 71) C hnX3_takeToken_X3 0 rfl rfl 0 (by decide) (List.mem_of_getElem? (i := 4) rfl) rfl rfl dX3_takeToken_71 ?_
      refine pb_aload_n (pc := 74) C dX3_takeToken_74 rfl 0 rfl ?_
      refine pb_get (pc := 75) C hnX3_takeToken_X3 0 rfl rfl 3 (by decide) (List.mem_of_getElem? (i := 2) rfl) rfl rfl dX3_takeToken_75 ?_
      obtain ⟨g78, hf⟩ := pb_grd hf
      refine pb_bald (pc := 78) C 1 0 rfl rfl g78 dX3_takeToken_78 ?_
      obtain ⟨r79, hr79, hf⟩ := pb_bind hf
      refine pb_callS (pc := 79) (n0 := 2) (ws' := (wwX3_takeToken cyB cyI cyJ cyZ cyS a_t a_t_bytes a_t_numbers c_t_size e13_c_t_place c_t_behind c_t_sort c_t_bytes)) (rest := []) (st2 := [.int r79]) C (kcX3_isLetter l dC dI cyB cyI cyJ cyZ cyS (c_t_bytes (Int32.toNatClampNeg e13_c_t_place)) r79 hr79) pb_NW_b (pb_NW_x hX) (va_cwS 1 C.1.2.2.2.2 gX3_takeToken_X3_isLetter rfl rfl rfl kdS_X3_isLetter ⟨Nat.le_of_ble_eq_true rfl, Nat.le_of_ble_eq_true rfl⟩) [] [0, 1] rfl rfl ⟨⟨_, rfl, rfl⟩, ⟨⟨_, rfl, rfl⟩, trivial⟩⟩ rfl (by decide +kernel) (adl := []) rfl rfl rfl rfl rfl (Nat.le_of_ble_eq_true rfl) ⟨Nat.le_refl _, Nat.le_refl _⟩ dX3_takeToken_79 rfl ?_
      refine pb_if_eq (pc := 82) (tgt := 102) C dX3_takeToken_82 (by decide) (fun hc82 => ?_) (fun hc82 => ?_)
      · have hf := pb_pos hf hc82
        refine pb_aload_n (pc := 102) C dX3_takeToken_102 rfl 0 rfl ?_
        refine pb_get (pc := 103) C hnX3_takeToken_X3 0 rfl rfl 0 (by decide) (List.mem_of_getElem? (i := 4) rfl) rfl rfl dX3_takeToken_103 ?_
        refine pb_aload_n (pc := 106) C dX3_takeToken_106 rfl 0 rfl ?_
        refine pb_get (pc := 107) C hnX3_takeToken_X3 0 rfl rfl 3 (by decide) (List.mem_of_getElem? (i := 2) rfl) rfl rfl dX3_takeToken_107 ?_
        obtain ⟨g110, hf⟩ := pb_grd hf
        refine pb_bald (pc := 110) C 1 0 rfl rfl g110 dX3_takeToken_110 ?_
        obtain ⟨r111, hr111, hf⟩ := pb_bind hf
        refine pb_callS (pc := 111) (n0 := 2) (ws' := (wwX3_takeToken cyB cyI cyJ cyZ cyS a_t a_t_bytes a_t_numbers c_t_size e13_c_t_place c_t_behind c_t_sort c_t_bytes)) (rest := []) (st2 := [.int r111]) C (kcX3_isFigure l dC dI cyB cyI cyJ cyZ cyS (c_t_bytes (Int32.toNatClampNeg e13_c_t_place)) r111 hr111) pb_NW_b (pb_NW_x hX) (va_cwS 1 C.1.2.2.2.2 gX3_takeToken_X3_isFigure rfl rfl rfl kdS_X3_isFigure ⟨Nat.le_of_ble_eq_true rfl, Nat.le_of_ble_eq_true rfl⟩) [] [0, 1] rfl rfl ⟨⟨_, rfl, rfl⟩, ⟨⟨_, rfl, rfl⟩, trivial⟩⟩ rfl (by decide +kernel) (adl := []) rfl rfl rfl rfl rfl (Nat.le_of_ble_eq_true rfl) ⟨Nat.le_refl _, Nat.le_refl _⟩ dX3_takeToken_111 rfl ?_
        refine pb_if_eq (pc := 114) (tgt := 151) C dX3_takeToken_114 (by decide) (fun hc114 => ?_) (fun hc114 => ?_)
        · have hf := pb_pos hf hc114
          refine pb_aload_n (pc := 151) C dX3_takeToken_151 rfl 0 rfl ?_
          refine pb_aload_n (pc := 152) C dX3_takeToken_152 rfl 0 rfl ?_
          refine pb_get (pc := 153) C hnX3_takeToken_X3 0 rfl rfl 3 (by decide) (List.mem_of_getElem? (i := 2) rfl) rfl rfl dX3_takeToken_153 ?_
          refine pb_iconst (v := 1) (pc := 156) C dX3_takeToken_156 pb_kI_1 ?_
          refine pb_iadd (pc := 157) C dX3_takeToken_157 ?_
          obtain ⟨x158, ex158, hf⟩ := pb_bind hf
          have ex158 := Option.some.inj ex158
          refine pb_topi ex158 ?_
          refine pb_put (pc := 158) (ws' := (wwX3_takeToken cyB cyI cyJ cyZ cyS a_t a_t_bytes a_t_numbers c_t_size e13_c_t_place x158 c_t_sort c_t_bytes)) C hnX3_takeToken_X3 tyX3 tyX3_ok nmX3 0 rfl rfl 4 (by decide) (List.mem_of_getElem? (i := 1) rfl) rfl rfl rfl rfl (Nat.le_of_ble_eq_true rfl) rfl dX3_takeToken_158 ?_
          refine pb_aload_n (pc := 161) C dX3_takeToken_161 rfl 0 rfl ?_
          refine pb_aload_n (pc := 162) C dX3_takeToken_162 rfl 0 rfl ?_
          refine pb_get (pc := 163) C hnX3_takeToken_X3 0 rfl rfl 0 (by decide) (List.mem_of_getElem? (i := 4) rfl) rfl rfl dX3_takeToken_163 ?_
          refine pb_aload_n (pc := 166) C dX3_takeToken_166 rfl 0 rfl ?_
          refine pb_get (pc := 167) C hnX3_takeToken_X3 0 rfl rfl 3 (by decide) (List.mem_of_getElem? (i := 2) rfl) rfl rfl dX3_takeToken_167 ?_
          obtain ⟨g170, hf⟩ := pb_grd hf
          refine pb_bald (pc := 170) C 1 0 rfl rfl g170 dX3_takeToken_170 ?_
          refine pb_bipush (v := 59) (pc := 171) C dX3_takeToken_171 pb_kB_59 ?_
          refine pb_icmp_ne (pc := 173) (tgt := 180) C dX3_takeToken_173 (by decide) (fun hc173 => ?_) (fun hc173 => ?_)
          · have hf := pb_neg hf hc173
            refine pb_iconst (v := 4) (pc := 180) C dX3_takeToken_180 pb_kI_4 ?_
            refine pb_put (pc := 181) (ws' := (wwX3_takeToken cyB cyI cyJ cyZ cyS a_t a_t_bytes a_t_numbers c_t_size e13_c_t_place x158 4 c_t_bytes)) C hnX3_takeToken_X3 tyX3 tyX3_ok nmX3 0 rfl rfl 5 (by decide) (List.mem_of_getElem? (i := 5) rfl) rfl rfl rfl rfl (Nat.le_of_ble_eq_true rfl) rfl dX3_takeToken_181 ?_
            obtain rfl := Option.some.inj hf
            exact pb_vret (pc := 184) C hr hlk hA dX3_takeToken_184
          · have hf := pb_pos hf hc173
            refine pb_iconst (v := 3) (pc := 176) C dX3_takeToken_176 pb_kI_3 ?_
            refine pb_goto (pc := 177) (tgt := 181) C dX3_takeToken_177 (by decide) ?_
            refine pb_put (pc := 181) (ws' := (wwX3_takeToken cyB cyI cyJ cyZ cyS a_t a_t_bytes a_t_numbers c_t_size e13_c_t_place x158 3 c_t_bytes)) C hnX3_takeToken_X3 tyX3 tyX3_ok nmX3 0 rfl rfl 5 (by decide) (List.mem_of_getElem? (i := 5) rfl) rfl rfl rfl rfl (Nat.le_of_ble_eq_true rfl) rfl dX3_takeToken_181 ?_
            obtain rfl := Option.some.inj hf
            exact pb_vret (pc := 184) C hr hlk hA dX3_takeToken_184
        · have hf := pb_neg hf hc114
          refine pb_aload_n (pc := 117) C dX3_takeToken_117 rfl 0 rfl ?_
          refine pb_aload_n (pc := 118) C dX3_takeToken_118 rfl 0 rfl ?_
          refine pb_iconst (v := 2) (pc := 119) C dX3_takeToken_119 pb_kI_2 ?_
          obtain ⟨r120, hr120, hf⟩ := pb_bind hf
          refine pb_callV (pc := 120) (n0 := 2) (ws' := (wwX3_takeToken cyB cyI cyJ cyZ cyS a_t a_t_bytes a_t_numbers c_t_size e13_c_t_place c_t_behind c_t_sort c_t_bytes)) (rest := [.ref a_t]) (st2 := [.int r120, .ref a_t]) C (kcX3_endOfRun l dC dI cyB cyI cyJ cyZ cyS a_t a_t_bytes a_t_numbers c_t_size e13_c_t_place c_t_behind c_t_sort c_t_bytes 2 r120 hr120) pb_NW_b (pb_NW_x hX) (cwV 1 C.1.2.2.2.2 gX3_takeToken_X3_endOfRun rfl rfl rfl kdV_X3_endOfRun ⟨Nat.le_of_ble_eq_true rfl, Nat.le_of_ble_eq_true rfl⟩) 0 rfl rfl [0, 1] [] rfl rfl trivial rfl (by decide +kernel) (adl := [a_t, a_t_bytes]) rfl rfl rfl rfl rfl (Nat.le_of_ble_eq_true rfl) ⟨Nat.le_refl _, Nat.le_refl _⟩ dX3_takeToken_120 rfl ?_
          refine pb_put (pc := 123) (ws' := (wwX3_takeToken cyB cyI cyJ cyZ cyS a_t a_t_bytes a_t_numbers c_t_size e13_c_t_place r120 c_t_sort c_t_bytes)) C hnX3_takeToken_X3 tyX3 tyX3_ok nmX3 0 rfl rfl 4 (by decide) (List.mem_of_getElem? (i := 1) rfl) rfl rfl rfl rfl (Nat.le_of_ble_eq_true rfl) rfl dX3_takeToken_123 ?_
          refine pb_aload_n (pc := 126) C dX3_takeToken_126 rfl 0 rfl ?_
          refine pb_aload_n (pc := 127) C dX3_takeToken_127 rfl 0 rfl ?_
          refine pb_get (pc := 128) C hnX3_takeToken_X3 0 rfl rfl 4 (by decide) (List.mem_of_getElem? (i := 1) rfl) rfl rfl dX3_takeToken_128 ?_
          refine pb_aload_n (pc := 131) C dX3_takeToken_131 rfl 0 rfl ?_
          refine pb_get (pc := 132) C hnX3_takeToken_X3 0 rfl rfl 3 (by decide) (List.mem_of_getElem? (i := 2) rfl) rfl rfl dX3_takeToken_132 ?_
          refine pb_isub (pc := 135) C dX3_takeToken_135 ?_
          refine pb_iconst (v := 2) (pc := 136) C dX3_takeToken_136 pb_kI_2 ?_
          refine pb_icmp_le (pc := 137) (tgt := 144) C dX3_takeToken_137 (by decide) (fun hc137 => ?_) (fun hc137 => ?_)
          · have hf := pb_pos hf hc137
            refine pb_iconst (v := 2) (pc := 144) C dX3_takeToken_144 pb_kI_2 ?_
            refine pb_put (pc := 145) (ws' := (wwX3_takeToken cyB cyI cyJ cyZ cyS a_t a_t_bytes a_t_numbers c_t_size e13_c_t_place r120 2 c_t_bytes)) C hnX3_takeToken_X3 tyX3 tyX3_ok nmX3 0 rfl rfl 5 (by decide) (List.mem_of_getElem? (i := 5) rfl) rfl rfl rfl rfl (Nat.le_of_ble_eq_true rfl) rfl dX3_takeToken_145 ?_
            refine pb_goto (pc := 148) (tgt := 184) C dX3_takeToken_148 (by decide) ?_
            obtain rfl := Option.some.inj hf
            exact pb_vret (pc := 184) C hr hlk hA dX3_takeToken_184
          · have hf := pb_neg hf hc137
            refine pb_iconst (v := 4) (pc := 140) C dX3_takeToken_140 pb_kI_4 ?_
            refine pb_goto (pc := 141) (tgt := 145) C dX3_takeToken_141 (by decide) ?_
            refine pb_put (pc := 145) (ws' := (wwX3_takeToken cyB cyI cyJ cyZ cyS a_t a_t_bytes a_t_numbers c_t_size e13_c_t_place r120 4 c_t_bytes)) C hnX3_takeToken_X3 tyX3 tyX3_ok nmX3 0 rfl rfl 5 (by decide) (List.mem_of_getElem? (i := 5) rfl) rfl rfl rfl rfl (Nat.le_of_ble_eq_true rfl) rfl dX3_takeToken_145 ?_
            refine pb_goto (pc := 148) (tgt := 184) C dX3_takeToken_148 (by decide) ?_
            obtain rfl := Option.some.inj hf
            exact pb_vret (pc := 184) C hr hlk hA dX3_takeToken_184
      · have hf := pb_neg hf hc82
        refine pb_aload_n (pc := 85) C dX3_takeToken_85 rfl 0 rfl ?_
        refine pb_aload_n (pc := 86) C dX3_takeToken_86 rfl 0 rfl ?_
        refine pb_iconst (v := 1) (pc := 87) C dX3_takeToken_87 pb_kI_1 ?_
        obtain ⟨r88, hr88, hf⟩ := pb_bind hf
        refine pb_callV (pc := 88) (n0 := 2) (ws' := (wwX3_takeToken cyB cyI cyJ cyZ cyS a_t a_t_bytes a_t_numbers c_t_size e13_c_t_place c_t_behind c_t_sort c_t_bytes)) (rest := [.ref a_t]) (st2 := [.int r88, .ref a_t]) C (kcX3_endOfRun l dC dI cyB cyI cyJ cyZ cyS a_t a_t_bytes a_t_numbers c_t_size e13_c_t_place c_t_behind c_t_sort c_t_bytes 1 r88 hr88) pb_NW_b (pb_NW_x hX) (cwV 1 C.1.2.2.2.2 gX3_takeToken_X3_endOfRun rfl rfl rfl kdV_X3_endOfRun ⟨Nat.le_of_ble_eq_true rfl, Nat.le_of_ble_eq_true rfl⟩) 0 rfl rfl [0, 1] [] rfl rfl trivial rfl (by decide +kernel) (adl := [a_t, a_t_bytes]) rfl rfl rfl rfl rfl (Nat.le_of_ble_eq_true rfl) ⟨Nat.le_refl _, Nat.le_refl _⟩ dX3_takeToken_88 rfl ?_
        refine pb_put (pc := 91) (ws' := (wwX3_takeToken cyB cyI cyJ cyZ cyS a_t a_t_bytes a_t_numbers c_t_size e13_c_t_place r88 c_t_sort c_t_bytes)) C hnX3_takeToken_X3 tyX3 tyX3_ok nmX3 0 rfl rfl 4 (by decide) (List.mem_of_getElem? (i := 1) rfl) rfl rfl rfl rfl (Nat.le_of_ble_eq_true rfl) rfl dX3_takeToken_91 ?_
        refine pb_aload_n (pc := 94) C dX3_takeToken_94 rfl 0 rfl ?_
        refine pb_iconst (v := 1) (pc := 95) C dX3_takeToken_95 pb_kI_1 ?_
        refine pb_put (pc := 96) (ws' := (wwX3_takeToken cyB cyI cyJ cyZ cyS a_t a_t_bytes a_t_numbers c_t_size e13_c_t_place r88 1 c_t_bytes)) C hnX3_takeToken_X3 tyX3 tyX3_ok nmX3 0 rfl rfl 5 (by decide) (List.mem_of_getElem? (i := 5) rfl) rfl rfl rfl rfl (Nat.le_of_ble_eq_true rfl) rfl dX3_takeToken_96 ?_
        refine pb_goto (pc := 99) (tgt := 184) C dX3_takeToken_99 (by decide) ?_
        obtain rfl := Option.some.inj hf
        exact pb_vret (pc := 184) C hr hlk hA dX3_takeToken_184
    · have hf := pb_neg hf hc53
      refine pb_aload_n (pc := 56) C dX3_takeToken_56 rfl 0 rfl ?_
      refine pb_aload_n (pc := 57) C dX3_takeToken_57 rfl 0 rfl ?_
      refine pb_get (pc := 58) C hnX3_takeToken_X3 0 rfl rfl 3 (by decide) (List.mem_of_getElem? (i := 2) rfl) rfl rfl dX3_takeToken_58 ?_
      refine pb_put (pc := 61) (ws' := (wwX3_takeToken cyB cyI cyJ cyZ cyS a_t a_t_bytes a_t_numbers c_t_size e13_c_t_place e13_c_t_place c_t_sort c_t_bytes)) C hnX3_takeToken_X3 tyX3 tyX3_ok nmX3 0 rfl rfl 4 (by decide) (List.mem_of_getElem? (i := 1) rfl) rfl rfl rfl rfl (Nat.le_of_ble_eq_true rfl) rfl dX3_takeToken_61 ?_
      refine pb_aload_n (pc := 64) C dX3_takeToken_64 rfl 0 rfl ?_
      refine pb_iconst (v := 0) (pc := 65) C dX3_takeToken_65 pb_kI_0 ?_
      refine pb_put (pc := 66) (ws' := (wwX3_takeToken cyB cyI cyJ cyZ cyS a_t a_t_bytes a_t_numbers c_t_size e13_c_t_place e13_c_t_place 0 c_t_bytes)) C hnX3_takeToken_X3 tyX3 tyX3_ok nmX3 0 rfl rfl 5 (by decide) (List.mem_of_getElem? (i := 5) rfl) rfl rfl rfl rfl (Nat.le_of_ble_eq_true rfl) rfl dX3_takeToken_66 ?_
      obtain rfl := Option.some.inj hf
      exact pb_vret (pc := 69) C hr hlk hA dX3_takeToken_69
  have L13 : ∀ (n : Nat) (l13_1 : Int32) (l13_c_t_place : Int32), pb_lp (fun y => fX3_takeToken_L13 c_t_size c_t_bytes y.1 y.2) n (l13_1, l13_c_t_place) = some z13 → pb_V p l e rmX3_takeToken s m (([.ref a_t] : List Value).toArray) below meth c 2 (dC, dI) vwCl A 0 0 (pb_MQ below (([.ref a_t] : List Value).toArray) s (dC, dI) vwCl (wwX3_takeToken cyB cyI cyJ cyZ cyS a_t a_t_bytes a_t_numbers c_t_size c_t_place c_t_behind c_t_sort c_t_bytes) (wwX3_takeToken cyB cyI cyJ cyZ cyS a_t a_t_bytes a_t_numbers c_t_size out.1 out.2.1 out.2.2 c_t_bytes) none A) (wwX3_takeToken cyB cyI cyJ cyZ cyS a_t a_t_bytes a_t_numbers c_t_size l13_c_t_place c_t_behind c_t_sort c_t_bytes) [(0, .ref a_t), (1, .int l13_1)] [] 13 := by
    intro n
    induction n with
    | zero => intro l13_1 l13_c_t_place hf; exact (pb_lp_zero hf).elim
    | succ n ih13 =>
      intro l13_1 l13_c_t_place hf
      obtain ⟨y13, hf, hl13⟩ := pb_lp_succ hf
      have hf : fX3_takeToken_L13 c_t_size c_t_bytes l13_1 l13_c_t_place = some y13 := hf
      unfold fX3_takeToken_L13 at hf
      refine pb_iload_n (pc := 13) C dX3_takeToken_13 rfl 1 rfl ?_
      refine pb_aload_n (pc := 14) C dX3_takeToken_14 rfl 0 rfl ?_
      refine pb_get (pc := 15) C hnX3_takeToken_X3 0 rfl rfl 2 (by decide) (List.mem_of_getElem? (i := 3) rfl) rfl rfl dX3_takeToken_15 ?_
      refine pb_icmp_ge (pc := 18) (tgt := 45) C dX3_takeToken_18 (by decide) (fun hc18 => ?_) (fun hc18 => ?_)
      · have hf := pb_pos hf hc18
        obtain rfl := Option.some.inj hf
        obtain rfl := pb_esc hl13
        refine pb_sub [0] rfl ?_
        exact E13 l13_1 l13_c_t_place hk13
      · have hf := pb_neg hf hc18
        refine pb_aload_n (pc := 21) C dX3_takeToken_21 rfl 0 rfl ?_
        refine pb_get (pc := 22) C hnX3_takeToken_X3 0 rfl rfl 0 (by decide) (List.mem_of_getElem? (i := 4) rfl) rfl rfl dX3_takeToken_22 ?_
        refine pb_iload_n (pc := 25) C dX3_takeToken_25 rfl 1 rfl ?_
        obtain ⟨g26, hf⟩ := pb_grd hf
        refine pb_bald (pc := 26) C 1 0 rfl rfl g26 dX3_takeToken_26 ?_
        refine pb_bipush (v := 32) (pc := 27) C dX3_takeToken_27 pb_kB_32 ?_
        refine pb_icmp_ne (pc := 29) (tgt := 45) C dX3_takeToken_29 (by decide) (fun hc29 => ?_) (fun hc29 => ?_)
        · have hf := pb_neg hf hc29
          obtain rfl := Option.some.inj hf
          obtain rfl := pb_esc hl13
          refine pb_sub [0] rfl ?_
          exact E13 l13_1 l13_c_t_place hk13
        · have hf := pb_pos hf hc29
          refine pb_aload_n (pc := 32) C dX3_takeToken_32 rfl 0 rfl ?_
          refine pb_iload_n (pc := 33) C dX3_takeToken_33 rfl 1 rfl ?_
          refine pb_iconst (v := 1) (pc := 34) C dX3_takeToken_34 pb_kI_1 ?_
          refine pb_iadd (pc := 35) C dX3_takeToken_35 ?_
          obtain ⟨x36, ex36, hf⟩ := pb_bind hf
          have ex36 := Option.some.inj ex36
          refine pb_topi ex36 ?_
          refine pb_put (pc := 36) (ws' := (wwX3_takeToken cyB cyI cyJ cyZ cyS a_t a_t_bytes a_t_numbers c_t_size x36 c_t_behind c_t_sort c_t_bytes)) C hnX3_takeToken_X3 tyX3 tyX3_ok nmX3 0 rfl rfl 3 (by decide) (List.mem_of_getElem? (i := 2) rfl) rfl rfl rfl rfl (Nat.le_of_ble_eq_true rfl) rfl dX3_takeToken_36 ?_
          refine pb_iinc (v := l13_1 + 1) (lv' := [(1, .int (l13_1 + 1)), (0, .ref a_t)]) (pc := 39) C dX3_takeToken_39 1 rfl (pb_inc pb_kI_1 rfl) (by decide) rfl ?_
          refine pb_goto (pc := 42) (tgt := 13) C dX3_takeToken_42 (by decide) ?_
          obtain rfl := Option.some.inj hf
          refine pb_sub [1, 0] rfl ?_
          have hl13 := pb_inl hl13
          exact ih13 (l13_1 + 1) x36 hl13
  refine pb_sub [1, 0] rfl ?_
  exact L13 pb_FU c_t_behind c_t_behind hz13
def rmX3_numberHere : Room := { frames := 0, cells := 0, slots := 0, locals := 0 }
def wwX3_numberHere (cyB cyI cyJ cyZ cyS : ClassId) (a_t a_t_bytes a_t_numbers : Nat) (c_t_size : Int32) (c_t_place : Int32) (c_t_behind : Int32) (c_t_sort : Int32) (c_t_bytes : (Nat → Int32)) : va_W := [(a_t, .inr (3, [.ref a_t_bytes, .ref a_t_numbers, .int c_t_size, .int c_t_place, .int c_t_behind, .int c_t_sort])), (a_t_bytes, .inl (cyB, 150, .inl c_t_bytes))]
theorem hnX3_numberHere_X3 : ∀ w ∈ wsX30, w ∈ wsX3_numberHere := fun _ h => List.mem_cons_of_mem _ (List.mem_append_right _ h)
set_option maxHeartbeats 4000000 in
set_option maxRecDepth 100000 in
theorem kcX3_numberHere (l : Launch) (dC : Nat → ClassId) (dI : Nat → Nat → Nat) (cyB cyI cyJ cyZ cyS : ClassId) (a_t a_t_bytes a_t_numbers : Nat) (c_t_size : Int32) (c_t_place : Int32) (c_t_behind : Int32) (c_t_sort : Int32) (c_t_bytes : (Nat → Int32)) (out : Int32) (hf : fX3_numberHere c_t_size c_t_place c_t_behind c_t_bytes = some out) : pb_K l yX3_numberHere wsX3_numberHere rmX3_numberHere (dC, dI) vwCl (pb_tys cyB cyI cyJ cyZ cyS) pb_NW [.ref a_t] (wwX3_numberHere cyB cyI cyJ cyZ cyS a_t a_t_bytes a_t_numbers c_t_size c_t_place c_t_behind c_t_sort c_t_bytes) (wwX3_numberHere cyB cyI cyJ cyZ cyS a_t a_t_bytes a_t_numbers c_t_size c_t_place c_t_behind c_t_sort c_t_bytes) (some (.int out)) := by
  unfold fX3_numberHere at hf
  refine pb_K.ofV (cc := cX3_numberHere) (maxL := 3) (ret := (some .int)) (lv0 := [(0, .ref a_t)]) (by decide) rfl (Nat.le_of_ble_eq_true rfl) rfl ?_
  intro p e s m below meth c A C hX hr hlk hA
  refine pb_iconst (v := 0) (pc := 0) C dX3_numberHere_0 pb_kI_0 ?_
  refine pb_istore_n (lv' := [(1, .int 0), (0, .ref a_t)]) (pc := 1) C dX3_numberHere_1 rfl (by decide) rfl ?_
  refine pb_aload_n (pc := 2) C dX3_numberHere_2 rfl 1 rfl ?_
  refine pb_get (pc := 3) C hnX3_numberHere_X3 0 rfl rfl 3 (by decide) (List.mem_of_getElem? (i := 1) rfl) rfl rfl dX3_numberHere_3 ?_
  refine pb_istore_n (lv' := [(2, .int c_t_place), (1, .int 0), (0, .ref a_t)]) (pc := 6) C dX3_numberHere_6 rfl (by decide) rfl ?_
  obtain ⟨z7, hz7, hk7⟩ := pb_bind hf
  have E7 : ∀ (e7_1 : Int32) (e7_2 : Int32), fX3_numberHere_E7 e7_1 e7_2 = some out → pb_V p l e rmX3_numberHere s m (([.ref a_t] : List Value).toArray) below meth c 3 (dC, dI) vwCl A 0 0 (pb_MQ below (([.ref a_t] : List Value).toArray) s (dC, dI) vwCl (wwX3_numberHere cyB cyI cyJ cyZ cyS a_t a_t_bytes a_t_numbers c_t_size c_t_place c_t_behind c_t_sort c_t_bytes) (wwX3_numberHere cyB cyI cyJ cyZ cyS a_t a_t_bytes a_t_numbers c_t_size c_t_place c_t_behind c_t_sort c_t_bytes) (some (.int out)) A) (wwX3_numberHere cyB cyI cyJ cyZ cyS a_t a_t_bytes a_t_numbers c_t_size c_t_place c_t_behind c_t_sort c_t_bytes) [(1, .int e7_1)] [] 44 := by
    intro e7_1 e7_2 hf
    unfold fX3_numberHere_E7 at hf
    refine pb_iload_n (pc := 44) C dX3_numberHere_44 rfl 0 rfl ?_
    obtain rfl := Option.some.inj hf
    exact pb_iret (pc := 45) C hr hlk hA dX3_numberHere_45
  have L7 : ∀ (n : Nat) (l7_1 : Int32) (l7_2 : Int32), pb_lp (fun y => fX3_numberHere_L7 c_t_size c_t_behind c_t_bytes y.1 y.2) n (l7_1, l7_2) = some z7 → pb_V p l e rmX3_numberHere s m (([.ref a_t] : List Value).toArray) below meth c 3 (dC, dI) vwCl A 0 0 (pb_MQ below (([.ref a_t] : List Value).toArray) s (dC, dI) vwCl (wwX3_numberHere cyB cyI cyJ cyZ cyS a_t a_t_bytes a_t_numbers c_t_size c_t_place c_t_behind c_t_sort c_t_bytes) (wwX3_numberHere cyB cyI cyJ cyZ cyS a_t a_t_bytes a_t_numbers c_t_size c_t_place c_t_behind c_t_sort c_t_bytes) (some (.int out)) A) (wwX3_numberHere cyB cyI cyJ cyZ cyS a_t a_t_bytes a_t_numbers c_t_size c_t_place c_t_behind c_t_sort c_t_bytes) [(0, .ref a_t), (1, .int l7_1), (2, .int l7_2)] [] 7 := by
    intro n
    induction n with
    | zero => intro l7_1 l7_2 hf; exact (pb_lp_zero hf).elim
    | succ n ih7 =>
      intro l7_1 l7_2 hf
      obtain ⟨y7, hf, hl7⟩ := pb_lp_succ hf
      have hf : fX3_numberHere_L7 c_t_size c_t_behind c_t_bytes l7_1 l7_2 = some y7 := hf
      unfold fX3_numberHere_L7 at hf
      refine pb_iload_n (pc := 7) C dX3_numberHere_7 rfl 2 rfl ?_
      refine pb_aload_n (pc := 8) C dX3_numberHere_8 rfl 0 rfl ?_
      refine pb_get (pc := 9) C hnX3_numberHere_X3 0 rfl rfl 4 (by decide) (List.mem_of_getElem? (i := 2) rfl) rfl rfl dX3_numberHere_9 ?_
      refine pb_icmp_ge (pc := 12) (tgt := 44) C dX3_numberHere_12 (by decide) (fun hc12 => ?_) (fun hc12 => ?_)
      · have hf := pb_pos hf hc12
        obtain rfl := Option.some.inj hf
        obtain rfl := pb_esc hl7
        refine pb_sub [1] rfl ?_
        exact E7 l7_1 l7_2 hk7
      · have hf := pb_neg hf hc12
        refine pb_iload_n (pc := 15) C dX3_numberHere_15 rfl 2 rfl ?_
        refine pb_aload_n (pc := 16) C dX3_numberHere_16 rfl 0 rfl ?_
        refine pb_get (pc := 17) C hnX3_numberHere_X3 0 rfl rfl 2 (by decide) (List.mem_of_getElem? (i := 3) rfl) rfl rfl dX3_numberHere_17 ?_
        refine pb_icmp_ge (pc := 20) (tgt := 44) C dX3_numberHere_20 (by decide) (fun hc20 => ?_) (fun hc20 => ?_)
        · have hf := pb_pos hf hc20
          obtain rfl := Option.some.inj hf
          obtain rfl := pb_esc hl7
          refine pb_sub [1] rfl ?_
          exact E7 l7_1 l7_2 hk7
        · have hf := pb_neg hf hc20
          refine pb_bipush (v := 10) (pc := 23) C dX3_numberHere_23 pb_kB_10 ?_
          refine pb_iload_n (pc := 25) C dX3_numberHere_25 rfl 1 rfl ?_
          refine pb_imul (pc := 26) C dX3_numberHere_26 ?_
          refine pb_aload_n (pc := 27) C dX3_numberHere_27 rfl 0 rfl ?_
          refine pb_get (pc := 28) C hnX3_numberHere_X3 0 rfl rfl 0 (by decide) (List.mem_of_getElem? (i := 4) rfl) rfl rfl dX3_numberHere_28 ?_
          refine pb_iload_n (pc := 31) C dX3_numberHere_31 rfl 2 rfl ?_
          obtain ⟨g32, hf⟩ := pb_grd hf
          refine pb_bald (pc := 32) C 1 0 rfl rfl g32 dX3_numberHere_32 ?_
          refine pb_iadd (pc := 33) C dX3_numberHere_33 ?_
          refine pb_bipush (v := 48) (pc := 34) C dX3_numberHere_34 pb_kB_48 ?_
          refine pb_isub (pc := 36) C dX3_numberHere_36 ?_
          obtain ⟨x37, ex37, hf⟩ := pb_bind hf
          have ex37 := Option.some.inj ex37
          refine pb_topi ex37 ?_
          refine pb_istore_n (lv' := [(1, .int x37), (0, .ref a_t), (2, .int l7_2)]) (pc := 37) C dX3_numberHere_37 rfl (by decide) rfl ?_
          refine pb_iinc (v := l7_2 + 1) (lv' := [(2, .int (l7_2 + 1)), (1, .int x37), (0, .ref a_t)]) (pc := 38) C dX3_numberHere_38 2 rfl (pb_inc pb_kI_1 rfl) (by decide) rfl ?_
          refine pb_goto (pc := 41) (tgt := 7) C dX3_numberHere_41 (by decide) ?_
          obtain rfl := Option.some.inj hf
          refine pb_sub [2, 1, 0] rfl ?_
          have hl7 := pb_inl hl7
          exact ih7 x37 (l7_2 + 1) hl7
  refine pb_sub [2, 1, 0] rfl ?_
  exact L7 pb_FU 0 c_t_place hz7
def rmX2_productFor : Room := { frames := 1, cells := 0, slots := 0, locals := 22 }
def wwX2_productFor (cyB cyI cyJ cyZ cyS : ClassId) (a_p1 a_p1_cells : Nat) (w_p1 : Int32) (m_p1 : Int32) (n_p1 : Nat) (c_p1_size : Int32) (c_p1_cells : (Nat → Int32)) : va_W := [(a_p1, .inr (6, [.int w_p1, .int m_p1, .ref a_p1_cells, .int c_p1_size])), (a_p1_cells, .inl (cyI, n_p1, .inl c_p1_cells))]
theorem hnX2_productFor_X6 : ∀ w ∈ wsX60, w ∈ wsX2_productFor := fun _ h => List.mem_cons_of_mem _ (List.mem_append_right _ h)
set_option maxHeartbeats 4000000 in
set_option maxRecDepth 100000 in
theorem kcX2_productFor (l : Launch) (dC : Nat → ClassId) (dI : Nat → Nat → Nat) (cyB cyI cyJ cyZ cyS : ClassId) (a_p1 a_p1_cells : Nat) (w_p1 : Int32) (m_p1 : Int32) (n_p1 : Nat) (c_p1_size : Int32) (c_p1_cells : (Nat → Int32)) (p2 : Int32) (p3 : Int32) (out : Int64) (hf : fX2_productFor w_p1 m_p1 n_p1 c_p1_size c_p1_cells p2 p3 = some out) : pb_K l yX2_productFor wsX2_productFor rmX2_productFor (dC, dI) vwCl (pb_tys cyB cyI cyJ cyZ cyS) pb_NW [.ref a_p1, .int p2, .int p3] (wwX2_productFor cyB cyI cyJ cyZ cyS a_p1 a_p1_cells w_p1 m_p1 n_p1 c_p1_size c_p1_cells) (wwX2_productFor cyB cyI cyJ cyZ cyS a_p1 a_p1_cells w_p1 m_p1 n_p1 c_p1_size c_p1_cells) (some (.long out)) := by
  unfold fX2_productFor at hf
  refine pb_K.ofV (cc := cX2_productFor) (maxL := 7) (ret := (some .long)) (lv0 := [(0, .ref a_p1), (1, .int p2), (2, .int p3)]) (by decide) rfl (Nat.le_of_ble_eq_true rfl) rfl ?_
  intro p e s m below meth c A C hX hr hlk hA
  refine pb_lconst (v := 1) (pc := 0) C dX2_productFor_0 pb_kL_1 ?_
  refine pb_lstore_n (lv' := [(3, .long 1), (0, .ref a_p1), (1, .int p2), (2, .int p3)]) (pc := 1) C dX2_productFor_1 rfl (by decide) rfl ?_
  refine pb_iconst (v := 0) (pc := 2) C dX2_productFor_2 pb_kI_0 ?_
  refine pb_istore (lv' := [(5, .int 0), (3, .long 1), (0, .ref a_p1), (1, .int p2), (2, .int p3)]) (pc := 3) C dX2_productFor_3 (by decide) rfl ?_
  obtain ⟨z5, hz5, hk5⟩ := pb_bind hf
  have E5 : ∀ (e5_3 : Int64) (e5_5 : Int32), fX2_productFor_E5 e5_3 e5_5 = some out → pb_V p l e rmX2_productFor s m (([.ref a_p1, .int p2, .int p3] : List Value).toArray) below meth c 7 (dC, dI) vwCl A 0 0 (pb_MQ below (([.ref a_p1, .int p2, .int p3] : List Value).toArray) s (dC, dI) vwCl (wwX2_productFor cyB cyI cyJ cyZ cyS a_p1 a_p1_cells w_p1 m_p1 n_p1 c_p1_size c_p1_cells) (wwX2_productFor cyB cyI cyJ cyZ cyS a_p1 a_p1_cells w_p1 m_p1 n_p1 c_p1_size c_p1_cells) (some (.long out)) A) (wwX2_productFor cyB cyI cyJ cyZ cyS a_p1 a_p1_cells w_p1 m_p1 n_p1 c_p1_size c_p1_cells) [(3, .long e5_3)] [] 66 := by
    intro e5_3 e5_5 hf
    unfold fX2_productFor_E5 at hf
    refine pb_lload_n (pc := 66) C dX2_productFor_66 rfl 0 rfl ?_
    obtain rfl := Option.some.inj hf
    exact pb_lret (pc := 67) C hr hlk hA dX2_productFor_67
  have L5 : ∀ (n : Nat) (l5_3 : Int64) (l5_5 : Int32), pb_lp (fun y => fX2_productFor_L5 w_p1 m_p1 n_p1 c_p1_size c_p1_cells p2 p3 y.1 y.2) n (l5_3, l5_5) = some z5 → pb_V p l e rmX2_productFor s m (([.ref a_p1, .int p2, .int p3] : List Value).toArray) below meth c 7 (dC, dI) vwCl A 0 0 (pb_MQ below (([.ref a_p1, .int p2, .int p3] : List Value).toArray) s (dC, dI) vwCl (wwX2_productFor cyB cyI cyJ cyZ cyS a_p1 a_p1_cells w_p1 m_p1 n_p1 c_p1_size c_p1_cells) (wwX2_productFor cyB cyI cyJ cyZ cyS a_p1 a_p1_cells w_p1 m_p1 n_p1 c_p1_size c_p1_cells) (some (.long out)) A) (wwX2_productFor cyB cyI cyJ cyZ cyS a_p1 a_p1_cells w_p1 m_p1 n_p1 c_p1_size c_p1_cells) [(0, .ref a_p1), (1, .int p2), (2, .int p3), (3, .long l5_3), (5, .int l5_5)] [] 5 := by
    intro n
    induction n with
    | zero => intro l5_3 l5_5 hf; exact (pb_lp_zero hf).elim
    | succ n ih5 =>
      intro l5_3 l5_5 hf
      obtain ⟨y5, hf, hl5⟩ := pb_lp_succ hf
      have hf : fX2_productFor_L5 w_p1 m_p1 n_p1 c_p1_size c_p1_cells p2 p3 l5_3 l5_5 = some y5 := hf
      unfold fX2_productFor_L5 at hf
      refine pb_iload (pc := 5) C dX2_productFor_5 4 rfl ?_
      refine pb_aload_n (pc := 7) C dX2_productFor_7 rfl 0 rfl ?_
      refine pb_get (pc := 8) C hnX2_productFor_X6 0 rfl rfl 3 (by decide) (List.mem_of_getElem? (i := 1) rfl) rfl rfl dX2_productFor_8 ?_
      refine pb_icmp_ge (pc := 11) (tgt := 66) C dX2_productFor_11 (by decide) (fun hc11 => ?_) (fun hc11 => ?_)
      · have hf := pb_pos hf hc11
        obtain rfl := Option.some.inj hf
        obtain rfl := pb_esc hl5
        refine pb_sub [3] rfl ?_
        exact E5 l5_3 l5_5 hk5
      · have hf := pb_neg hf hc11
        refine pb_aload_n (pc := 14) C dX2_productFor_14 rfl 0 rfl ?_
        refine pb_iload (pc := 15) C dX2_productFor_15 4 rfl ?_
        refine pb_iconst (v := 0) (pc := 17) C dX2_productFor_17 pb_kI_0 ?_
        obtain ⟨r18, hr18, hf⟩ := pb_bind hf
        refine pb_callV (pc := 18) (n0 := 2) (ws' := (wwX2_productFor cyB cyI cyJ cyZ cyS a_p1 a_p1_cells w_p1 m_p1 n_p1 c_p1_size c_p1_cells)) (rest := []) (st2 := [.int r18]) C (kcX6_cell l dC dI cyB cyI cyJ cyZ cyS a_p1 a_p1_cells w_p1 m_p1 n_p1 c_p1_size c_p1_cells l5_5 0 r18 hr18) pb_NW_b (pb_NW_x hX) (cwV 2 C.1.2.2.2.2 gX2_productFor_X6_cell rfl rfl rfl kdV_X6_cell ⟨Nat.le_of_ble_eq_true rfl, Nat.le_of_ble_eq_true rfl⟩) 0 rfl rfl [0, 1] [] rfl rfl trivial rfl (by decide +kernel) (adl := [a_p1, a_p1_cells]) rfl rfl rfl rfl rfl (Nat.le_of_ble_eq_true rfl) ⟨Nat.le_refl _, Nat.le_refl _⟩ dX2_productFor_18 rfl ?_
        refine pb_iload_n (pc := 21) C dX2_productFor_21 rfl 1 rfl ?_
        refine pb_icmp_ne (pc := 22) (tgt := 60) C dX2_productFor_22 (by decide) (fun hc22 => ?_) (fun hc22 => ?_)
        · have hf := pb_neg hf hc22
          refine pb_iinc (v := l5_5 + 1) (lv' := [(5, .int (l5_5 + 1)), (0, .ref a_p1), (1, .int p2), (2, .int p3), (3, .long l5_3)]) (pc := 60) C dX2_productFor_60 4 rfl (pb_inc pb_kI_1 rfl) (by decide) rfl ?_
          refine pb_goto (pc := 63) (tgt := 5) C dX2_productFor_63 (by decide) ?_
          obtain rfl := Option.some.inj hf
          refine pb_sub [1, 2, 3, 4, 0] rfl ?_
          have hl5 := pb_inl hl5
          exact ih5 l5_3 (l5_5 + 1) hl5
        · have hf := pb_pos hf hc22
          refine pb_aload_n (pc := 25) C dX2_productFor_25 rfl 0 rfl ?_
          refine pb_iload (pc := 26) C dX2_productFor_26 4 rfl ?_
          refine pb_iconst (v := 2) (pc := 28) C dX2_productFor_28 pb_kI_2 ?_
          obtain ⟨r29, hr29, hf⟩ := pb_bind hf
          refine pb_callV (pc := 29) (n0 := 2) (ws' := (wwX2_productFor cyB cyI cyJ cyZ cyS a_p1 a_p1_cells w_p1 m_p1 n_p1 c_p1_size c_p1_cells)) (rest := []) (st2 := [.int r29]) C (kcX6_cell l dC dI cyB cyI cyJ cyZ cyS a_p1 a_p1_cells w_p1 m_p1 n_p1 c_p1_size c_p1_cells l5_5 2 r29 hr29) pb_NW_b (pb_NW_x hX) (cwV 2 C.1.2.2.2.2 gX2_productFor_X6_cell rfl rfl rfl kdV_X6_cell ⟨Nat.le_of_ble_eq_true rfl, Nat.le_of_ble_eq_true rfl⟩) 0 rfl rfl [0, 1] [] rfl rfl trivial rfl (by decide +kernel) (adl := [a_p1, a_p1_cells]) rfl rfl rfl rfl rfl (Nat.le_of_ble_eq_true rfl) ⟨Nat.le_refl _, Nat.le_refl _⟩ dX2_productFor_29 rfl ?_
          refine pb_istore (lv' := [(6, .int r29), (0, .ref a_p1), (1, .int p2), (2, .int p3), (3, .long l5_3), (5, .int l5_5)]) (pc := 32) C dX2_productFor_32 (by decide) rfl ?_
          refine pb_lload_n (pc := 34) C dX2_productFor_34 rfl 4 rfl ?_
          refine pb_aload_n (pc := 35) C dX2_productFor_35 rfl 1 rfl ?_
          refine pb_iload (pc := 36) C dX2_productFor_36 5 rfl ?_
          refine pb_iconst (v := 1) (pc := 38) C dX2_productFor_38 pb_kI_1 ?_
          obtain ⟨r39, hr39, hf⟩ := pb_bind hf
          refine pb_callV (pc := 39) (n0 := 2) (ws' := (wwX2_productFor cyB cyI cyJ cyZ cyS a_p1 a_p1_cells w_p1 m_p1 n_p1 c_p1_size c_p1_cells)) (rest := [.long l5_3]) (st2 := [.int r39, .long l5_3]) C (kcX6_cell l dC dI cyB cyI cyJ cyZ cyS a_p1 a_p1_cells w_p1 m_p1 n_p1 c_p1_size c_p1_cells l5_5 1 r39 hr39) pb_NW_b (pb_NW_x hX) (cwV 2 C.1.2.2.2.2 gX2_productFor_X6_cell rfl rfl rfl kdV_X6_cell ⟨Nat.le_of_ble_eq_true rfl, Nat.le_of_ble_eq_true rfl⟩) 0 rfl rfl [0, 1] [] rfl rfl trivial rfl (by decide +kernel) (adl := [a_p1, a_p1_cells]) rfl rfl rfl rfl rfl (Nat.le_of_ble_eq_true rfl) ⟨Nat.le_refl _, Nat.le_refl _⟩ dX2_productFor_39 rfl ?_
          refine pb_iload_n (pc := 42) C dX2_productFor_42 rfl 3 rfl ?_
          refine pb_icmp_ne (pc := 43) (tgt := 52) C dX2_productFor_43 (by decide) (fun hc43 => ?_) (fun hc43 => ?_)
          · have hf := pb_neg hf hc43
            refine pb_bipush (v := 10) (pc := 52) C dX2_productFor_52 pb_kB_10 ?_
            refine pb_iload (pc := 54) C dX2_productFor_54 0 rfl ?_
            refine pb_isub (pc := 56) C dX2_productFor_56 ?_
            refine pb_i2l (pc := 57) C dX2_productFor_57 ?_
            refine pb_lmul (pc := 58) C dX2_productFor_58 ?_
            obtain ⟨x59, ex59, hf⟩ := pb_bind hf
            have ex59 := Option.some.inj ex59
            refine pb_topl ex59 ?_
            refine pb_lstore_n (lv' := [(3, .long x59), (6, .int r29), (0, .ref a_p1), (1, .int p2), (2, .int p3), (5, .int l5_5)]) (pc := 59) C dX2_productFor_59 rfl (by decide) rfl ?_
            refine pb_iinc (v := l5_5 + 1) (lv' := [(5, .int (l5_5 + 1)), (3, .long x59), (6, .int r29), (0, .ref a_p1), (1, .int p2), (2, .int p3)]) (pc := 60) C dX2_productFor_60 5 rfl (pb_inc pb_kI_1 rfl) (by decide) rfl ?_
            refine pb_goto (pc := 63) (tgt := 5) C dX2_productFor_63 (by decide) ?_
            obtain rfl := Option.some.inj hf
            refine pb_sub [3, 4, 5, 1, 0] rfl ?_
            have hl5 := pb_inl hl5
            exact ih5 x59 (l5_5 + 1) hl5
          · have hf := pb_pos hf hc43
            refine pb_iload (pc := 46) C dX2_productFor_46 0 rfl ?_
            refine pb_i2l (pc := 48) C dX2_productFor_48 ?_
            refine pb_goto (pc := 49) (tgt := 58) C dX2_productFor_49 (by decide) ?_
            refine pb_lmul (pc := 58) C dX2_productFor_58 ?_
            obtain ⟨x59, ex59, hf⟩ := pb_bind hf
            have ex59 := Option.some.inj ex59
            refine pb_topl ex59 ?_
            refine pb_lstore_n (lv' := [(3, .long x59), (6, .int r29), (0, .ref a_p1), (1, .int p2), (2, .int p3), (5, .int l5_5)]) (pc := 59) C dX2_productFor_59 rfl (by decide) rfl ?_
            refine pb_iinc (v := l5_5 + 1) (lv' := [(5, .int (l5_5 + 1)), (3, .long x59), (6, .int r29), (0, .ref a_p1), (1, .int p2), (2, .int p3)]) (pc := 60) C dX2_productFor_60 5 rfl (pb_inc pb_kI_1 rfl) (by decide) rfl ?_
            refine pb_goto (pc := 63) (tgt := 5) C dX2_productFor_63 (by decide) ?_
            obtain rfl := Option.some.inj hf
            refine pb_sub [3, 4, 5, 1, 0] rfl ?_
            have hl5 := pb_inl hl5
            exact ih5 x59 (l5_5 + 1) hl5
  refine pb_sub [2, 3, 4, 1, 0] rfl ?_
  exact L5 pb_FU 1 0 hz5
def rmX2_weighByFinds : Room := { frames := 2, cells := 0, slots := 0, locals := 48 }
def wwX2_weighByFinds (cyB cyI cyJ cyZ cyS : ClassId) (a_t a_t_open a_t_weight a_p1 a_p1_cells : Nat) (w_p1 : Int32) (m_p1 : Int32) (n_p1 : Nat) (c_t_total : Int64) (c_t_stale : Int32) (c_t_weight : (Nat → Int64)) (c_p1_size : Int32) (c_p1_cells : (Nat → Int32)) : va_W := [(a_t, .inr (2, [.ref a_t_open, .ref a_t_weight, .long c_t_total, .int c_t_stale])), (a_t_weight, .inl (cyJ, 128, .inr (.inl c_t_weight))), (a_p1, .inr (6, [.int w_p1, .int m_p1, .ref a_p1_cells, .int c_p1_size])), (a_p1_cells, .inl (cyI, n_p1, .inl c_p1_cells))]
theorem hnX2_weighByFinds_X2 : ∀ w ∈ wsX20, w ∈ wsX2_weighByFinds := fun _ h => List.mem_cons_of_mem _ (List.mem_append_left _ (List.mem_append_right _ h))
set_option maxHeartbeats 4000000 in
set_option maxRecDepth 100000 in
theorem kcX2_weighByFinds (l : Launch) (dC : Nat → ClassId) (dI : Nat → Nat → Nat) (cyB cyI cyJ cyZ cyS : ClassId) (a_t a_t_open a_t_weight a_p1 a_p1_cells : Nat) (w_p1 : Int32) (m_p1 : Int32) (n_p1 : Nat) (c_t_total : Int64) (c_t_stale : Int32) (c_t_weight : (Nat → Int64)) (c_p1_size : Int32) (c_p1_cells : (Nat → Int32)) (out : (Nat → Int64)) (hf : fX2_weighByFinds w_p1 m_p1 n_p1 c_t_weight c_p1_size c_p1_cells = some out) : pb_K l yX2_weighByFinds wsX2_weighByFinds rmX2_weighByFinds (dC, dI) vwCl (pb_tys cyB cyI cyJ cyZ cyS) pb_NW [.ref a_t, .ref a_p1] (wwX2_weighByFinds cyB cyI cyJ cyZ cyS a_t a_t_open a_t_weight a_p1 a_p1_cells w_p1 m_p1 n_p1 c_t_total c_t_stale c_t_weight c_p1_size c_p1_cells) (wwX2_weighByFinds cyB cyI cyJ cyZ cyS a_t a_t_open a_t_weight a_p1 a_p1_cells w_p1 m_p1 n_p1 c_t_total c_t_stale out c_p1_size c_p1_cells) none := by
  unfold fX2_weighByFinds at hf
  refine pb_K.ofV (cc := cX2_weighByFinds) (maxL := 9) (ret := none) (lv0 := [(0, .ref a_t), (1, .ref a_p1)]) (by decide) rfl (Nat.le_of_ble_eq_true rfl) rfl ?_
  intro p e s m below meth c A C hX hr hlk hA
  refine pb_aload_n (pc := 0) C dX2_weighByFinds_0 rfl 0 rfl ?_
  refine pb_get (pc := 1) C hnX2_weighByFinds_X2 0 rfl rfl 1 (by decide) (List.mem_of_getElem? (i := 1) rfl) rfl rfl dX2_weighByFinds_1 ?_
  refine pb_iconst (v := 0) (pc := 4) C dX2_weighByFinds_4 pb_kI_0 ?_
  refine pb_lconst (v := 1) (pc := 5) C dX2_weighByFinds_5 pb_kL_1 ?_
  obtain ⟨u6, eu6, hf⟩ := pb_bind hf
  have eu6 := Option.some.inj eu6
  refine pb_last (pc := 6) (ws' := (wwX2_weighByFinds cyB cyI cyJ cyZ cyS a_t a_t_open a_t_weight a_p1 a_p1_cells w_p1 m_p1 n_p1 c_t_total c_t_stale u6 c_p1_size c_p1_cells)) C 1 2 rfl rfl pb_ok_0_128 ((congrArg (fun k => vp_updL c_t_weight k 1) pb_kN_0).trans eu6) rfl dX2_weighByFinds_6 ?_
  refine pb_iconst (v := 0) (pc := 7) C dX2_weighByFinds_7 pb_kI_0 ?_
  refine pb_istore_n (lv' := [(2, .int 0), (0, .ref a_t), (1, .ref a_p1)]) (pc := 8) C dX2_weighByFinds_8 rfl (by decide) rfl ?_
  obtain ⟨z9, hz9, hk9⟩ := pb_bind hf
  have E9 : ∀ (e9_2 : Int32) (e9_c_t_weight : (Nat → Int64)), fX2_weighByFinds_E9 e9_2 e9_c_t_weight = some out → pb_V p l e rmX2_weighByFinds s m (([.ref a_t, .ref a_p1] : List Value).toArray) below meth c 9 (dC, dI) vwCl A 0 0 (pb_MQ below (([.ref a_t, .ref a_p1] : List Value).toArray) s (dC, dI) vwCl (wwX2_weighByFinds cyB cyI cyJ cyZ cyS a_t a_t_open a_t_weight a_p1 a_p1_cells w_p1 m_p1 n_p1 c_t_total c_t_stale c_t_weight c_p1_size c_p1_cells) (wwX2_weighByFinds cyB cyI cyJ cyZ cyS a_t a_t_open a_t_weight a_p1 a_p1_cells w_p1 m_p1 n_p1 c_t_total c_t_stale out c_p1_size c_p1_cells) none A) (wwX2_weighByFinds cyB cyI cyJ cyZ cyS a_t a_t_open a_t_weight a_p1 a_p1_cells w_p1 m_p1 n_p1 c_t_total c_t_stale e9_c_t_weight c_p1_size c_p1_cells) [] [] 93 := by
    intro e9_2 e9_c_t_weight hf
    unfold fX2_weighByFinds_E9 at hf
    obtain rfl := Option.some.inj hf
    exact pb_vret (pc := 93) C hr hlk hA dX2_weighByFinds_93
  have L9 : ∀ (n : Nat) (l9_2 : Int32) (l9_c_t_weight : (Nat → Int64)), pb_lp (fun y => fX2_weighByFinds_L9 w_p1 m_p1 n_p1 c_p1_size c_p1_cells y.1 y.2) n (l9_2, l9_c_t_weight) = some z9 → pb_V p l e rmX2_weighByFinds s m (([.ref a_t, .ref a_p1] : List Value).toArray) below meth c 9 (dC, dI) vwCl A 0 0 (pb_MQ below (([.ref a_t, .ref a_p1] : List Value).toArray) s (dC, dI) vwCl (wwX2_weighByFinds cyB cyI cyJ cyZ cyS a_t a_t_open a_t_weight a_p1 a_p1_cells w_p1 m_p1 n_p1 c_t_total c_t_stale c_t_weight c_p1_size c_p1_cells) (wwX2_weighByFinds cyB cyI cyJ cyZ cyS a_t a_t_open a_t_weight a_p1 a_p1_cells w_p1 m_p1 n_p1 c_t_total c_t_stale out c_p1_size c_p1_cells) none A) (wwX2_weighByFinds cyB cyI cyJ cyZ cyS a_t a_t_open a_t_weight a_p1 a_p1_cells w_p1 m_p1 n_p1 c_t_total c_t_stale l9_c_t_weight c_p1_size c_p1_cells) [(0, .ref a_t), (1, .ref a_p1), (2, .int l9_2)] [] 9 := by
    intro n
    induction n with
    | zero => intro l9_2 l9_c_t_weight hf; exact (pb_lp_zero hf).elim
    | succ n ih9 =>
      intro l9_2 l9_c_t_weight hf
      obtain ⟨y9, hf, hl9⟩ := pb_lp_succ hf
      have hf : fX2_weighByFinds_L9 w_p1 m_p1 n_p1 c_p1_size c_p1_cells l9_2 l9_c_t_weight = some y9 := hf
      unfold fX2_weighByFinds_L9 at hf
      refine pb_iload_n (pc := 9) C dX2_weighByFinds_9 rfl 2 rfl ?_
      refine pb_bipush (v := 7) (pc := 10) C dX2_weighByFinds_10 pb_kB_7 ?_
      refine pb_icmp_ge (pc := 12) (tgt := 93) C dX2_weighByFinds_12 (by decide) (fun hc12 => ?_) (fun hc12 => ?_)
      · have hf := pb_pos hf hc12
        obtain rfl := Option.some.inj hf
        obtain rfl := pb_esc hl9
        refine pb_sub [] rfl ?_
        exact E9 l9_2 l9_c_t_weight hk9
      · have hf := pb_neg hf hc12
        refine pb_aload_n (pc := 15) C dX2_weighByFinds_15 rfl 1 rfl ?_
        refine pb_iload_n (pc := 16) C dX2_weighByFinds_16 rfl 2 rfl ?_
        refine pb_iconst (v := 1) (pc := 17) C dX2_weighByFinds_17 pb_kI_1 ?_
        obtain ⟨r18, hr18, hf⟩ := pb_bind hf
        refine pb_callS (pc := 18) (n0 := 4) (ws' := (wwX2_weighByFinds cyB cyI cyJ cyZ cyS a_t a_t_open a_t_weight a_p1 a_p1_cells w_p1 m_p1 n_p1 c_t_total c_t_stale l9_c_t_weight c_p1_size c_p1_cells)) (rest := []) (st2 := [.long r18]) C (kcX2_productFor l dC dI cyB cyI cyJ cyZ cyS a_p1 a_p1_cells w_p1 m_p1 n_p1 c_p1_size c_p1_cells l9_2 1 r18 hr18) pb_NW_b (pb_NW_x hX) (va_cwS 3 C.1.2.2.2.2 gX2_weighByFinds_X2_productFor rfl rfl rfl kdS_X2_productFor ⟨Nat.le_of_ble_eq_true rfl, Nat.le_of_ble_eq_true rfl⟩) [2, 3] [0, 1] rfl rfl ⟨⟨_, rfl, rfl⟩, ⟨⟨_, rfl, rfl⟩, trivial⟩⟩ rfl (by decide +kernel) (adl := [a_p1, a_p1_cells]) rfl rfl rfl rfl rfl (Nat.le_of_ble_eq_true rfl) ⟨Nat.le_refl _, Nat.le_refl _⟩ dX2_weighByFinds_18 rfl ?_
        refine pb_lstore_n (lv' := [(3, .long r18), (0, .ref a_t), (1, .ref a_p1), (2, .int l9_2)]) (pc := 21) C dX2_weighByFinds_21 rfl (by decide) rfl ?_
        refine pb_aload_n (pc := 22) C dX2_weighByFinds_22 rfl 2 rfl ?_
        refine pb_iload_n (pc := 23) C dX2_weighByFinds_23 rfl 3 rfl ?_
        refine pb_iconst (v := 0) (pc := 24) C dX2_weighByFinds_24 pb_kI_0 ?_
        obtain ⟨r25, hr25, hf⟩ := pb_bind hf
        refine pb_callS (pc := 25) (n0 := 4) (ws' := (wwX2_weighByFinds cyB cyI cyJ cyZ cyS a_t a_t_open a_t_weight a_p1 a_p1_cells w_p1 m_p1 n_p1 c_t_total c_t_stale l9_c_t_weight c_p1_size c_p1_cells)) (rest := []) (st2 := [.long r25]) C (kcX2_productFor l dC dI cyB cyI cyJ cyZ cyS a_p1 a_p1_cells w_p1 m_p1 n_p1 c_p1_size c_p1_cells l9_2 0 r25 hr25) pb_NW_b (pb_NW_x hX) (va_cwS 3 C.1.2.2.2.2 gX2_weighByFinds_X2_productFor rfl rfl rfl kdS_X2_productFor ⟨Nat.le_of_ble_eq_true rfl, Nat.le_of_ble_eq_true rfl⟩) [2, 3] [0, 1] rfl rfl ⟨⟨_, rfl, rfl⟩, ⟨⟨_, rfl, rfl⟩, trivial⟩⟩ rfl (by decide +kernel) (adl := [a_p1, a_p1_cells]) rfl rfl rfl rfl rfl (Nat.le_of_ble_eq_true rfl) ⟨Nat.le_refl _, Nat.le_refl _⟩ dX2_weighByFinds_25 rfl ?_
        refine pb_lstore (lv' := [(5, .long r25), (3, .long r18), (0, .ref a_t), (1, .ref a_p1), (2, .int l9_2)]) (pc := 28) C dX2_weighByFinds_28 (by decide) rfl ?_
        refine pb_iconst (v := 1) (pc := 30) C dX2_weighByFinds_30 pb_kI_1 ?_
        refine pb_iload_n (pc := 31) C dX2_weighByFinds_31 rfl 4 rfl ?_
        refine pb_ishl (pc := 32) C dX2_weighByFinds_32 ?_
        obtain ⟨x33, ex33, hf⟩ := pb_bind hf
        have ex33 := Option.some.inj ex33
        refine pb_topi ex33 ?_
        refine pb_istore (lv' := [(7, .int x33), (5, .long r25), (3, .long r18), (0, .ref a_t), (1, .ref a_p1), (2, .int l9_2)]) (pc := 33) C dX2_weighByFinds_33 (by decide) rfl ?_
        refine pb_iconst (v := 0) (pc := 35) C dX2_weighByFinds_35 pb_kI_0 ?_
        refine pb_istore (lv' := [(8, .int 0), (7, .int x33), (5, .long r25), (3, .long r18), (0, .ref a_t), (1, .ref a_p1), (2, .int l9_2)]) (pc := 36) C dX2_weighByFinds_36 (by decide) rfl ?_
        obtain ⟨z38, hz38, hk38⟩ := pb_bind hf
        have E38 : ∀ (e38_8 : Int32) (e38_c_t_weight : (Nat → Int64)), fX2_weighByFinds_E38 l9_2 e38_8 e38_c_t_weight = some y9 → pb_V p l e rmX2_weighByFinds s m (([.ref a_t, .ref a_p1] : List Value).toArray) below meth c 9 (dC, dI) vwCl A 0 0 (pb_MQ below (([.ref a_t, .ref a_p1] : List Value).toArray) s (dC, dI) vwCl (wwX2_weighByFinds cyB cyI cyJ cyZ cyS a_t a_t_open a_t_weight a_p1 a_p1_cells w_p1 m_p1 n_p1 c_t_total c_t_stale c_t_weight c_p1_size c_p1_cells) (wwX2_weighByFinds cyB cyI cyJ cyZ cyS a_t a_t_open a_t_weight a_p1 a_p1_cells w_p1 m_p1 n_p1 c_t_total c_t_stale out c_p1_size c_p1_cells) none A) (wwX2_weighByFinds cyB cyI cyJ cyZ cyS a_t a_t_open a_t_weight a_p1 a_p1_cells w_p1 m_p1 n_p1 c_t_total c_t_stale e38_c_t_weight c_p1_size c_p1_cells) [(0, .ref a_t), (1, .ref a_p1), (2, .int l9_2)] [] 87 := by
          intro e38_8 e38_c_t_weight hf
          unfold fX2_weighByFinds_E38 at hf
          refine pb_iinc (v := l9_2 + 1) (lv' := [(2, .int (l9_2 + 1)), (0, .ref a_t), (1, .ref a_p1)]) (pc := 87) C dX2_weighByFinds_87 2 rfl (pb_inc pb_kI_1 rfl) (by decide) rfl ?_
          refine pb_goto (pc := 90) (tgt := 9) C dX2_weighByFinds_90 (by decide) ?_
          obtain rfl := Option.some.inj hf
          refine pb_sub [1, 2, 0] rfl ?_
          have hl9 := pb_inl hl9
          exact ih9 (l9_2 + 1) e38_c_t_weight hl9
        have L38 : ∀ (n : Nat) (l38_8 : Int32) (l38_c_t_weight : (Nat → Int64)), pb_lp (fun y => fX2_weighByFinds_L38 r18 r25 x33 y.1 y.2) n (l38_8, l38_c_t_weight) = some z38 → pb_V p l e rmX2_weighByFinds s m (([.ref a_t, .ref a_p1] : List Value).toArray) below meth c 9 (dC, dI) vwCl A 0 0 (pb_MQ below (([.ref a_t, .ref a_p1] : List Value).toArray) s (dC, dI) vwCl (wwX2_weighByFinds cyB cyI cyJ cyZ cyS a_t a_t_open a_t_weight a_p1 a_p1_cells w_p1 m_p1 n_p1 c_t_total c_t_stale c_t_weight c_p1_size c_p1_cells) (wwX2_weighByFinds cyB cyI cyJ cyZ cyS a_t a_t_open a_t_weight a_p1 a_p1_cells w_p1 m_p1 n_p1 c_t_total c_t_stale out c_p1_size c_p1_cells) none A) (wwX2_weighByFinds cyB cyI cyJ cyZ cyS a_t a_t_open a_t_weight a_p1 a_p1_cells w_p1 m_p1 n_p1 c_t_total c_t_stale l38_c_t_weight c_p1_size c_p1_cells) [(0, .ref a_t), (1, .ref a_p1), (2, .int l9_2), (3, .long r18), (5, .long r25), (7, .int x33), (8, .int l38_8)] [] 38 := by
          intro n
          induction n with
          | zero => intro l38_8 l38_c_t_weight hf; exact (pb_lp_zero hf).elim
          | succ n ih38 =>
            intro l38_8 l38_c_t_weight hf
            obtain ⟨y38, hf, hl38⟩ := pb_lp_succ hf
            have hf : fX2_weighByFinds_L38 r18 r25 x33 l38_8 l38_c_t_weight = some y38 := hf
            unfold fX2_weighByFinds_L38 at hf
            refine pb_iload (pc := 38) C dX2_weighByFinds_38 6 rfl ?_
            refine pb_iload (pc := 40) C dX2_weighByFinds_40 5 rfl ?_
            refine pb_icmp_ge (pc := 42) (tgt := 87) C dX2_weighByFinds_42 (by decide) (fun hc42 => ?_) (fun hc42 => ?_)
            · have hf := pb_pos hf hc42
              obtain rfl := Option.some.inj hf
              obtain rfl := pb_esc hl38
              refine pb_sub [0, 1, 2] rfl ?_
              exact E38 l38_8 l38_c_t_weight hk38
            · have hf := pb_neg hf hc42
              refine pb_aload_n (pc := 45) C dX2_weighByFinds_45 rfl 0 rfl ?_
              refine pb_get (pc := 46) C hnX2_weighByFinds_X2 0 rfl rfl 1 (by decide) (List.mem_of_getElem? (i := 1) rfl) rfl rfl dX2_weighByFinds_46 ?_
              refine pb_iload (pc := 49) C dX2_weighByFinds_49 6 rfl ?_
              refine pb_iload (pc := 51) C dX2_weighByFinds_51 5 rfl ?_
              refine pb_iadd (pc := 53) C dX2_weighByFinds_53 ?_
              refine pb_aload_n (pc := 54) C dX2_weighByFinds_54 rfl 0 rfl ?_
              refine pb_get (pc := 55) C hnX2_weighByFinds_X2 0 rfl rfl 1 (by decide) (List.mem_of_getElem? (i := 1) rfl) rfl rfl dX2_weighByFinds_55 ?_
              refine pb_iload (pc := 58) C dX2_weighByFinds_58 6 rfl ?_
              obtain ⟨g60, hf⟩ := pb_grd hf
              refine pb_lald (pc := 60) C 1 2 rfl rfl g60 dX2_weighByFinds_60 ?_
              refine pb_lload_n (pc := 61) C dX2_weighByFinds_61 rfl 3 rfl ?_
              refine pb_lmul (pc := 62) C dX2_weighByFinds_62 ?_
              obtain ⟨g63, hf⟩ := pb_grd hf
              obtain ⟨u63, eu63, hf⟩ := pb_bind hf
              have eu63 := Option.some.inj eu63
              refine pb_last (pc := 63) (ws' := (wwX2_weighByFinds cyB cyI cyJ cyZ cyS a_t a_t_open a_t_weight a_p1 a_p1_cells w_p1 m_p1 n_p1 c_t_total c_t_stale u63 c_p1_size c_p1_cells)) C 1 2 rfl rfl g63 eu63 rfl dX2_weighByFinds_63 ?_
              refine pb_aload_n (pc := 64) C dX2_weighByFinds_64 rfl 0 rfl ?_
              refine pb_get (pc := 65) C hnX2_weighByFinds_X2 0 rfl rfl 1 (by decide) (List.mem_of_getElem? (i := 1) rfl) rfl rfl dX2_weighByFinds_65 ?_
              refine pb_iload (pc := 68) C dX2_weighByFinds_68 6 rfl ?_
              refine pb_aload_n (pc := 70) C dX2_weighByFinds_70 rfl 0 rfl ?_
              refine pb_get (pc := 71) C hnX2_weighByFinds_X2 0 rfl rfl 1 (by decide) (List.mem_of_getElem? (i := 1) rfl) rfl rfl dX2_weighByFinds_71 ?_
              refine pb_iload (pc := 74) C dX2_weighByFinds_74 6 rfl ?_
              obtain ⟨g76, hf⟩ := pb_grd hf
              refine pb_lald (pc := 76) C 1 2 rfl rfl g76 dX2_weighByFinds_76 ?_
              refine pb_lload (pc := 77) C dX2_weighByFinds_77 4 rfl ?_
              refine pb_lmul (pc := 79) C dX2_weighByFinds_79 ?_
              obtain ⟨g80, hf⟩ := pb_grd hf
              obtain ⟨u80, eu80, hf⟩ := pb_bind hf
              have eu80 := Option.some.inj eu80
              refine pb_last (pc := 80) (ws' := (wwX2_weighByFinds cyB cyI cyJ cyZ cyS a_t a_t_open a_t_weight a_p1 a_p1_cells w_p1 m_p1 n_p1 c_t_total c_t_stale u80 c_p1_size c_p1_cells)) C 1 2 rfl rfl g80 eu80 rfl dX2_weighByFinds_80 ?_
              refine pb_iinc (v := l38_8 + 1) (lv' := [(8, .int (l38_8 + 1)), (0, .ref a_t), (1, .ref a_p1), (2, .int l9_2), (3, .long r18), (5, .long r25), (7, .int x33)]) (pc := 81) C dX2_weighByFinds_81 6 rfl (pb_inc pb_kI_1 rfl) (by decide) rfl ?_
              refine pb_goto (pc := 84) (tgt := 38) C dX2_weighByFinds_84 (by decide) ?_
              obtain rfl := Option.some.inj hf
              refine pb_sub [1, 2, 3, 4, 5, 6, 0] rfl ?_
              have hl38 := pb_inl hl38
              exact ih38 (l38_8 + 1) u80 hl38
        refine pb_sub [4, 5, 6, 3, 2, 1, 0] rfl ?_
        exact L38 pb_FU 0 l9_c_t_weight hz38
  refine pb_sub [1, 2, 0] rfl ?_
  exact L9 pb_FU 0 u6 hz9
def rmX2_keepsAll : Room := { frames := 1, cells := 0, slots := 0, locals := 22 }
def wwX2_keepsAll (cyB cyI cyJ cyZ cyS : ClassId) (a_p1 a_p1_cells : Nat) (w_p1 : Int32) (m_p1 : Int32) (n_p1 : Nat) (c_p1_size : Int32) (c_p1_cells : (Nat → Int32)) : va_W := [(a_p1, .inr (6, [.int w_p1, .int m_p1, .ref a_p1_cells, .int c_p1_size])), (a_p1_cells, .inl (cyI, n_p1, .inl c_p1_cells))]
theorem hnX2_keepsAll_X6 : ∀ w ∈ wsX60, w ∈ wsX2_keepsAll := fun _ h => List.mem_cons_of_mem _ (List.mem_append_right _ h)
set_option maxHeartbeats 4000000 in
set_option maxRecDepth 100000 in
theorem kcX2_keepsAll (l : Launch) (dC : Nat → ClassId) (dI : Nat → Nat → Nat) (cyB cyI cyJ cyZ cyS : ClassId) (a_p1 a_p1_cells : Nat) (w_p1 : Int32) (m_p1 : Int32) (n_p1 : Nat) (c_p1_size : Int32) (c_p1_cells : (Nat → Int32)) (p2 : Int32) (out : Int32) (hf : fX2_keepsAll w_p1 m_p1 n_p1 c_p1_size c_p1_cells p2 = some out) : pb_K l yX2_keepsAll wsX2_keepsAll rmX2_keepsAll (dC, dI) vwCl (pb_tys cyB cyI cyJ cyZ cyS) pb_NW [.ref a_p1, .int p2] (wwX2_keepsAll cyB cyI cyJ cyZ cyS a_p1 a_p1_cells w_p1 m_p1 n_p1 c_p1_size c_p1_cells) (wwX2_keepsAll cyB cyI cyJ cyZ cyS a_p1 a_p1_cells w_p1 m_p1 n_p1 c_p1_size c_p1_cells) (some (.int out)) := by
  unfold fX2_keepsAll at hf
  refine pb_K.ofV (cc := cX2_keepsAll) (maxL := 5) (ret := (some .boolean)) (lv0 := [(0, .ref a_p1), (1, .int p2)]) (by decide) rfl (Nat.le_of_ble_eq_true rfl) rfl ?_
  intro p e s m below meth c A C hX hr hlk hA
  refine pb_iconst (v := 0) (pc := 0) C dX2_keepsAll_0 pb_kI_0 ?_
  refine pb_istore_n (lv' := [(2, .int 0), (0, .ref a_p1), (1, .int p2)]) (pc := 1) C dX2_keepsAll_1 rfl (by decide) rfl ?_
  obtain ⟨z2, hz2, hk2⟩ := pb_bind hf
  have E2 : ∀ (e2_2 : Int32), fX2_keepsAll_E2 e2_2 = some out → pb_V p l e rmX2_keepsAll s m (([.ref a_p1, .int p2] : List Value).toArray) below meth c 5 (dC, dI) vwCl A 0 0 (pb_MQ below (([.ref a_p1, .int p2] : List Value).toArray) s (dC, dI) vwCl (wwX2_keepsAll cyB cyI cyJ cyZ cyS a_p1 a_p1_cells w_p1 m_p1 n_p1 c_p1_size c_p1_cells) (wwX2_keepsAll cyB cyI cyJ cyZ cyS a_p1 a_p1_cells w_p1 m_p1 n_p1 c_p1_size c_p1_cells) (some (.int out)) A) (wwX2_keepsAll cyB cyI cyJ cyZ cyS a_p1 a_p1_cells w_p1 m_p1 n_p1 c_p1_size c_p1_cells) [] [] 56 := by
    intro e2_2 hf
    unfold fX2_keepsAll_E2 at hf
    refine pb_iconst (v := 1) (pc := 56) C dX2_keepsAll_56 pb_kI_1 ?_
    obtain rfl := Option.some.inj hf
    exact pb_zret (pc := 57) C hr hlk hA pb_isB1 dX2_keepsAll_57
  have L2 : ∀ (n : Nat) (l2_2 : Int32), pb_lp (fun y => fX2_keepsAll_L2 w_p1 m_p1 n_p1 c_p1_size c_p1_cells p2 y) n l2_2 = some z2 → pb_V p l e rmX2_keepsAll s m (([.ref a_p1, .int p2] : List Value).toArray) below meth c 5 (dC, dI) vwCl A 0 0 (pb_MQ below (([.ref a_p1, .int p2] : List Value).toArray) s (dC, dI) vwCl (wwX2_keepsAll cyB cyI cyJ cyZ cyS a_p1 a_p1_cells w_p1 m_p1 n_p1 c_p1_size c_p1_cells) (wwX2_keepsAll cyB cyI cyJ cyZ cyS a_p1 a_p1_cells w_p1 m_p1 n_p1 c_p1_size c_p1_cells) (some (.int out)) A) (wwX2_keepsAll cyB cyI cyJ cyZ cyS a_p1 a_p1_cells w_p1 m_p1 n_p1 c_p1_size c_p1_cells) [(0, .ref a_p1), (1, .int p2), (2, .int l2_2)] [] 2 := by
    intro n
    induction n with
    | zero => intro l2_2 hf; exact (pb_lp_zero hf).elim
    | succ n ih2 =>
      intro l2_2 hf
      obtain ⟨y2, hf, hl2⟩ := pb_lp_succ hf
      have hf : fX2_keepsAll_L2 w_p1 m_p1 n_p1 c_p1_size c_p1_cells p2 l2_2 = some y2 := hf
      unfold fX2_keepsAll_L2 at hf
      refine pb_iload_n (pc := 2) C dX2_keepsAll_2 rfl 2 rfl ?_
      refine pb_aload_n (pc := 3) C dX2_keepsAll_3 rfl 0 rfl ?_
      refine pb_get (pc := 4) C hnX2_keepsAll_X6 0 rfl rfl 3 (by decide) (List.mem_of_getElem? (i := 1) rfl) rfl rfl dX2_keepsAll_4 ?_
      refine pb_icmp_ge (pc := 7) (tgt := 56) C dX2_keepsAll_7 (by decide) (fun hc7 => ?_) (fun hc7 => ?_)
      · have hf := pb_pos hf hc7
        obtain rfl := Option.some.inj hf
        obtain rfl := pb_esc hl2
        refine pb_sub [] rfl ?_
        have hk2 := pb_inl hk2
        exact E2 l2_2 hk2
      · have hf := pb_neg hf hc7
        refine pb_iload_n (pc := 10) C dX2_keepsAll_10 rfl 1 rfl ?_
        refine pb_aload_n (pc := 11) C dX2_keepsAll_11 rfl 0 rfl ?_
        refine pb_iload_n (pc := 12) C dX2_keepsAll_12 rfl 2 rfl ?_
        refine pb_iconst (v := 1) (pc := 13) C dX2_keepsAll_13 pb_kI_1 ?_
        obtain ⟨r14, hr14, hf⟩ := pb_bind hf
        refine pb_callV (pc := 14) (n0 := 2) (ws' := (wwX2_keepsAll cyB cyI cyJ cyZ cyS a_p1 a_p1_cells w_p1 m_p1 n_p1 c_p1_size c_p1_cells)) (rest := [.int p2]) (st2 := [.int r14, .int p2]) C (kcX6_cell l dC dI cyB cyI cyJ cyZ cyS a_p1 a_p1_cells w_p1 m_p1 n_p1 c_p1_size c_p1_cells l2_2 1 r14 hr14) pb_NW_b (pb_NW_x hX) (cwV 2 C.1.2.2.2.2 gX2_keepsAll_X6_cell rfl rfl rfl kdV_X6_cell ⟨Nat.le_of_ble_eq_true rfl, Nat.le_of_ble_eq_true rfl⟩) 0 rfl rfl [0, 1] [] rfl rfl trivial rfl (by decide +kernel) (adl := [a_p1, a_p1_cells]) rfl rfl rfl rfl rfl (Nat.le_of_ble_eq_true rfl) ⟨Nat.le_refl _, Nat.le_refl _⟩ dX2_keepsAll_14 rfl ?_
        obtain ⟨r17, hr17, hf⟩ := pb_bind hf
        refine pb_callSN (host := "PastBets") (pc := 17) (n0 := 2) (ws' := (wwX2_keepsAll cyB cyI cyJ cyZ cyS a_p1 a_p1_cells w_p1 m_p1 n_p1 c_p1_size c_p1_cells)) (rest := []) (st2 := [.int r17]) C (kcX7_wasSo l dC dI cyB cyI cyJ cyZ cyS p2 r14 r17 hr17) pb_NW_b (pb_NW_x hX) ⟨va_cnB 2 C.1.2.2.2.2 gX2_keepsAll_X7_wasSo_n49 rfl rfl rfl hX.2.2.2.2.1 (C.1.2.2.2.2 _ (List.mem_of_getElem? (i := 11) rfl)) kdS_X7_wasSo ⟨Nat.le_of_ble_eq_true rfl, Nat.le_of_ble_eq_true rfl⟩, C.1.2.2.2.2 _ (List.mem_of_getElem? (i := 10) rfl), trivial⟩ [] [0, 1] rfl rfl ⟨⟨_, rfl, rfl⟩, ⟨⟨_, rfl, rfl⟩, trivial⟩⟩ rfl (by decide +kernel) (adl := []) rfl rfl rfl rfl rfl (Nat.le_of_ble_eq_true rfl) ⟨Nat.le_refl _, Nat.le_refl _⟩ dX2_keepsAll_17 rfl ?_
        refine pb_istore_n (lv' := [(3, .int r17), (0, .ref a_p1), (1, .int p2), (2, .int l2_2)]) (pc := 20) C dX2_keepsAll_20 rfl (by decide) rfl ?_
        refine pb_iload_n (pc := 21) C dX2_keepsAll_21 rfl 2 rfl ?_
        refine pb_aload_n (pc := 22) C dX2_keepsAll_22 rfl 1 rfl ?_
        refine pb_iload_n (pc := 23) C dX2_keepsAll_23 rfl 3 rfl ?_
        refine pb_iconst (v := 2) (pc := 24) C dX2_keepsAll_24 pb_kI_2 ?_
        obtain ⟨r25, hr25, hf⟩ := pb_bind hf
        refine pb_callV (pc := 25) (n0 := 2) (ws' := (wwX2_keepsAll cyB cyI cyJ cyZ cyS a_p1 a_p1_cells w_p1 m_p1 n_p1 c_p1_size c_p1_cells)) (rest := [.int p2]) (st2 := [.int r25, .int p2]) C (kcX6_cell l dC dI cyB cyI cyJ cyZ cyS a_p1 a_p1_cells w_p1 m_p1 n_p1 c_p1_size c_p1_cells l2_2 2 r25 hr25) pb_NW_b (pb_NW_x hX) (cwV 2 C.1.2.2.2.2 gX2_keepsAll_X6_cell rfl rfl rfl kdV_X6_cell ⟨Nat.le_of_ble_eq_true rfl, Nat.le_of_ble_eq_true rfl⟩) 0 rfl rfl [0, 1] [] rfl rfl trivial rfl (by decide +kernel) (adl := [a_p1, a_p1_cells]) rfl rfl rfl rfl rfl (Nat.le_of_ble_eq_true rfl) ⟨Nat.le_refl _, Nat.le_refl _⟩ dX2_keepsAll_25 rfl ?_
        obtain ⟨r28, hr28, hf⟩ := pb_bind hf
        refine pb_callSN (host := "PastBets") (pc := 28) (n0 := 2) (ws' := (wwX2_keepsAll cyB cyI cyJ cyZ cyS a_p1 a_p1_cells w_p1 m_p1 n_p1 c_p1_size c_p1_cells)) (rest := []) (st2 := [.int r28]) C (kcX7_wasSo l dC dI cyB cyI cyJ cyZ cyS p2 r25 r28 hr28) pb_NW_b (pb_NW_x hX) ⟨va_cnB 2 C.1.2.2.2.2 gX2_keepsAll_X7_wasSo_n49 rfl rfl rfl hX.2.2.2.2.1 (C.1.2.2.2.2 _ (List.mem_of_getElem? (i := 11) rfl)) kdS_X7_wasSo ⟨Nat.le_of_ble_eq_true rfl, Nat.le_of_ble_eq_true rfl⟩, C.1.2.2.2.2 _ (List.mem_of_getElem? (i := 10) rfl), trivial⟩ [] [0, 1] rfl rfl ⟨⟨_, rfl, rfl⟩, ⟨⟨_, rfl, rfl⟩, trivial⟩⟩ rfl (by decide +kernel) (adl := []) rfl rfl rfl rfl rfl (Nat.le_of_ble_eq_true rfl) ⟨Nat.le_refl _, Nat.le_refl _⟩ dX2_keepsAll_28 rfl ?_
        refine pb_istore (lv' := [(4, .int r28), (3, .int r17), (0, .ref a_p1), (1, .int p2), (2, .int l2_2)]) (pc := 31) C dX2_keepsAll_31 (by decide) rfl ?_
        refine pb_aload_n (pc := 33) C dX2_keepsAll_33 rfl 2 rfl ?_
        refine pb_iload_n (pc := 34) C dX2_keepsAll_34 rfl 4 rfl ?_
        refine pb_iconst (v := 0) (pc := 35) C dX2_keepsAll_35 pb_kI_0 ?_
        obtain ⟨r36, hr36, hf⟩ := pb_bind hf
        refine pb_callV (pc := 36) (n0 := 2) (ws' := (wwX2_keepsAll cyB cyI cyJ cyZ cyS a_p1 a_p1_cells w_p1 m_p1 n_p1 c_p1_size c_p1_cells)) (rest := []) (st2 := [.int r36]) C (kcX6_cell l dC dI cyB cyI cyJ cyZ cyS a_p1 a_p1_cells w_p1 m_p1 n_p1 c_p1_size c_p1_cells l2_2 0 r36 hr36) pb_NW_b (pb_NW_x hX) (cwV 2 C.1.2.2.2.2 gX2_keepsAll_X6_cell rfl rfl rfl kdV_X6_cell ⟨Nat.le_of_ble_eq_true rfl, Nat.le_of_ble_eq_true rfl⟩) 0 rfl rfl [0, 1] [] rfl rfl trivial rfl (by decide +kernel) (adl := [a_p1, a_p1_cells]) rfl rfl rfl rfl rfl (Nat.le_of_ble_eq_true rfl) ⟨Nat.le_refl _, Nat.le_refl _⟩ dX2_keepsAll_36 rfl ?_
        refine pb_iload_n (pc := 39) C dX2_keepsAll_39 rfl 1 rfl ?_
        refine pb_iload (pc := 40) C dX2_keepsAll_40 0 rfl ?_
        obtain ⟨r42, hr42, hf⟩ := pb_bind hf
        refine pb_callSN (host := "PastBets") (pc := 42) (n0 := 2) (ws' := (wwX2_keepsAll cyB cyI cyJ cyZ cyS a_p1 a_p1_cells w_p1 m_p1 n_p1 c_p1_size c_p1_cells)) (rest := []) (st2 := [.int r42]) C (kcX7_lawKept l dC dI cyB cyI cyJ cyZ cyS r36 r17 r28 r42 hr42) pb_NW_b (pb_NW_x hX) ⟨va_cnB 3 C.1.2.2.2.2 gX2_keepsAll_X7_lawKept_n53 rfl rfl rfl hX.2.2.2.2.2.1 (C.1.2.2.2.2 _ (List.mem_of_getElem? (i := 11) rfl)) kdS_X7_lawKept ⟨Nat.le_of_ble_eq_true rfl, Nat.le_of_ble_eq_true rfl⟩, C.1.2.2.2.2 _ (List.mem_of_getElem? (i := 13) rfl), trivial⟩ [] [0, 1] rfl rfl ⟨⟨_, rfl, rfl⟩, ⟨⟨_, rfl, rfl⟩, trivial⟩⟩ rfl (by decide +kernel) (adl := []) rfl rfl rfl rfl rfl (Nat.le_of_ble_eq_true rfl) ⟨Nat.le_refl _, Nat.le_refl _⟩ dX2_keepsAll_42 rfl ?_
        refine pb_if_ne (pc := 45) (tgt := 50) C dX2_keepsAll_45 (by decide) (fun hc45 => ?_) (fun hc45 => ?_)
        · have hf := pb_neg hf hc45
          refine pb_iinc (v := l2_2 + 1) (lv' := [(2, .int (l2_2 + 1)), (4, .int r28), (3, .int r17), (0, .ref a_p1), (1, .int p2)]) (pc := 50) C dX2_keepsAll_50 4 rfl (pb_inc pb_kI_1 rfl) (by decide) rfl ?_
          refine pb_goto (pc := 53) (tgt := 2) C dX2_keepsAll_53 (by decide) ?_
          obtain rfl := Option.some.inj hf
          refine pb_sub [3, 4, 0] rfl ?_
          have hl2 := pb_inl hl2
          exact ih2 (l2_2 + 1) hl2
        · have hf := pb_pos hf hc45
          refine pb_iconst (v := 0) (pc := 48) C dX2_keepsAll_48 pb_kI_0 ?_
          obtain rfl := Option.some.inj hf
          obtain rfl := pb_esc hl2
          obtain rfl := pb_esc hk2
          exact pb_zret (pc := 49) C hr hlk hA pb_isB0 dX2_keepsAll_49
  refine pb_sub [1, 2, 0] rfl ?_
  exact L2 pb_FU 0 hz2
def rmX2_weigh : Room := { frames := 3, cells := 0, slots := 0, locals := 76 }
def wwX2_weigh (cyB cyI cyJ cyZ cyS : ClassId) (a_t a_t_open a_t_weight a_p1 a_p1_cells a_p2 a_p2_cells : Nat) (w_p1 : Int32) (m_p1 : Int32) (n_p1 : Nat) (w_p2 : Int32) (m_p2 : Int32) (n_p2 : Nat) (c_t_total : Int64) (c_t_stale : Int32) (c_t_open : (Nat → Int32)) (c_t_weight : (Nat → Int64)) (c_p1_size : Int32) (c_p1_cells : (Nat → Int32)) (c_p2_size : Int32) (c_p2_cells : (Nat → Int32)) : va_W := [(a_t, .inr (2, [.ref a_t_open, .ref a_t_weight, .long c_t_total, .int c_t_stale])), (a_t_open, .inl (cyZ, 128, .inl c_t_open)), (a_t_weight, .inl (cyJ, 128, .inr (.inl c_t_weight))), (a_p1, .inr (6, [.int w_p1, .int m_p1, .ref a_p1_cells, .int c_p1_size])), (a_p1_cells, .inl (cyI, n_p1, .inl c_p1_cells)), (a_p2, .inr (6, [.int w_p2, .int m_p2, .ref a_p2_cells, .int c_p2_size])), (a_p2_cells, .inl (cyI, n_p2, .inl c_p2_cells))]
theorem hnX2_weigh_X2 : ∀ w ∈ wsX20, w ∈ wsX2_weigh := fun _ h => List.mem_cons_of_mem _ (List.mem_append_left _ (List.mem_append_right _ h))
set_option maxHeartbeats 4000000 in
set_option maxRecDepth 100000 in
theorem kcX2_weigh (l : Launch) (dC : Nat → ClassId) (dI : Nat → Nat → Nat) (cyB cyI cyJ cyZ cyS : ClassId) (a_t a_t_open a_t_weight a_p1 a_p1_cells a_p2 a_p2_cells : Nat) (w_p1 : Int32) (m_p1 : Int32) (n_p1 : Nat) (w_p2 : Int32) (m_p2 : Int32) (n_p2 : Nat) (c_t_total : Int64) (c_t_stale : Int32) (c_t_open : (Nat → Int32)) (c_t_weight : (Nat → Int64)) (c_p1_size : Int32) (c_p1_cells : (Nat → Int32)) (c_p2_size : Int32) (c_p2_cells : (Nat → Int32)) (out : (Int64 × Int32 × (Nat → Int32) × (Nat → Int64))) (hf : fX2_weigh w_p1 m_p1 n_p1 w_p2 m_p2 n_p2 c_t_total c_t_stale c_t_open c_t_weight c_p1_size c_p1_cells c_p2_size c_p2_cells = some out) : pb_K l yX2_weigh wsX2_weigh rmX2_weigh (dC, dI) vwCl (pb_tys cyB cyI cyJ cyZ cyS) pb_NW [.ref a_t, .ref a_p1, .ref a_p2] (wwX2_weigh cyB cyI cyJ cyZ cyS a_t a_t_open a_t_weight a_p1 a_p1_cells a_p2 a_p2_cells w_p1 m_p1 n_p1 w_p2 m_p2 n_p2 c_t_total c_t_stale c_t_open c_t_weight c_p1_size c_p1_cells c_p2_size c_p2_cells) (wwX2_weigh cyB cyI cyJ cyZ cyS a_t a_t_open a_t_weight a_p1 a_p1_cells a_p2 a_p2_cells w_p1 m_p1 n_p1 w_p2 m_p2 n_p2 out.1 out.2.1 out.2.2.1 out.2.2.2 c_p1_size c_p1_cells c_p2_size c_p2_cells) none := by
  unfold fX2_weigh at hf
  refine pb_K.ofV (cc := cX2_weigh) (maxL := 4) (ret := none) (lv0 := [(0, .ref a_t), (1, .ref a_p1), (2, .ref a_p2)]) (by decide) rfl (Nat.le_of_ble_eq_true rfl) rfl ?_
  intro p e s m below meth c A C hX hr hlk hA
  refine pb_aload_n (pc := 0) C dX2_weigh_0 rfl 0 rfl ?_
  refine pb_aload_n (pc := 1) C dX2_weigh_1 rfl 2 rfl ?_
  obtain ⟨r2, hr2, hf⟩ := pb_bind hf
  refine pb_callV (pc := 2) (n0 := 7) (ws' := (wwX2_weigh cyB cyI cyJ cyZ cyS a_t a_t_open a_t_weight a_p1 a_p1_cells a_p2 a_p2_cells w_p1 m_p1 n_p1 w_p2 m_p2 n_p2 c_t_total c_t_stale c_t_open r2 c_p1_size c_p1_cells c_p2_size c_p2_cells)) (rest := []) (st2 := []) C (kcX2_weighByFinds l dC dI cyB cyI cyJ cyZ cyS a_t a_t_open a_t_weight a_p2 a_p2_cells w_p2 m_p2 n_p2 c_t_total c_t_stale c_t_weight c_p2_size c_p2_cells r2 hr2) pb_NW_b (pb_NW_x hX) (cwV 1 C.1.2.2.2.2 gX2_weigh_X2_weighByFinds rfl rfl rfl kdV_X2_weighByFinds ⟨Nat.le_of_ble_eq_true rfl, Nat.le_of_ble_eq_true rfl⟩) 0 rfl rfl [0, 2, 5, 6] [1, 3, 4] rfl rfl ⟨⟨_, rfl, rfl⟩, ⟨⟨_, rfl, rfl⟩, ⟨⟨_, rfl, rfl⟩, trivial⟩⟩⟩ rfl (by decide +kernel) (adl := [a_t, a_t_weight, a_p2, a_p2_cells]) rfl rfl rfl rfl rfl (Nat.le_of_ble_eq_true rfl) ⟨Nat.le_refl _, Nat.le_refl _⟩ dX2_weigh_2 rfl ?_
  refine pb_aload_n (pc := 5) C dX2_weigh_5 rfl 0 rfl ?_
  refine pb_lconst (v := 0) (pc := 6) C dX2_weigh_6 pb_kL_0 ?_
  refine pb_put (pc := 7) (ws' := (wwX2_weigh cyB cyI cyJ cyZ cyS a_t a_t_open a_t_weight a_p1 a_p1_cells a_p2 a_p2_cells w_p1 m_p1 n_p1 w_p2 m_p2 n_p2 0 c_t_stale c_t_open r2 c_p1_size c_p1_cells c_p2_size c_p2_cells)) C hnX2_weigh_X2 tyX2 tyX2_ok nmX2 0 rfl rfl 2 (by decide) (List.mem_of_getElem? (i := 1) rfl) rfl rfl rfl rfl (Nat.le_of_ble_eq_true rfl) rfl dX2_weigh_7 ?_
  refine pb_iconst (v := 0) (pc := 10) C dX2_weigh_10 pb_kI_0 ?_
  refine pb_istore_n (lv' := [(3, .int 0), (0, .ref a_t), (1, .ref a_p1), (2, .ref a_p2)]) (pc := 11) C dX2_weigh_11 rfl (by decide) rfl ?_
  obtain ⟨z12, hz12, hk12⟩ := pb_bind hf
  have E12 : ∀ (e12_3 : Int32) (e12_c_t_total : Int64) (e12_c_t_open : (Nat → Int32)) (e12_c_t_weight : (Nat → Int64)), fX2_weigh_E12 e12_3 e12_c_t_total e12_c_t_open e12_c_t_weight = some out → pb_V p l e rmX2_weigh s m (([.ref a_t, .ref a_p1, .ref a_p2] : List Value).toArray) below meth c 4 (dC, dI) vwCl A 0 0 (pb_MQ below (([.ref a_t, .ref a_p1, .ref a_p2] : List Value).toArray) s (dC, dI) vwCl (wwX2_weigh cyB cyI cyJ cyZ cyS a_t a_t_open a_t_weight a_p1 a_p1_cells a_p2 a_p2_cells w_p1 m_p1 n_p1 w_p2 m_p2 n_p2 c_t_total c_t_stale c_t_open c_t_weight c_p1_size c_p1_cells c_p2_size c_p2_cells) (wwX2_weigh cyB cyI cyJ cyZ cyS a_t a_t_open a_t_weight a_p1 a_p1_cells a_p2 a_p2_cells w_p1 m_p1 n_p1 w_p2 m_p2 n_p2 out.1 out.2.1 out.2.2.1 out.2.2.2 c_p1_size c_p1_cells c_p2_size c_p2_cells) none A) (wwX2_weigh cyB cyI cyJ cyZ cyS a_t a_t_open a_t_weight a_p1 a_p1_cells a_p2 a_p2_cells w_p1 m_p1 n_p1 w_p2 m_p2 n_p2 e12_c_t_total c_t_stale e12_c_t_open e12_c_t_weight c_p1_size c_p1_cells c_p2_size c_p2_cells) [(0, .ref a_t)] [] 67 := by
    intro e12_3 e12_c_t_total e12_c_t_open e12_c_t_weight hf
    unfold fX2_weigh_E12 at hf
    refine pb_aload_n (pc := 67) C dX2_weigh_67 rfl 0 rfl ?_
    refine pb_iconst (v := 0) (pc := 68) C dX2_weigh_68 pb_kI_0 ?_
    refine pb_put (pc := 69) (ws' := (wwX2_weigh cyB cyI cyJ cyZ cyS a_t a_t_open a_t_weight a_p1 a_p1_cells a_p2 a_p2_cells w_p1 m_p1 n_p1 w_p2 m_p2 n_p2 e12_c_t_total 0 e12_c_t_open e12_c_t_weight c_p1_size c_p1_cells c_p2_size c_p2_cells)) C hnX2_weigh_X2 tyX2 tyX2_ok nmX2 0 rfl rfl 3 (by decide) (List.mem_of_getElem? (i := 4) rfl) rfl rfl rfl rfl (Nat.le_of_ble_eq_true rfl) rfl dX2_weigh_69 ?_
    obtain rfl := Option.some.inj hf
    exact pb_vret (pc := 72) C hr hlk hA dX2_weigh_72
  have L12 : ∀ (n : Nat) (l12_3 : Int32) (l12_c_t_total : Int64) (l12_c_t_open : (Nat → Int32)) (l12_c_t_weight : (Nat → Int64)), pb_lp (fun y => fX2_weigh_L12 w_p1 m_p1 n_p1 c_p1_size c_p1_cells y.1 y.2.1 y.2.2.1 y.2.2.2) n (l12_3, l12_c_t_total, l12_c_t_open, l12_c_t_weight) = some z12 → pb_V p l e rmX2_weigh s m (([.ref a_t, .ref a_p1, .ref a_p2] : List Value).toArray) below meth c 4 (dC, dI) vwCl A 0 0 (pb_MQ below (([.ref a_t, .ref a_p1, .ref a_p2] : List Value).toArray) s (dC, dI) vwCl (wwX2_weigh cyB cyI cyJ cyZ cyS a_t a_t_open a_t_weight a_p1 a_p1_cells a_p2 a_p2_cells w_p1 m_p1 n_p1 w_p2 m_p2 n_p2 c_t_total c_t_stale c_t_open c_t_weight c_p1_size c_p1_cells c_p2_size c_p2_cells) (wwX2_weigh cyB cyI cyJ cyZ cyS a_t a_t_open a_t_weight a_p1 a_p1_cells a_p2 a_p2_cells w_p1 m_p1 n_p1 w_p2 m_p2 n_p2 out.1 out.2.1 out.2.2.1 out.2.2.2 c_p1_size c_p1_cells c_p2_size c_p2_cells) none A) (wwX2_weigh cyB cyI cyJ cyZ cyS a_t a_t_open a_t_weight a_p1 a_p1_cells a_p2 a_p2_cells w_p1 m_p1 n_p1 w_p2 m_p2 n_p2 l12_c_t_total c_t_stale l12_c_t_open l12_c_t_weight c_p1_size c_p1_cells c_p2_size c_p2_cells) [(0, .ref a_t), (1, .ref a_p1), (3, .int l12_3)] [] 12 := by
    intro n
    induction n with
    | zero => intro l12_3 l12_c_t_total l12_c_t_open l12_c_t_weight hf; exact (pb_lp_zero hf).elim
    | succ n ih12 =>
      intro l12_3 l12_c_t_total l12_c_t_open l12_c_t_weight hf
      obtain ⟨y12, hf, hl12⟩ := pb_lp_succ hf
      have hf : fX2_weigh_L12 w_p1 m_p1 n_p1 c_p1_size c_p1_cells l12_3 l12_c_t_total l12_c_t_open l12_c_t_weight = some y12 := hf
      unfold fX2_weigh_L12 at hf
      refine pb_iload_n (pc := 12) C dX2_weigh_12 rfl 2 rfl ?_
      refine pb_sipush (v := 128) (pc := 13) C dX2_weigh_13 pb_kS_128 ?_
      refine pb_icmp_ge (pc := 16) (tgt := 67) C dX2_weigh_16 (by decide) (fun hc16 => ?_) (fun hc16 => ?_)
      · have hf := pb_pos hf hc16
        obtain rfl := Option.some.inj hf
        obtain rfl := pb_esc hl12
        refine pb_sub [0] rfl ?_
        exact E12 l12_3 l12_c_t_total l12_c_t_open l12_c_t_weight hk12
      · have hf := pb_neg hf hc16
        refine pb_aload_n (pc := 19) C dX2_weigh_19 rfl 0 rfl ?_
        refine pb_get (pc := 20) C hnX2_weigh_X2 0 rfl rfl 0 (by decide) (List.mem_of_getElem? (i := 2) rfl) rfl rfl dX2_weigh_20 ?_
        refine pb_iload_n (pc := 23) C dX2_weigh_23 rfl 2 rfl ?_
        refine pb_aload_n (pc := 24) C dX2_weigh_24 rfl 1 rfl ?_
        refine pb_iload_n (pc := 25) C dX2_weigh_25 rfl 2 rfl ?_
        obtain ⟨r26, hr26, hf⟩ := pb_bind hf
        refine pb_callS (pc := 26) (n0 := 7) (ws' := (wwX2_weigh cyB cyI cyJ cyZ cyS a_t a_t_open a_t_weight a_p1 a_p1_cells a_p2 a_p2_cells w_p1 m_p1 n_p1 w_p2 m_p2 n_p2 l12_c_t_total c_t_stale l12_c_t_open l12_c_t_weight c_p1_size c_p1_cells c_p2_size c_p2_cells)) (rest := [.int l12_3, .ref a_t_open]) (st2 := [.int r26, .int l12_3, .ref a_t_open]) C (kcX2_keepsAll l dC dI cyB cyI cyJ cyZ cyS a_p1 a_p1_cells w_p1 m_p1 n_p1 c_p1_size c_p1_cells l12_3 r26 hr26) pb_NW_b (pb_NW_x hX) (va_cwS 2 C.1.2.2.2.2 gX2_weigh_X2_keepsAll rfl rfl rfl kdS_X2_keepsAll ⟨Nat.le_of_ble_eq_true rfl, Nat.le_of_ble_eq_true rfl⟩) [3, 4] [0, 1, 2, 5, 6] rfl rfl ⟨⟨_, rfl, rfl⟩, ⟨⟨_, rfl, rfl⟩, ⟨⟨_, rfl, rfl⟩, ⟨⟨_, rfl, rfl⟩, ⟨⟨_, rfl, rfl⟩, trivial⟩⟩⟩⟩⟩ rfl (by decide +kernel) (adl := [a_p1, a_p1_cells]) rfl rfl rfl rfl rfl (Nat.le_of_ble_eq_true rfl) ⟨Nat.le_refl _, Nat.le_refl _⟩ dX2_weigh_26 rfl ?_
        obtain ⟨g29, hf⟩ := pb_grd hf
        obtain ⟨u29, eu29, hf⟩ := pb_bind hf
        have eu29 := Option.some.inj eu29
        refine pb_zast (pc := 29) (ws' := (wwX2_weigh cyB cyI cyJ cyZ cyS a_t a_t_open a_t_weight a_p1 a_p1_cells a_p2 a_p2_cells w_p1 m_p1 n_p1 w_p2 m_p2 n_p2 l12_c_t_total c_t_stale u29 l12_c_t_weight c_p1_size c_p1_cells c_p2_size c_p2_cells)) C 1 3 rfl rfl g29 eu29 rfl dX2_weigh_29 ?_
        refine pb_aload_n (pc := 30) C dX2_weigh_30 rfl 0 rfl ?_
        refine pb_get (pc := 31) C hnX2_weigh_X2 0 rfl rfl 0 (by decide) (List.mem_of_getElem? (i := 2) rfl) rfl rfl dX2_weigh_31 ?_
        refine pb_iload_n (pc := 34) C dX2_weigh_34 rfl 2 rfl ?_
        obtain ⟨g35, hf⟩ := pb_grd hf
        refine pb_zald (pc := 35) C 1 3 rfl rfl g35 dX2_weigh_35 ?_
        obtain ⟨y46, hf, hk46⟩ := pb_bind hf
        have J46 : ∀ (j46_c_t_weight : (Nat → Int64)), fX2_weigh_J46 l12_3 l12_c_t_total u29 j46_c_t_weight = some y12 → pb_V p l e rmX2_weigh s m (([.ref a_t, .ref a_p1, .ref a_p2] : List Value).toArray) below meth c 4 (dC, dI) vwCl A 0 0 (pb_MQ below (([.ref a_t, .ref a_p1, .ref a_p2] : List Value).toArray) s (dC, dI) vwCl (wwX2_weigh cyB cyI cyJ cyZ cyS a_t a_t_open a_t_weight a_p1 a_p1_cells a_p2 a_p2_cells w_p1 m_p1 n_p1 w_p2 m_p2 n_p2 c_t_total c_t_stale c_t_open c_t_weight c_p1_size c_p1_cells c_p2_size c_p2_cells) (wwX2_weigh cyB cyI cyJ cyZ cyS a_t a_t_open a_t_weight a_p1 a_p1_cells a_p2 a_p2_cells w_p1 m_p1 n_p1 w_p2 m_p2 n_p2 out.1 out.2.1 out.2.2.1 out.2.2.2 c_p1_size c_p1_cells c_p2_size c_p2_cells) none A) (wwX2_weigh cyB cyI cyJ cyZ cyS a_t a_t_open a_t_weight a_p1 a_p1_cells a_p2 a_p2_cells w_p1 m_p1 n_p1 w_p2 m_p2 n_p2 l12_c_t_total c_t_stale u29 j46_c_t_weight c_p1_size c_p1_cells c_p2_size c_p2_cells) [(0, .ref a_t), (1, .ref a_p1), (3, .int l12_3)] [] 46 := by
          intro j46_c_t_weight hf
          unfold fX2_weigh_J46 at hf
          refine pb_aload_n (pc := 46) C dX2_weigh_46 rfl 0 rfl ?_
          refine pb_dup (pc := 47) C dX2_weigh_47 rfl ?_
          refine pb_get (pc := 48) C hnX2_weigh_X2 0 rfl rfl 2 (by decide) (List.mem_of_getElem? (i := 1) rfl) rfl rfl dX2_weigh_48 ?_
          refine pb_aload_n (pc := 51) C dX2_weigh_51 rfl 0 rfl ?_
          refine pb_get (pc := 52) C hnX2_weigh_X2 0 rfl rfl 1 (by decide) (List.mem_of_getElem? (i := 3) rfl) rfl rfl dX2_weigh_52 ?_
          refine pb_iload_n (pc := 55) C dX2_weigh_55 rfl 2 rfl ?_
          obtain ⟨g56, hf⟩ := pb_grd hf
          refine pb_lald (pc := 56) C 2 2 rfl rfl g56 dX2_weigh_56 ?_
          refine pb_ladd (pc := 57) C dX2_weigh_57 ?_
          obtain ⟨x58, ex58, hf⟩ := pb_bind hf
          have ex58 := Option.some.inj ex58
          refine pb_topl ex58 ?_
          refine pb_put (pc := 58) (ws' := (wwX2_weigh cyB cyI cyJ cyZ cyS a_t a_t_open a_t_weight a_p1 a_p1_cells a_p2 a_p2_cells w_p1 m_p1 n_p1 w_p2 m_p2 n_p2 x58 c_t_stale u29 j46_c_t_weight c_p1_size c_p1_cells c_p2_size c_p2_cells)) C hnX2_weigh_X2 tyX2 tyX2_ok nmX2 0 rfl rfl 2 (by decide) (List.mem_of_getElem? (i := 1) rfl) rfl rfl rfl rfl (Nat.le_of_ble_eq_true rfl) rfl dX2_weigh_58 ?_
          refine pb_iinc (v := l12_3 + 1) (lv' := [(3, .int (l12_3 + 1)), (0, .ref a_t), (1, .ref a_p1)]) (pc := 61) C dX2_weigh_61 2 rfl (pb_inc pb_kI_1 rfl) (by decide) rfl ?_
          refine pb_goto (pc := 64) (tgt := 12) C dX2_weigh_64 (by decide) ?_
          obtain rfl := Option.some.inj hf
          refine pb_sub [1, 2, 0] rfl ?_
          have hl12 := pb_inl hl12
          exact ih12 (l12_3 + 1) x58 u29 j46_c_t_weight hl12
        refine pb_if_ne (pc := 36) (tgt := 46) C dX2_weigh_36 (by decide) (fun hc36 => ?_) (fun hc36 => ?_)
        · have hf := pb_neg hf hc36
          obtain rfl := Option.some.inj hf
          exact J46 l12_c_t_weight hk46
        · have hf := pb_pos hf hc36
          refine pb_aload_n (pc := 39) C dX2_weigh_39 rfl 0 rfl ?_
          refine pb_get (pc := 40) C hnX2_weigh_X2 0 rfl rfl 1 (by decide) (List.mem_of_getElem? (i := 3) rfl) rfl rfl dX2_weigh_40 ?_
          refine pb_iload_n (pc := 43) C dX2_weigh_43 rfl 2 rfl ?_
          refine pb_lconst (v := 0) (pc := 44) C dX2_weigh_44 pb_kL_0 ?_
          obtain ⟨g45, hf⟩ := pb_grd hf
          obtain ⟨u45, eu45, hf⟩ := pb_bind hf
          have eu45 := Option.some.inj eu45
          refine pb_last (pc := 45) (ws' := (wwX2_weigh cyB cyI cyJ cyZ cyS a_t a_t_open a_t_weight a_p1 a_p1_cells a_p2 a_p2_cells w_p1 m_p1 n_p1 w_p2 m_p2 n_p2 l12_c_t_total c_t_stale u29 u45 c_p1_size c_p1_cells c_p2_size c_p2_cells)) C 2 2 rfl rfl g45 eu45 rfl dX2_weigh_45 ?_
          obtain rfl := Option.some.inj hf
          exact J46 u45 hk46
  refine pb_sub [1, 2, 0] rfl ?_
  exact L12 pb_FU 0 0 c_t_open r2 hz12
def rmX2_howManyPossible : Room := { frames := 0, cells := 0, slots := 0, locals := 0 }
def wwX2_howManyPossible (cyB cyI cyJ cyZ cyS : ClassId) (a_t a_t_open a_t_weight : Nat) (c_t_total : Int64) (c_t_stale : Int32) (c_t_open : (Nat → Int32)) : va_W := [(a_t, .inr (2, [.ref a_t_open, .ref a_t_weight, .long c_t_total, .int c_t_stale])), (a_t_open, .inl (cyZ, 128, .inl c_t_open))]
theorem hnX2_howManyPossible_X2 : ∀ w ∈ wsX20, w ∈ wsX2_howManyPossible := fun _ h => List.mem_cons_of_mem _ (List.mem_append_right _ h)
set_option maxHeartbeats 4000000 in
set_option maxRecDepth 100000 in
theorem kcX2_howManyPossible (l : Launch) (dC : Nat → ClassId) (dI : Nat → Nat → Nat) (cyB cyI cyJ cyZ cyS : ClassId) (a_t a_t_open a_t_weight : Nat) (c_t_total : Int64) (c_t_stale : Int32) (c_t_open : (Nat → Int32)) (out : Int32) (hf : fX2_howManyPossible c_t_open = some out) : pb_K l yX2_howManyPossible wsX2_howManyPossible rmX2_howManyPossible (dC, dI) vwCl (pb_tys cyB cyI cyJ cyZ cyS) pb_NW [.ref a_t] (wwX2_howManyPossible cyB cyI cyJ cyZ cyS a_t a_t_open a_t_weight c_t_total c_t_stale c_t_open) (wwX2_howManyPossible cyB cyI cyJ cyZ cyS a_t a_t_open a_t_weight c_t_total c_t_stale c_t_open) (some (.int out)) := by
  unfold fX2_howManyPossible at hf
  refine pb_K.ofV (cc := cX2_howManyPossible) (maxL := 3) (ret := (some .int)) (lv0 := [(0, .ref a_t)]) (by decide) rfl (Nat.le_of_ble_eq_true rfl) rfl ?_
  intro p e s m below meth c A C hX hr hlk hA
  refine pb_iconst (v := 0) (pc := 0) C dX2_howManyPossible_0 pb_kI_0 ?_
  refine pb_istore_n (lv' := [(1, .int 0), (0, .ref a_t)]) (pc := 1) C dX2_howManyPossible_1 rfl (by decide) rfl ?_
  refine pb_iconst (v := 0) (pc := 2) C dX2_howManyPossible_2 pb_kI_0 ?_
  refine pb_istore_n (lv' := [(2, .int 0), (1, .int 0), (0, .ref a_t)]) (pc := 3) C dX2_howManyPossible_3 rfl (by decide) rfl ?_
  obtain ⟨z4, hz4, hk4⟩ := pb_bind hf
  have E4 : ∀ (e4_1 : Int32) (e4_2 : Int32), fX2_howManyPossible_E4 e4_1 e4_2 = some out → pb_V p l e rmX2_howManyPossible s m (([.ref a_t] : List Value).toArray) below meth c 3 (dC, dI) vwCl A 0 0 (pb_MQ below (([.ref a_t] : List Value).toArray) s (dC, dI) vwCl (wwX2_howManyPossible cyB cyI cyJ cyZ cyS a_t a_t_open a_t_weight c_t_total c_t_stale c_t_open) (wwX2_howManyPossible cyB cyI cyJ cyZ cyS a_t a_t_open a_t_weight c_t_total c_t_stale c_t_open) (some (.int out)) A) (wwX2_howManyPossible cyB cyI cyJ cyZ cyS a_t a_t_open a_t_weight c_t_total c_t_stale c_t_open) [(1, .int e4_1)] [] 29 := by
    intro e4_1 e4_2 hf
    unfold fX2_howManyPossible_E4 at hf
    refine pb_iload_n (pc := 29) C dX2_howManyPossible_29 rfl 0 rfl ?_
    obtain rfl := Option.some.inj hf
    exact pb_iret (pc := 30) C hr hlk hA dX2_howManyPossible_30
  have L4 : ∀ (n : Nat) (l4_1 : Int32) (l4_2 : Int32), pb_lp (fun y => fX2_howManyPossible_L4 c_t_open y.1 y.2) n (l4_1, l4_2) = some z4 → pb_V p l e rmX2_howManyPossible s m (([.ref a_t] : List Value).toArray) below meth c 3 (dC, dI) vwCl A 0 0 (pb_MQ below (([.ref a_t] : List Value).toArray) s (dC, dI) vwCl (wwX2_howManyPossible cyB cyI cyJ cyZ cyS a_t a_t_open a_t_weight c_t_total c_t_stale c_t_open) (wwX2_howManyPossible cyB cyI cyJ cyZ cyS a_t a_t_open a_t_weight c_t_total c_t_stale c_t_open) (some (.int out)) A) (wwX2_howManyPossible cyB cyI cyJ cyZ cyS a_t a_t_open a_t_weight c_t_total c_t_stale c_t_open) [(0, .ref a_t), (1, .int l4_1), (2, .int l4_2)] [] 4 := by
    intro n
    induction n with
    | zero => intro l4_1 l4_2 hf; exact (pb_lp_zero hf).elim
    | succ n ih4 =>
      intro l4_1 l4_2 hf
      obtain ⟨y4, hf, hl4⟩ := pb_lp_succ hf
      have hf : fX2_howManyPossible_L4 c_t_open l4_1 l4_2 = some y4 := hf
      unfold fX2_howManyPossible_L4 at hf
      refine pb_iload_n (pc := 4) C dX2_howManyPossible_4 rfl 2 rfl ?_
      refine pb_sipush (v := 128) (pc := 5) C dX2_howManyPossible_5 pb_kS_128 ?_
      refine pb_icmp_ge (pc := 8) (tgt := 29) C dX2_howManyPossible_8 (by decide) (fun hc8 => ?_) (fun hc8 => ?_)
      · have hf := pb_pos hf hc8
        obtain rfl := Option.some.inj hf
        obtain rfl := pb_esc hl4
        refine pb_sub [1] rfl ?_
        exact E4 l4_1 l4_2 hk4
      · have hf := pb_neg hf hc8
        refine pb_aload_n (pc := 11) C dX2_howManyPossible_11 rfl 0 rfl ?_
        refine pb_get (pc := 12) C hnX2_howManyPossible_X2 0 rfl rfl 0 (by decide) (List.mem_of_getElem? (i := 1) rfl) rfl rfl dX2_howManyPossible_12 ?_
        refine pb_iload_n (pc := 15) C dX2_howManyPossible_15 rfl 2 rfl ?_
        obtain ⟨g16, hf⟩ := pb_grd hf
        refine pb_zald (pc := 16) C 1 3 rfl rfl g16 dX2_howManyPossible_16 ?_
        refine pb_if_eq (pc := 17) (tgt := 23) C dX2_howManyPossible_17 (by decide) (fun hc17 => ?_) (fun hc17 => ?_)
        · have hf := pb_pos hf hc17
          refine pb_iinc (v := l4_2 + 1) (lv' := [(2, .int (l4_2 + 1)), (0, .ref a_t), (1, .int l4_1)]) (pc := 23) C dX2_howManyPossible_23 2 rfl (pb_inc pb_kI_1 rfl) (by decide) rfl ?_
          refine pb_goto (pc := 26) (tgt := 4) C dX2_howManyPossible_26 (by decide) ?_
          obtain rfl := Option.some.inj hf
          refine pb_sub [1, 2, 0] rfl ?_
          have hl4 := pb_inl hl4
          exact ih4 l4_1 (l4_2 + 1) hl4
        · have hf := pb_neg hf hc17
          refine pb_iinc (v := l4_1 + 1) (lv' := [(1, .int (l4_1 + 1)), (0, .ref a_t), (2, .int l4_2)]) (pc := 20) C dX2_howManyPossible_20 1 rfl (pb_inc pb_kI_1 rfl) (by decide) rfl ?_
          refine pb_iinc (v := l4_2 + 1) (lv' := [(2, .int (l4_2 + 1)), (1, .int (l4_1 + 1)), (0, .ref a_t)]) (pc := 23) C dX2_howManyPossible_23 2 rfl (pb_inc pb_kI_1 rfl) (by decide) rfl ?_
          refine pb_goto (pc := 26) (tgt := 4) C dX2_howManyPossible_26 (by decide) ?_
          obtain rfl := Option.some.inj hf
          refine pb_sub [2, 1, 0] rfl ?_
          have hl4 := pb_inl hl4
          exact ih4 (l4_1 + 1) (l4_2 + 1) hl4
  refine pb_sub [2, 1, 0] rfl ?_
  exact L4 pb_FU 0 0 hz4
def rmX2_possibleAt : Room := { frames := 0, cells := 0, slots := 0, locals := 0 }
def wwX2_possibleAt (cyB cyI cyJ cyZ cyS : ClassId) (a_t a_t_open a_t_weight : Nat) (c_t_total : Int64) (c_t_stale : Int32) (c_t_open : (Nat → Int32)) : va_W := [(a_t, .inr (2, [.ref a_t_open, .ref a_t_weight, .long c_t_total, .int c_t_stale])), (a_t_open, .inl (cyZ, 128, .inl c_t_open))]
theorem hnX2_possibleAt_X2 : ∀ w ∈ wsX20, w ∈ wsX2_possibleAt := fun _ h => List.mem_cons_of_mem _ (List.mem_append_right _ h)
set_option maxHeartbeats 4000000 in
set_option maxRecDepth 100000 in
theorem kcX2_possibleAt (l : Launch) (dC : Nat → ClassId) (dI : Nat → Nat → Nat) (cyB cyI cyJ cyZ cyS : ClassId) (a_t a_t_open a_t_weight : Nat) (c_t_total : Int64) (c_t_stale : Int32) (c_t_open : (Nat → Int32)) (p1 : Int32) (out : Int32) (hf : fX2_possibleAt c_t_open p1 = some out) : pb_K l yX2_possibleAt wsX2_possibleAt rmX2_possibleAt (dC, dI) vwCl (pb_tys cyB cyI cyJ cyZ cyS) pb_NW [.ref a_t, .int p1] (wwX2_possibleAt cyB cyI cyJ cyZ cyS a_t a_t_open a_t_weight c_t_total c_t_stale c_t_open) (wwX2_possibleAt cyB cyI cyJ cyZ cyS a_t a_t_open a_t_weight c_t_total c_t_stale c_t_open) (some (.int out)) := by
  unfold fX2_possibleAt at hf
  refine pb_K.ofV (cc := cX2_possibleAt) (maxL := 4) (ret := (some .int)) (lv0 := [(0, .ref a_t), (1, .int p1)]) (by decide) rfl (Nat.le_of_ble_eq_true rfl) rfl ?_
  intro p e s m below meth c A C hX hr hlk hA
  refine pb_iconst (v := 0) (pc := 0) C dX2_possibleAt_0 pb_kI_0 ?_
  refine pb_istore_n (lv' := [(2, .int 0), (0, .ref a_t), (1, .int p1)]) (pc := 1) C dX2_possibleAt_1 rfl (by decide) rfl ?_
  refine pb_iconst (v := 0) (pc := 2) C dX2_possibleAt_2 pb_kI_0 ?_
  refine pb_istore_n (lv' := [(3, .int 0), (2, .int 0), (0, .ref a_t), (1, .int p1)]) (pc := 3) C dX2_possibleAt_3 rfl (by decide) rfl ?_
  obtain ⟨z4, hz4, hk4⟩ := pb_bind hf
  have E4 : ∀ (e4_2 : Int32) (e4_3 : Int32), fX2_possibleAt_E4 e4_2 e4_3 = some out → pb_V p l e rmX2_possibleAt s m (([.ref a_t, .int p1] : List Value).toArray) below meth c 4 (dC, dI) vwCl A 0 0 (pb_MQ below (([.ref a_t, .int p1] : List Value).toArray) s (dC, dI) vwCl (wwX2_possibleAt cyB cyI cyJ cyZ cyS a_t a_t_open a_t_weight c_t_total c_t_stale c_t_open) (wwX2_possibleAt cyB cyI cyJ cyZ cyS a_t a_t_open a_t_weight c_t_total c_t_stale c_t_open) (some (.int out)) A) (wwX2_possibleAt cyB cyI cyJ cyZ cyS a_t a_t_open a_t_weight c_t_total c_t_stale c_t_open) [] [] 36 := by
    intro e4_2 e4_3 hf
    unfold fX2_possibleAt_E4 at hf
    refine pb_iconst (v := (-1)) (pc := 36) C dX2_possibleAt_36 pb_kI_m1 ?_
    obtain rfl := Option.some.inj hf
    exact pb_iret (pc := 37) C hr hlk hA dX2_possibleAt_37
  have L4 : ∀ (n : Nat) (l4_2 : Int32) (l4_3 : Int32), pb_lp (fun y => fX2_possibleAt_L4 c_t_open p1 y.1 y.2) n (l4_2, l4_3) = some z4 → pb_V p l e rmX2_possibleAt s m (([.ref a_t, .int p1] : List Value).toArray) below meth c 4 (dC, dI) vwCl A 0 0 (pb_MQ below (([.ref a_t, .int p1] : List Value).toArray) s (dC, dI) vwCl (wwX2_possibleAt cyB cyI cyJ cyZ cyS a_t a_t_open a_t_weight c_t_total c_t_stale c_t_open) (wwX2_possibleAt cyB cyI cyJ cyZ cyS a_t a_t_open a_t_weight c_t_total c_t_stale c_t_open) (some (.int out)) A) (wwX2_possibleAt cyB cyI cyJ cyZ cyS a_t a_t_open a_t_weight c_t_total c_t_stale c_t_open) [(0, .ref a_t), (1, .int p1), (2, .int l4_2), (3, .int l4_3)] [] 4 := by
    intro n
    induction n with
    | zero => intro l4_2 l4_3 hf; exact (pb_lp_zero hf).elim
    | succ n ih4 =>
      intro l4_2 l4_3 hf
      obtain ⟨y4, hf, hl4⟩ := pb_lp_succ hf
      have hf : fX2_possibleAt_L4 c_t_open p1 l4_2 l4_3 = some y4 := hf
      unfold fX2_possibleAt_L4 at hf
      refine pb_iload_n (pc := 4) C dX2_possibleAt_4 rfl 3 rfl ?_
      refine pb_sipush (v := 128) (pc := 5) C dX2_possibleAt_5 pb_kS_128 ?_
      refine pb_icmp_ge (pc := 8) (tgt := 36) C dX2_possibleAt_8 (by decide) (fun hc8 => ?_) (fun hc8 => ?_)
      · have hf := pb_pos hf hc8
        obtain rfl := Option.some.inj hf
        obtain rfl := pb_esc hl4
        refine pb_sub [] rfl ?_
        have hk4 := pb_inl hk4
        exact E4 l4_2 l4_3 hk4
      · have hf := pb_neg hf hc8
        refine pb_aload_n (pc := 11) C dX2_possibleAt_11 rfl 0 rfl ?_
        refine pb_get (pc := 12) C hnX2_possibleAt_X2 0 rfl rfl 0 (by decide) (List.mem_of_getElem? (i := 1) rfl) rfl rfl dX2_possibleAt_12 ?_
        refine pb_iload_n (pc := 15) C dX2_possibleAt_15 rfl 3 rfl ?_
        obtain ⟨g16, hf⟩ := pb_grd hf
        refine pb_zald (pc := 16) C 1 3 rfl rfl g16 dX2_possibleAt_16 ?_
        refine pb_if_eq (pc := 17) (tgt := 30) C dX2_possibleAt_17 (by decide) (fun hc17 => ?_) (fun hc17 => ?_)
        · have hf := pb_pos hf hc17
          refine pb_iinc (v := l4_3 + 1) (lv' := [(3, .int (l4_3 + 1)), (0, .ref a_t), (1, .int p1), (2, .int l4_2)]) (pc := 30) C dX2_possibleAt_30 3 rfl (pb_inc pb_kI_1 rfl) (by decide) rfl ?_
          refine pb_goto (pc := 33) (tgt := 4) C dX2_possibleAt_33 (by decide) ?_
          obtain rfl := Option.some.inj hf
          refine pb_sub [1, 2, 3, 0] rfl ?_
          have hl4 := pb_inl hl4
          exact ih4 l4_2 (l4_3 + 1) hl4
        · have hf := pb_neg hf hc17
          refine pb_iload_n (pc := 20) C dX2_possibleAt_20 rfl 2 rfl ?_
          refine pb_iload_n (pc := 21) C dX2_possibleAt_21 rfl 1 rfl ?_
          refine pb_icmp_ne (pc := 22) (tgt := 27) C dX2_possibleAt_22 (by decide) (fun hc22 => ?_) (fun hc22 => ?_)
          · have hf := pb_neg hf hc22
            refine pb_iinc (v := l4_2 + 1) (lv' := [(2, .int (l4_2 + 1)), (0, .ref a_t), (1, .int p1), (3, .int l4_3)]) (pc := 27) C dX2_possibleAt_27 2 rfl (pb_inc pb_kI_1 rfl) (by decide) rfl ?_
            refine pb_iinc (v := l4_3 + 1) (lv' := [(3, .int (l4_3 + 1)), (2, .int (l4_2 + 1)), (0, .ref a_t), (1, .int p1)]) (pc := 30) C dX2_possibleAt_30 3 rfl (pb_inc pb_kI_1 rfl) (by decide) rfl ?_
            refine pb_goto (pc := 33) (tgt := 4) C dX2_possibleAt_33 (by decide) ?_
            obtain rfl := Option.some.inj hf
            refine pb_sub [2, 3, 1, 0] rfl ?_
            have hl4 := pb_inl hl4
            exact ih4 (l4_2 + 1) (l4_3 + 1) hl4
          · have hf := pb_pos hf hc22
            refine pb_iload_n (pc := 25) C dX2_possibleAt_25 rfl 3 rfl ?_
            obtain rfl := Option.some.inj hf
            obtain rfl := pb_esc hl4
            obtain rfl := pb_esc hk4
            exact pb_iret (pc := 26) C hr hlk hA dX2_possibleAt_26
  refine pb_sub [2, 3, 1, 0] rfl ?_
  exact L4 pb_FU 0 0 hz4
def rmX2_mostWeight : Room := { frames := 0, cells := 0, slots := 0, locals := 0 }
def wwX2_mostWeight (cyB cyI cyJ cyZ cyS : ClassId) (a_t a_t_open a_t_weight : Nat) (c_t_total : Int64) (c_t_stale : Int32) (c_t_weight : (Nat → Int64)) : va_W := [(a_t, .inr (2, [.ref a_t_open, .ref a_t_weight, .long c_t_total, .int c_t_stale])), (a_t_weight, .inl (cyJ, 128, .inr (.inl c_t_weight)))]
theorem hnX2_mostWeight_X2 : ∀ w ∈ wsX20, w ∈ wsX2_mostWeight := fun _ h => List.mem_cons_of_mem _ (List.mem_append_right _ h)
set_option maxHeartbeats 4000000 in
set_option maxRecDepth 100000 in
theorem kcX2_mostWeight (l : Launch) (dC : Nat → ClassId) (dI : Nat → Nat → Nat) (cyB cyI cyJ cyZ cyS : ClassId) (a_t a_t_open a_t_weight : Nat) (c_t_total : Int64) (c_t_stale : Int32) (c_t_weight : (Nat → Int64)) (out : Int32) (hf : fX2_mostWeight c_t_weight = some out) : pb_K l yX2_mostWeight wsX2_mostWeight rmX2_mostWeight (dC, dI) vwCl (pb_tys cyB cyI cyJ cyZ cyS) pb_NW [.ref a_t] (wwX2_mostWeight cyB cyI cyJ cyZ cyS a_t a_t_open a_t_weight c_t_total c_t_stale c_t_weight) (wwX2_mostWeight cyB cyI cyJ cyZ cyS a_t a_t_open a_t_weight c_t_total c_t_stale c_t_weight) (some (.int out)) := by
  unfold fX2_mostWeight at hf
  refine pb_K.ofV (cc := cX2_mostWeight) (maxL := 5) (ret := (some .int)) (lv0 := [(0, .ref a_t)]) (by decide) rfl (Nat.le_of_ble_eq_true rfl) rfl ?_
  intro p e s m below meth c A C hX hr hlk hA
  refine pb_iconst (v := (-1)) (pc := 0) C dX2_mostWeight_0 pb_kI_m1 ?_
  refine pb_istore_n (lv' := [(1, .int (-1)), (0, .ref a_t)]) (pc := 1) C dX2_mostWeight_1 rfl (by decide) rfl ?_
  refine pb_lconst (v := 0) (pc := 2) C dX2_mostWeight_2 pb_kL_0 ?_
  refine pb_lstore_n (lv' := [(2, .long 0), (1, .int (-1)), (0, .ref a_t)]) (pc := 3) C dX2_mostWeight_3 rfl (by decide) rfl ?_
  refine pb_iconst (v := 0) (pc := 4) C dX2_mostWeight_4 pb_kI_0 ?_
  refine pb_istore (lv' := [(4, .int 0), (2, .long 0), (1, .int (-1)), (0, .ref a_t)]) (pc := 5) C dX2_mostWeight_5 (by decide) rfl ?_
  obtain ⟨z7, hz7, hk7⟩ := pb_bind hf
  have E7 : ∀ (e7_1 : Int32) (e7_2 : Int64) (e7_4 : Int32), fX2_mostWeight_E7 e7_1 e7_2 e7_4 = some out → pb_V p l e rmX2_mostWeight s m (([.ref a_t] : List Value).toArray) below meth c 5 (dC, dI) vwCl A 0 0 (pb_MQ below (([.ref a_t] : List Value).toArray) s (dC, dI) vwCl (wwX2_mostWeight cyB cyI cyJ cyZ cyS a_t a_t_open a_t_weight c_t_total c_t_stale c_t_weight) (wwX2_mostWeight cyB cyI cyJ cyZ cyS a_t a_t_open a_t_weight c_t_total c_t_stale c_t_weight) (some (.int out)) A) (wwX2_mostWeight cyB cyI cyJ cyZ cyS a_t a_t_open a_t_weight c_t_total c_t_stale c_t_weight) [(1, .int e7_1)] [] 44 := by
    intro e7_1 e7_2 e7_4 hf
    unfold fX2_mostWeight_E7 at hf
    refine pb_iload_n (pc := 44) C dX2_mostWeight_44 rfl 0 rfl ?_
    obtain rfl := Option.some.inj hf
    exact pb_iret (pc := 45) C hr hlk hA dX2_mostWeight_45
  have L7 : ∀ (n : Nat) (l7_1 : Int32) (l7_2 : Int64) (l7_4 : Int32), pb_lp (fun y => fX2_mostWeight_L7 c_t_weight y.1 y.2.1 y.2.2) n (l7_1, l7_2, l7_4) = some z7 → pb_V p l e rmX2_mostWeight s m (([.ref a_t] : List Value).toArray) below meth c 5 (dC, dI) vwCl A 0 0 (pb_MQ below (([.ref a_t] : List Value).toArray) s (dC, dI) vwCl (wwX2_mostWeight cyB cyI cyJ cyZ cyS a_t a_t_open a_t_weight c_t_total c_t_stale c_t_weight) (wwX2_mostWeight cyB cyI cyJ cyZ cyS a_t a_t_open a_t_weight c_t_total c_t_stale c_t_weight) (some (.int out)) A) (wwX2_mostWeight cyB cyI cyJ cyZ cyS a_t a_t_open a_t_weight c_t_total c_t_stale c_t_weight) [(0, .ref a_t), (1, .int l7_1), (2, .long l7_2), (4, .int l7_4)] [] 7 := by
    intro n
    induction n with
    | zero => intro l7_1 l7_2 l7_4 hf; exact (pb_lp_zero hf).elim
    | succ n ih7 =>
      intro l7_1 l7_2 l7_4 hf
      obtain ⟨y7, hf, hl7⟩ := pb_lp_succ hf
      have hf : fX2_mostWeight_L7 c_t_weight l7_1 l7_2 l7_4 = some y7 := hf
      unfold fX2_mostWeight_L7 at hf
      refine pb_iload (pc := 7) C dX2_mostWeight_7 3 rfl ?_
      refine pb_sipush (v := 128) (pc := 9) C dX2_mostWeight_9 pb_kS_128 ?_
      refine pb_icmp_ge (pc := 12) (tgt := 44) C dX2_mostWeight_12 (by decide) (fun hc12 => ?_) (fun hc12 => ?_)
      · have hf := pb_pos hf hc12
        obtain rfl := Option.some.inj hf
        obtain rfl := pb_esc hl7
        refine pb_sub [1] rfl ?_
        exact E7 l7_1 l7_2 l7_4 hk7
      · have hf := pb_neg hf hc12
        refine pb_aload_n (pc := 15) C dX2_mostWeight_15 rfl 0 rfl ?_
        refine pb_get (pc := 16) C hnX2_mostWeight_X2 0 rfl rfl 1 (by decide) (List.mem_of_getElem? (i := 1) rfl) rfl rfl dX2_mostWeight_16 ?_
        refine pb_iload (pc := 19) C dX2_mostWeight_19 3 rfl ?_
        obtain ⟨g21, hf⟩ := pb_grd hf
        refine pb_lald (pc := 21) C 1 2 rfl rfl g21 dX2_mostWeight_21 ?_
        refine pb_lload_n (pc := 22) C dX2_mostWeight_22 rfl 2 rfl ?_
        refine pb_lif_le (pc := 23) (tgt := 38) C dX2_mostWeight_23 dX2_mostWeight_24 (by decide) (fun hc23 => ?_) (fun hc23 => ?_)
        · have hf := pb_pos hf hc23
          refine pb_iinc (v := l7_4 + 1) (lv' := [(4, .int (l7_4 + 1)), (0, .ref a_t), (1, .int l7_1), (2, .long l7_2)]) (pc := 38) C dX2_mostWeight_38 3 rfl (pb_inc pb_kI_1 rfl) (by decide) rfl ?_
          refine pb_goto (pc := 41) (tgt := 7) C dX2_mostWeight_41 (by decide) ?_
          obtain rfl := Option.some.inj hf
          refine pb_sub [1, 2, 3, 0] rfl ?_
          have hl7 := pb_inl hl7
          exact ih7 l7_1 l7_2 (l7_4 + 1) hl7
        · have hf := pb_neg hf hc23
          refine pb_aload_n (pc := 27) C dX2_mostWeight_27 rfl 0 rfl ?_
          refine pb_get (pc := 28) C hnX2_mostWeight_X2 0 rfl rfl 1 (by decide) (List.mem_of_getElem? (i := 1) rfl) rfl rfl dX2_mostWeight_28 ?_
          refine pb_iload (pc := 31) C dX2_mostWeight_31 3 rfl ?_
          obtain ⟨g33, hf⟩ := pb_grd hf
          refine pb_lald (pc := 33) C 1 2 rfl rfl g33 dX2_mostWeight_33 ?_
          obtain ⟨x34, ex34, hf⟩ := pb_bind hf
          have ex34 := Option.some.inj ex34
          refine pb_topl ex34 ?_
          refine pb_lstore_n (lv' := [(2, .long x34), (0, .ref a_t), (1, .int l7_1), (4, .int l7_4)]) (pc := 34) C dX2_mostWeight_34 rfl (by decide) rfl ?_
          refine pb_iload (pc := 35) C dX2_mostWeight_35 3 rfl ?_
          refine pb_istore_n (lv' := [(1, .int l7_4), (2, .long x34), (0, .ref a_t), (4, .int l7_4)]) (pc := 37) C dX2_mostWeight_37 rfl (by decide) rfl ?_
          refine pb_iinc (v := l7_4 + 1) (lv' := [(4, .int (l7_4 + 1)), (1, .int l7_4), (2, .long x34), (0, .ref a_t)]) (pc := 38) C dX2_mostWeight_38 3 rfl (pb_inc pb_kI_1 rfl) (by decide) rfl ?_
          refine pb_goto (pc := 41) (tgt := 7) C dX2_mostWeight_41 (by decide) ?_
          obtain rfl := Option.some.inj hf
          refine pb_sub [3, 1, 2, 0] rfl ?_
          have hl7 := pb_inl hl7
          exact ih7 l7_4 x34 (l7_4 + 1) hl7
  refine pb_sub [3, 2, 1, 0] rfl ?_
  exact L7 pb_FU (-1) 0 0 hz7
def rmX2_verdict : Room := { frames := 2, cells := 0, slots := 0, locals := 46 }
def wwX2_verdict (cyB cyI cyJ cyZ cyS : ClassId) (a_t a_t_open a_t_weight : Nat) (c_t_total : Int64) (c_t_stale : Int32) (c_t_weight : (Nat → Int64)) : va_W := [(a_t, .inr (2, [.ref a_t_open, .ref a_t_weight, .long c_t_total, .int c_t_stale])), (a_t_weight, .inl (cyJ, 128, .inr (.inl c_t_weight)))]
theorem hnX2_verdict_X2 : ∀ w ∈ wsX20, w ∈ wsX2_verdict := fun _ h => List.mem_cons_of_mem _ (List.mem_append_right _ h)
set_option maxHeartbeats 4000000 in
set_option maxRecDepth 100000 in
theorem kcX2_verdict (l : Launch) (dC : Nat → ClassId) (dI : Nat → Nat → Nat) (cyB cyI cyJ cyZ cyS : ClassId) (a_t a_t_open a_t_weight : Nat) (c_t_total : Int64) (c_t_stale : Int32) (c_t_weight : (Nat → Int64)) (p1 : Int32) (p2 : Int32) (p3 : Int32) (out : Int32) (hf : fX2_verdict c_t_weight p1 p2 p3 = some out) : pb_K l yX2_verdict wsX2_verdict rmX2_verdict (dC, dI) vwCl (pb_tys cyB cyI cyJ cyZ cyS) pb_NW [.ref a_t, .int p1, .int p2, .int p3] (wwX2_verdict cyB cyI cyJ cyZ cyS a_t a_t_open a_t_weight c_t_total c_t_stale c_t_weight) (wwX2_verdict cyB cyI cyJ cyZ cyS a_t a_t_open a_t_weight c_t_total c_t_stale c_t_weight) (some (.int out)) := by
  unfold fX2_verdict at hf
  refine pb_K.ofV (cc := cX2_verdict) (maxL := 8) (ret := (some .int)) (lv0 := [(0, .ref a_t), (1, .int p1), (2, .int p2), (3, .int p3)]) (by decide) rfl (Nat.le_of_ble_eq_true rfl) rfl ?_
  intro p e s m below meth c A C hX hr hlk hA
  refine pb_iconst (v := 0) (pc := 0) C dX2_verdict_0 pb_kI_0 ?_
  refine pb_istore (lv' := [(4, .int 0), (0, .ref a_t), (1, .int p1), (2, .int p2), (3, .int p3)]) (pc := 1) C dX2_verdict_1 (by decide) rfl ?_
  refine pb_iconst (v := 0) (pc := 3) C dX2_verdict_3 pb_kI_0 ?_
  refine pb_istore (lv' := [(5, .int 0), (4, .int 0), (0, .ref a_t), (1, .int p1), (2, .int p2), (3, .int p3)]) (pc := 4) C dX2_verdict_4 (by decide) rfl ?_
  refine pb_iconst (v := 0) (pc := 6) C dX2_verdict_6 pb_kI_0 ?_
  refine pb_istore (lv' := [(6, .int 0), (5, .int 0), (4, .int 0), (0, .ref a_t), (1, .int p1), (2, .int p2), (3, .int p3)]) (pc := 7) C dX2_verdict_7 (by decide) rfl ?_
  obtain ⟨z9, hz9, hk9⟩ := pb_bind hf
  have E9 : ∀ (e9_4 : Int32) (e9_5 : Int32) (e9_6 : Int32), fX2_verdict_E9 e9_4 e9_5 e9_6 = some out → pb_V p l e rmX2_verdict s m (([.ref a_t, .int p1, .int p2, .int p3] : List Value).toArray) below meth c 8 (dC, dI) vwCl A 0 0 (pb_MQ below (([.ref a_t, .int p1, .int p2, .int p3] : List Value).toArray) s (dC, dI) vwCl (wwX2_verdict cyB cyI cyJ cyZ cyS a_t a_t_open a_t_weight c_t_total c_t_stale c_t_weight) (wwX2_verdict cyB cyI cyJ cyZ cyS a_t a_t_open a_t_weight c_t_total c_t_stale c_t_weight) (some (.int out)) A) (wwX2_verdict cyB cyI cyJ cyZ cyS a_t a_t_open a_t_weight c_t_total c_t_stale c_t_weight) [(4, .int e9_4), (5, .int e9_5)] [] 79 := by
    intro e9_4 e9_5 e9_6 hf
    unfold fX2_verdict_E9 at hf
    refine pb_iload (pc := 79) C dX2_verdict_79 0 rfl ?_
    obtain ⟨y91, hf, hk91⟩ := pb_bind hf
    have J91 : fX2_verdict_J91 e9_4 e9_5 = some out → pb_V p l e rmX2_verdict s m (([.ref a_t, .int p1, .int p2, .int p3] : List Value).toArray) below meth c 8 (dC, dI) vwCl A 0 0 (pb_MQ below (([.ref a_t, .int p1, .int p2, .int p3] : List Value).toArray) s (dC, dI) vwCl (wwX2_verdict cyB cyI cyJ cyZ cyS a_t a_t_open a_t_weight c_t_total c_t_stale c_t_weight) (wwX2_verdict cyB cyI cyJ cyZ cyS a_t a_t_open a_t_weight c_t_total c_t_stale c_t_weight) (some (.int out)) A) (wwX2_verdict cyB cyI cyJ cyZ cyS a_t a_t_open a_t_weight c_t_total c_t_stale c_t_weight) [(4, .int e9_4), (5, .int e9_5)] [] 91 := by
      intro hf
      unfold fX2_verdict_J91 at hf
      refine pb_iload (pc := 91) C dX2_verdict_91 0 rfl ?_
      refine pb_if_eq (pc := 93) (tgt := 98) C dX2_verdict_93 (by decide) (fun hc93 => ?_) (fun hc93 => ?_)
      · have hf := pb_pos hf hc93
        refine pb_iload (pc := 98) C dX2_verdict_98 1 rfl ?_
        refine pb_if_eq (pc := 100) (tgt := 107) C dX2_verdict_100 (by decide) (fun hc100 => ?_) (fun hc100 => ?_)
        · have hf := pb_pos hf hc100
          refine pb_iconst (v := (-1)) (pc := 107) C dX2_verdict_107 pb_kI_m1 ?_
          obtain rfl := Option.some.inj hf
          exact pb_iret (pc := 108) C hr hlk hA dX2_verdict_108
        · have hf := pb_neg hf hc100
          refine pb_iconst (v := 0) (pc := 103) C dX2_verdict_103 pb_kI_0 ?_
          refine pb_goto (pc := 104) (tgt := 108) C dX2_verdict_104 (by decide) ?_
          obtain rfl := Option.some.inj hf
          exact pb_iret (pc := 108) C hr hlk hA dX2_verdict_108
      · have hf := pb_neg hf hc93
        refine pb_iconst (v := 1) (pc := 96) C dX2_verdict_96 pb_kI_1 ?_
        obtain rfl := Option.some.inj hf
        exact pb_iret (pc := 97) C hr hlk hA dX2_verdict_97
    refine pb_if_eq (pc := 81) (tgt := 91) C dX2_verdict_81 (by decide) (fun hc81 => ?_) (fun hc81 => ?_)
    · have hf := pb_pos hf hc81
      obtain rfl := Option.some.inj hf
      have hk91 := pb_inl hk91
      exact J91  hk91
    · have hf := pb_neg hf hc81
      refine pb_iload (pc := 84) C dX2_verdict_84 1 rfl ?_
      refine pb_if_eq (pc := 86) (tgt := 91) C dX2_verdict_86 (by decide) (fun hc86 => ?_) (fun hc86 => ?_)
      · have hf := pb_pos hf hc86
        obtain rfl := Option.some.inj hf
        have hk91 := pb_inl hk91
        exact J91  hk91
      · have hf := pb_neg hf hc86
        refine pb_iconst (v := 2) (pc := 89) C dX2_verdict_89 pb_kI_2 ?_
        obtain rfl := Option.some.inj hf
        obtain rfl := pb_esc hk91
        exact pb_iret (pc := 90) C hr hlk hA dX2_verdict_90
  have L9 : ∀ (n : Nat) (l9_4 : Int32) (l9_5 : Int32) (l9_6 : Int32), pb_lp (fun y => fX2_verdict_L9 c_t_weight p1 p2 p3 y.1 y.2.1 y.2.2) n (l9_4, l9_5, l9_6) = some z9 → pb_V p l e rmX2_verdict s m (([.ref a_t, .int p1, .int p2, .int p3] : List Value).toArray) below meth c 8 (dC, dI) vwCl A 0 0 (pb_MQ below (([.ref a_t, .int p1, .int p2, .int p3] : List Value).toArray) s (dC, dI) vwCl (wwX2_verdict cyB cyI cyJ cyZ cyS a_t a_t_open a_t_weight c_t_total c_t_stale c_t_weight) (wwX2_verdict cyB cyI cyJ cyZ cyS a_t a_t_open a_t_weight c_t_total c_t_stale c_t_weight) (some (.int out)) A) (wwX2_verdict cyB cyI cyJ cyZ cyS a_t a_t_open a_t_weight c_t_total c_t_stale c_t_weight) [(0, .ref a_t), (1, .int p1), (2, .int p2), (3, .int p3), (4, .int l9_4), (5, .int l9_5), (6, .int l9_6)] [] 9 := by
    intro n
    induction n with
    | zero => intro l9_4 l9_5 l9_6 hf; exact (pb_lp_zero hf).elim
    | succ n ih9 =>
      intro l9_4 l9_5 l9_6 hf
      obtain ⟨y9, hf, hl9⟩ := pb_lp_succ hf
      have hf : fX2_verdict_L9 c_t_weight p1 p2 p3 l9_4 l9_5 l9_6 = some y9 := hf
      unfold fX2_verdict_L9 at hf
      refine pb_iload (pc := 9) C dX2_verdict_9 6 rfl ?_
      refine pb_sipush (v := 128) (pc := 11) C dX2_verdict_11 pb_kS_128 ?_
      refine pb_icmp_ge (pc := 14) (tgt := 79) C dX2_verdict_14 (by decide) (fun hc14 => ?_) (fun hc14 => ?_)
      · have hf := pb_pos hf hc14
        obtain rfl := Option.some.inj hf
        obtain rfl := pb_esc hl9
        refine pb_sub [4, 5] rfl ?_
        exact E9 l9_4 l9_5 l9_6 hk9
      · have hf := pb_neg hf hc14
        refine pb_aload_n (pc := 17) C dX2_verdict_17 rfl 0 rfl ?_
        refine pb_get (pc := 18) C hnX2_verdict_X2 0 rfl rfl 1 (by decide) (List.mem_of_getElem? (i := 1) rfl) rfl rfl dX2_verdict_18 ?_
        refine pb_iload (pc := 21) C dX2_verdict_21 6 rfl ?_
        obtain ⟨g23, hf⟩ := pb_grd hf
        refine pb_lald (pc := 23) C 1 2 rfl rfl g23 dX2_verdict_23 ?_
        refine pb_lconst (v := 0) (pc := 24) C dX2_verdict_24 pb_kL_0 ?_
        refine pb_lif_le (pc := 25) (tgt := 73) C dX2_verdict_25 dX2_verdict_26 (by decide) (fun hc25 => ?_) (fun hc25 => ?_)
        · have hf := pb_pos hf hc25
          refine pb_iinc (v := l9_6 + 1) (lv' := [(6, .int (l9_6 + 1)), (0, .ref a_t), (1, .int p1), (2, .int p2), (3, .int p3), (4, .int l9_4), (5, .int l9_5)]) (pc := 73) C dX2_verdict_73 6 rfl (pb_inc pb_kI_1 rfl) (by decide) rfl ?_
          refine pb_goto (pc := 76) (tgt := 9) C dX2_verdict_76 (by decide) ?_
          obtain rfl := Option.some.inj hf
          refine pb_sub [1, 2, 3, 4, 5, 6, 0] rfl ?_
          have hl9 := pb_inl hl9
          exact ih9 l9_4 l9_5 (l9_6 + 1) hl9
        · have hf := pb_neg hf hc25
          refine pb_iload_n (pc := 29) C dX2_verdict_29 rfl 1 rfl ?_
          refine pb_iload_n (pc := 30) C dX2_verdict_30 rfl 2 rfl ?_
          refine pb_iload_n (pc := 31) C dX2_verdict_31 rfl 3 rfl ?_
          refine pb_iload (pc := 32) C dX2_verdict_32 6 rfl ?_
          obtain ⟨r34, hr34, hf⟩ := pb_bind hf
          refine pb_callSN (host := "PastBets") (pc := 34) (n0 := 2) (ws' := (wwX2_verdict cyB cyI cyJ cyZ cyS a_t a_t_open a_t_weight c_t_total c_t_stale c_t_weight)) (rest := []) (st2 := [.int r34]) C (kcX7_claimHolds l dC dI cyB cyI cyJ cyZ cyS p1 p2 p3 l9_6 r34 hr34) pb_NW_b (pb_NW_x hX) ⟨va_cnB 4 C.1.2.2.2.2 gX2_verdict_X7_claimHolds_n57 rfl rfl rfl hX.2.2.2.2.2.2.1 (C.1.2.2.2.2 _ (List.mem_of_getElem? (i := 3) rfl)) kdS_X7_claimHolds ⟨Nat.le_of_ble_eq_true rfl, Nat.le_of_ble_eq_true rfl⟩, C.1.2.2.2.2 _ (List.mem_of_getElem? (i := 2) rfl), trivial⟩ [] [0, 1] rfl rfl ⟨⟨_, rfl, rfl⟩, ⟨⟨_, rfl, rfl⟩, trivial⟩⟩ rfl (by decide +kernel) (adl := []) rfl rfl rfl rfl rfl (Nat.le_of_ble_eq_true rfl) ⟨Nat.le_refl _, Nat.le_refl _⟩ dX2_verdict_34 rfl ?_
          refine pb_istore (lv' := [(7, .int r34), (0, .ref a_t), (1, .int p1), (2, .int p2), (3, .int p3), (4, .int l9_4), (5, .int l9_5), (6, .int l9_6)]) (pc := 37) C dX2_verdict_37 (by decide) rfl ?_
          refine pb_iload (pc := 39) C dX2_verdict_39 5 rfl ?_
          obtain ⟨y54, hf, hk54⟩ := pb_bind hf
          have J54 : ∀ (j54_s0 : Int32), fX2_verdict_J54 l9_5 l9_6 r34 j54_s0 = some y9 → pb_V p l e rmX2_verdict s m (([.ref a_t, .int p1, .int p2, .int p3] : List Value).toArray) below meth c 8 (dC, dI) vwCl A 0 0 (pb_MQ below (([.ref a_t, .int p1, .int p2, .int p3] : List Value).toArray) s (dC, dI) vwCl (wwX2_verdict cyB cyI cyJ cyZ cyS a_t a_t_open a_t_weight c_t_total c_t_stale c_t_weight) (wwX2_verdict cyB cyI cyJ cyZ cyS a_t a_t_open a_t_weight c_t_total c_t_stale c_t_weight) (some (.int out)) A) (wwX2_verdict cyB cyI cyJ cyZ cyS a_t a_t_open a_t_weight c_t_total c_t_stale c_t_weight) [(0, .ref a_t), (1, .int p1), (2, .int p2), (3, .int p3), (5, .int l9_5), (6, .int l9_6), (7, .int r34)] [.int j54_s0] 54 := by
            intro j54_s0 hf
            unfold fX2_verdict_J54 at hf
            refine pb_istore (lv' := [(4, .int j54_s0), (0, .ref a_t), (1, .int p1), (2, .int p2), (3, .int p3), (5, .int l9_5), (6, .int l9_6), (7, .int r34)]) (pc := 54) C dX2_verdict_54 (by decide) rfl ?_
            refine pb_iload (pc := 56) C dX2_verdict_56 5 rfl ?_
            refine pb_if_ne (pc := 58) (tgt := 66) C dX2_verdict_58 (by decide) (fun hc58 => ?_) (fun hc58 => ?_)
            · have hf := pb_neg hf hc58
              refine pb_iconst (v := 1) (pc := 66) C dX2_verdict_66 pb_kI_1 ?_
              refine pb_goto (pc := 67) (tgt := 71) C dX2_verdict_67 (by decide) ?_
              refine pb_istore (lv' := [(5, .int 1), (4, .int j54_s0), (0, .ref a_t), (1, .int p1), (2, .int p2), (3, .int p3), (6, .int l9_6), (7, .int r34)]) (pc := 71) C dX2_verdict_71 (by decide) rfl ?_
              refine pb_iinc (v := l9_6 + 1) (lv' := [(6, .int (l9_6 + 1)), (5, .int 1), (4, .int j54_s0), (0, .ref a_t), (1, .int p1), (2, .int p2), (3, .int p3), (7, .int r34)]) (pc := 73) C dX2_verdict_73 6 rfl (pb_inc pb_kI_1 rfl) (by decide) rfl ?_
              refine pb_goto (pc := 76) (tgt := 9) C dX2_verdict_76 (by decide) ?_
              obtain rfl := Option.some.inj hf
              refine pb_sub [3, 4, 5, 6, 2, 1, 0] rfl ?_
              have hl9 := pb_inl hl9
              exact ih9 j54_s0 1 (l9_6 + 1) hl9
            · have hf := pb_pos hf hc58
              refine pb_iload (pc := 61) C dX2_verdict_61 7 rfl ?_
              refine pb_if_ne (pc := 63) (tgt := 70) C dX2_verdict_63 (by decide) (fun hc63 => ?_) (fun hc63 => ?_)
              · have hf := pb_neg hf hc63
                refine pb_iconst (v := 0) (pc := 70) C dX2_verdict_70 pb_kI_0 ?_
                refine pb_istore (lv' := [(5, .int 0), (4, .int j54_s0), (0, .ref a_t), (1, .int p1), (2, .int p2), (3, .int p3), (6, .int l9_6), (7, .int r34)]) (pc := 71) C dX2_verdict_71 (by decide) rfl ?_
                refine pb_iinc (v := l9_6 + 1) (lv' := [(6, .int (l9_6 + 1)), (5, .int 0), (4, .int j54_s0), (0, .ref a_t), (1, .int p1), (2, .int p2), (3, .int p3), (7, .int r34)]) (pc := 73) C dX2_verdict_73 6 rfl (pb_inc pb_kI_1 rfl) (by decide) rfl ?_
                refine pb_goto (pc := 76) (tgt := 9) C dX2_verdict_76 (by decide) ?_
                obtain rfl := Option.some.inj hf
                refine pb_sub [3, 4, 5, 6, 2, 1, 0] rfl ?_
                have hl9 := pb_inl hl9
                exact ih9 j54_s0 0 (l9_6 + 1) hl9
              · have hf := pb_pos hf hc63
                refine pb_iconst (v := 1) (pc := 66) C dX2_verdict_66 pb_kI_1 ?_
                refine pb_goto (pc := 67) (tgt := 71) C dX2_verdict_67 (by decide) ?_
                refine pb_istore (lv' := [(5, .int 1), (4, .int j54_s0), (0, .ref a_t), (1, .int p1), (2, .int p2), (3, .int p3), (6, .int l9_6), (7, .int r34)]) (pc := 71) C dX2_verdict_71 (by decide) rfl ?_
                refine pb_iinc (v := l9_6 + 1) (lv' := [(6, .int (l9_6 + 1)), (5, .int 1), (4, .int j54_s0), (0, .ref a_t), (1, .int p1), (2, .int p2), (3, .int p3), (7, .int r34)]) (pc := 73) C dX2_verdict_73 6 rfl (pb_inc pb_kI_1 rfl) (by decide) rfl ?_
                refine pb_goto (pc := 76) (tgt := 9) C dX2_verdict_76 (by decide) ?_
                obtain rfl := Option.some.inj hf
                refine pb_sub [3, 4, 5, 6, 2, 1, 0] rfl ?_
                have hl9 := pb_inl hl9
                exact ih9 j54_s0 1 (l9_6 + 1) hl9
          refine pb_if_ne (pc := 41) (tgt := 49) C dX2_verdict_41 (by decide) (fun hc41 => ?_) (fun hc41 => ?_)
          · have hf := pb_neg hf hc41
            refine pb_iconst (v := 1) (pc := 49) C dX2_verdict_49 pb_kI_1 ?_
            refine pb_goto (pc := 50) (tgt := 54) C dX2_verdict_50 (by decide) ?_
            obtain rfl := Option.some.inj hf
            refine pb_sub [1, 2, 3, 4, 6, 7, 0] rfl ?_
            exact J54 1 hk54
          · have hf := pb_pos hf hc41
            refine pb_iload (pc := 44) C dX2_verdict_44 0 rfl ?_
            refine pb_if_eq (pc := 46) (tgt := 53) C dX2_verdict_46 (by decide) (fun hc46 => ?_) (fun hc46 => ?_)
            · have hf := pb_pos hf hc46
              refine pb_iconst (v := 0) (pc := 53) C dX2_verdict_53 pb_kI_0 ?_
              obtain rfl := Option.some.inj hf
              refine pb_sub [1, 2, 3, 4, 6, 7, 0] rfl ?_
              exact J54 0 hk54
            · have hf := pb_neg hf hc46
              refine pb_iconst (v := 1) (pc := 49) C dX2_verdict_49 pb_kI_1 ?_
              refine pb_goto (pc := 50) (tgt := 54) C dX2_verdict_50 (by decide) ?_
              obtain rfl := Option.some.inj hf
              refine pb_sub [1, 2, 3, 4, 6, 7, 0] rfl ?_
              exact J54 1 hk54
  refine pb_sub [3, 4, 5, 6, 2, 1, 0] rfl ?_
  exact L9 pb_FU 0 0 0 hz9
def rmX2_fits : Room := { frames := 0, cells := 0, slots := 0, locals := 0 }
def wwX2_fits (cyB cyI cyJ cyZ cyS : ClassId) (a_t a_t_open a_t_weight : Nat) (c_t_total : Int64) (c_t_stale : Int32) : va_W := [(a_t, .inr (2, [.ref a_t_open, .ref a_t_weight, .long c_t_total, .int c_t_stale]))]
theorem hnX2_fits_X2 : ∀ w ∈ wsX20, w ∈ wsX2_fits := fun _ h => List.mem_cons_of_mem _ (List.mem_append_right _ h)
set_option maxHeartbeats 4000000 in
set_option maxRecDepth 100000 in
theorem kcX2_fits (l : Launch) (dC : Nat → ClassId) (dI : Nat → Nat → Nat) (cyB cyI cyJ cyZ cyS : ClassId) (a_t a_t_open a_t_weight : Nat) (c_t_total : Int64) (c_t_stale : Int32) (out : Int32) (hf : fX2_fits c_t_total = some out) : pb_K l yX2_fits wsX2_fits rmX2_fits (dC, dI) vwCl (pb_tys cyB cyI cyJ cyZ cyS) pb_NW [.ref a_t] (wwX2_fits cyB cyI cyJ cyZ cyS a_t a_t_open a_t_weight c_t_total c_t_stale) (wwX2_fits cyB cyI cyJ cyZ cyS a_t a_t_open a_t_weight c_t_total c_t_stale) (some (.int out)) := by
  unfold fX2_fits at hf
  refine pb_K.ofV (cc := cX2_fits) (maxL := 1) (ret := (some .boolean)) (lv0 := [(0, .ref a_t)]) (by decide) rfl (Nat.le_of_ble_eq_true rfl) rfl ?_
  intro p e s m below meth c A C hX hr hlk hA
  refine pb_aload_n (pc := 0) C dX2_fits_0 rfl 0 rfl ?_
  refine pb_get (pc := 1) C hnX2_fits_X2 0 rfl rfl 2 (by decide) (List.mem_of_getElem? (i := 1) rfl) rfl rfl dX2_fits_1 ?_
  refine pb_lconst (v := 0) (pc := 4) C dX2_fits_4 pb_kL_0 ?_
  refine pb_lif_le (pc := 5) (tgt := 13) C dX2_fits_5 dX2_fits_6 (by decide) (fun hc5 => ?_) (fun hc5 => ?_)
  · have hf := pb_pos hf hc5
    refine pb_iconst (v := 0) (pc := 13) C dX2_fits_13 pb_kI_0 ?_
    obtain rfl := Option.some.inj hf
    exact pb_zret (pc := 14) C hr hlk hA pb_isB0 dX2_fits_14
  · have hf := pb_neg hf hc5
    refine pb_iconst (v := 1) (pc := 9) C dX2_fits_9 pb_kI_1 ?_
    refine pb_goto (pc := 10) (tgt := 14) C dX2_fits_10 (by decide) ?_
    obtain rfl := Option.some.inj hf
    exact pb_zret (pc := 14) C hr hlk hA pb_isB1 dX2_fits_14
def rmX2_held : Room := { frames := 2, cells := 0, slots := 0, locals := 46 }
def wwX2_held (cyB cyI cyJ cyZ cyS : ClassId) (a_t a_t_open a_t_weight : Nat) (c_t_total : Int64) (c_t_stale : Int32) (c_t_weight : (Nat → Int64)) : va_W := [(a_t, .inr (2, [.ref a_t_open, .ref a_t_weight, .long c_t_total, .int c_t_stale])), (a_t_weight, .inl (cyJ, 128, .inr (.inl c_t_weight)))]
theorem hnX2_held_X2 : ∀ w ∈ wsX20, w ∈ wsX2_held := fun _ h => List.mem_cons_of_mem _ (List.mem_append_right _ h)
set_option maxHeartbeats 4000000 in
set_option maxRecDepth 100000 in
theorem kcX2_held (l : Launch) (dC : Nat → ClassId) (dI : Nat → Nat → Nat) (cyB cyI cyJ cyZ cyS : ClassId) (a_t a_t_open a_t_weight : Nat) (c_t_total : Int64) (c_t_stale : Int32) (c_t_weight : (Nat → Int64)) (p1 : Int32) (p2 : Int32) (p3 : Int32) (out : Int64) (hf : fX2_held c_t_weight p1 p2 p3 = some out) : pb_K l yX2_held wsX2_held rmX2_held (dC, dI) vwCl (pb_tys cyB cyI cyJ cyZ cyS) pb_NW [.ref a_t, .int p1, .int p2, .int p3] (wwX2_held cyB cyI cyJ cyZ cyS a_t a_t_open a_t_weight c_t_total c_t_stale c_t_weight) (wwX2_held cyB cyI cyJ cyZ cyS a_t a_t_open a_t_weight c_t_total c_t_stale c_t_weight) (some (.long out)) := by
  unfold fX2_held at hf
  refine pb_K.ofV (cc := cX2_held) (maxL := 7) (ret := (some .long)) (lv0 := [(0, .ref a_t), (1, .int p1), (2, .int p2), (3, .int p3)]) (by decide) rfl (Nat.le_of_ble_eq_true rfl) rfl ?_
  intro p e s m below meth c A C hX hr hlk hA
  refine pb_lconst (v := 0) (pc := 0) C dX2_held_0 pb_kL_0 ?_
  refine pb_lstore (lv' := [(4, .long 0), (0, .ref a_t), (1, .int p1), (2, .int p2), (3, .int p3)]) (pc := 1) C dX2_held_1 (by decide) rfl ?_
  refine pb_iconst (v := 0) (pc := 3) C dX2_held_3 pb_kI_0 ?_
  refine pb_istore (lv' := [(6, .int 0), (4, .long 0), (0, .ref a_t), (1, .int p1), (2, .int p2), (3, .int p3)]) (pc := 4) C dX2_held_4 (by decide) rfl ?_
  obtain ⟨z6, hz6, hk6⟩ := pb_bind hf
  have E6 : ∀ (e6_4 : Int64) (e6_6 : Int32), fX2_held_E6 e6_4 e6_6 = some out → pb_V p l e rmX2_held s m (([.ref a_t, .int p1, .int p2, .int p3] : List Value).toArray) below meth c 7 (dC, dI) vwCl A 0 0 (pb_MQ below (([.ref a_t, .int p1, .int p2, .int p3] : List Value).toArray) s (dC, dI) vwCl (wwX2_held cyB cyI cyJ cyZ cyS a_t a_t_open a_t_weight c_t_total c_t_stale c_t_weight) (wwX2_held cyB cyI cyJ cyZ cyS a_t a_t_open a_t_weight c_t_total c_t_stale c_t_weight) (some (.long out)) A) (wwX2_held cyB cyI cyJ cyZ cyS a_t a_t_open a_t_weight c_t_total c_t_stale c_t_weight) [(4, .long e6_4)] [] 55 := by
    intro e6_4 e6_6 hf
    unfold fX2_held_E6 at hf
    refine pb_lload (pc := 55) C dX2_held_55 0 rfl ?_
    obtain rfl := Option.some.inj hf
    exact pb_lret (pc := 57) C hr hlk hA dX2_held_57
  have L6 : ∀ (n : Nat) (l6_4 : Int64) (l6_6 : Int32), pb_lp (fun y => fX2_held_L6 c_t_weight p1 p2 p3 y.1 y.2) n (l6_4, l6_6) = some z6 → pb_V p l e rmX2_held s m (([.ref a_t, .int p1, .int p2, .int p3] : List Value).toArray) below meth c 7 (dC, dI) vwCl A 0 0 (pb_MQ below (([.ref a_t, .int p1, .int p2, .int p3] : List Value).toArray) s (dC, dI) vwCl (wwX2_held cyB cyI cyJ cyZ cyS a_t a_t_open a_t_weight c_t_total c_t_stale c_t_weight) (wwX2_held cyB cyI cyJ cyZ cyS a_t a_t_open a_t_weight c_t_total c_t_stale c_t_weight) (some (.long out)) A) (wwX2_held cyB cyI cyJ cyZ cyS a_t a_t_open a_t_weight c_t_total c_t_stale c_t_weight) [(0, .ref a_t), (1, .int p1), (2, .int p2), (3, .int p3), (4, .long l6_4), (6, .int l6_6)] [] 6 := by
    intro n
    induction n with
    | zero => intro l6_4 l6_6 hf; exact (pb_lp_zero hf).elim
    | succ n ih6 =>
      intro l6_4 l6_6 hf
      obtain ⟨y6, hf, hl6⟩ := pb_lp_succ hf
      have hf : fX2_held_L6 c_t_weight p1 p2 p3 l6_4 l6_6 = some y6 := hf
      unfold fX2_held_L6 at hf
      refine pb_iload (pc := 6) C dX2_held_6 5 rfl ?_
      refine pb_sipush (v := 128) (pc := 8) C dX2_held_8 pb_kS_128 ?_
      refine pb_icmp_ge (pc := 11) (tgt := 55) C dX2_held_11 (by decide) (fun hc11 => ?_) (fun hc11 => ?_)
      · have hf := pb_pos hf hc11
        obtain rfl := Option.some.inj hf
        obtain rfl := pb_esc hl6
        refine pb_sub [4] rfl ?_
        exact E6 l6_4 l6_6 hk6
      · have hf := pb_neg hf hc11
        refine pb_aload_n (pc := 14) C dX2_held_14 rfl 0 rfl ?_
        refine pb_get (pc := 15) C hnX2_held_X2 0 rfl rfl 1 (by decide) (List.mem_of_getElem? (i := 1) rfl) rfl rfl dX2_held_15 ?_
        refine pb_iload (pc := 18) C dX2_held_18 5 rfl ?_
        obtain ⟨g20, hf⟩ := pb_grd hf
        refine pb_lald (pc := 20) C 1 2 rfl rfl g20 dX2_held_20 ?_
        refine pb_lconst (v := 0) (pc := 21) C dX2_held_21 pb_kL_0 ?_
        refine pb_lif_le (pc := 22) (tgt := 49) C dX2_held_22 dX2_held_23 (by decide) (fun hc22 => ?_) (fun hc22 => ?_)
        · have hf := pb_pos hf hc22
          refine pb_iinc (v := l6_6 + 1) (lv' := [(6, .int (l6_6 + 1)), (0, .ref a_t), (1, .int p1), (2, .int p2), (3, .int p3), (4, .long l6_4)]) (pc := 49) C dX2_held_49 5 rfl (pb_inc pb_kI_1 rfl) (by decide) rfl ?_
          refine pb_goto (pc := 52) (tgt := 6) C dX2_held_52 (by decide) ?_
          obtain rfl := Option.some.inj hf
          refine pb_sub [1, 2, 3, 4, 5, 0] rfl ?_
          have hl6 := pb_inl hl6
          exact ih6 l6_4 (l6_6 + 1) hl6
        · have hf := pb_neg hf hc22
          refine pb_iload_n (pc := 26) C dX2_held_26 rfl 1 rfl ?_
          refine pb_iload_n (pc := 27) C dX2_held_27 rfl 2 rfl ?_
          refine pb_iload_n (pc := 28) C dX2_held_28 rfl 3 rfl ?_
          refine pb_iload (pc := 29) C dX2_held_29 5 rfl ?_
          obtain ⟨r31, hr31, hf⟩ := pb_bind hf
          refine pb_callSN (host := "PastBets") (pc := 31) (n0 := 2) (ws' := (wwX2_held cyB cyI cyJ cyZ cyS a_t a_t_open a_t_weight c_t_total c_t_stale c_t_weight)) (rest := []) (st2 := [.int r31]) C (kcX7_claimHolds l dC dI cyB cyI cyJ cyZ cyS p1 p2 p3 l6_6 r31 hr31) pb_NW_b (pb_NW_x hX) ⟨va_cnB 4 C.1.2.2.2.2 gX2_held_X7_claimHolds_n57 rfl rfl rfl hX.2.2.2.2.2.2.1 (C.1.2.2.2.2 _ (List.mem_of_getElem? (i := 3) rfl)) kdS_X7_claimHolds ⟨Nat.le_of_ble_eq_true rfl, Nat.le_of_ble_eq_true rfl⟩, C.1.2.2.2.2 _ (List.mem_of_getElem? (i := 2) rfl), trivial⟩ [] [0, 1] rfl rfl ⟨⟨_, rfl, rfl⟩, ⟨⟨_, rfl, rfl⟩, trivial⟩⟩ rfl (by decide +kernel) (adl := []) rfl rfl rfl rfl rfl (Nat.le_of_ble_eq_true rfl) ⟨Nat.le_refl _, Nat.le_refl _⟩ dX2_held_31 rfl ?_
          refine pb_if_eq (pc := 34) (tgt := 49) C dX2_held_34 (by decide) (fun hc34 => ?_) (fun hc34 => ?_)
          · have hf := pb_pos hf hc34
            refine pb_iinc (v := l6_6 + 1) (lv' := [(6, .int (l6_6 + 1)), (0, .ref a_t), (1, .int p1), (2, .int p2), (3, .int p3), (4, .long l6_4)]) (pc := 49) C dX2_held_49 5 rfl (pb_inc pb_kI_1 rfl) (by decide) rfl ?_
            refine pb_goto (pc := 52) (tgt := 6) C dX2_held_52 (by decide) ?_
            obtain rfl := Option.some.inj hf
            refine pb_sub [1, 2, 3, 4, 5, 0] rfl ?_
            have hl6 := pb_inl hl6
            exact ih6 l6_4 (l6_6 + 1) hl6
          · have hf := pb_neg hf hc34
            refine pb_lload (pc := 37) C dX2_held_37 4 rfl ?_
            refine pb_aload_n (pc := 39) C dX2_held_39 rfl 0 rfl ?_
            refine pb_get (pc := 40) C hnX2_held_X2 0 rfl rfl 1 (by decide) (List.mem_of_getElem? (i := 1) rfl) rfl rfl dX2_held_40 ?_
            refine pb_iload (pc := 43) C dX2_held_43 5 rfl ?_
            obtain ⟨g45, hf⟩ := pb_grd hf
            refine pb_lald (pc := 45) C 1 2 rfl rfl g45 dX2_held_45 ?_
            refine pb_ladd (pc := 46) C dX2_held_46 ?_
            obtain ⟨x47, ex47, hf⟩ := pb_bind hf
            have ex47 := Option.some.inj ex47
            refine pb_topl ex47 ?_
            refine pb_lstore (lv' := [(4, .long x47), (0, .ref a_t), (1, .int p1), (2, .int p2), (3, .int p3), (6, .int l6_6)]) (pc := 47) C dX2_held_47 (by decide) rfl ?_
            refine pb_iinc (v := l6_6 + 1) (lv' := [(6, .int (l6_6 + 1)), (4, .long x47), (0, .ref a_t), (1, .int p1), (2, .int p2), (3, .int p3)]) (pc := 49) C dX2_held_49 5 rfl (pb_inc pb_kI_1 rfl) (by decide) rfl ?_
            refine pb_goto (pc := 52) (tgt := 6) C dX2_held_52 (by decide) ?_
            obtain rfl := Option.some.inj hf
            refine pb_sub [2, 3, 4, 5, 1, 0] rfl ?_
            have hl6 := pb_inl hl6
            exact ih6 x47 (l6_6 + 1) hl6
  refine pb_sub [2, 3, 4, 5, 1, 0] rfl ?_
  exact L6 pb_FU 0 0 hz6
def rmX2_totalIf : Room := { frames := 2, cells := 0, slots := 0, locals := 44 }
def wwX2_totalIf (cyB cyI cyJ cyZ cyS : ClassId) (a_t a_t_open a_t_weight : Nat) (c_t_total : Int64) (c_t_stale : Int32) (c_t_weight : (Nat → Int64)) : va_W := [(a_t, .inr (2, [.ref a_t_open, .ref a_t_weight, .long c_t_total, .int c_t_stale])), (a_t_weight, .inl (cyJ, 128, .inr (.inl c_t_weight)))]
theorem hnX2_totalIf_X2 : ∀ w ∈ wsX20, w ∈ wsX2_totalIf := fun _ h => List.mem_cons_of_mem _ (List.mem_append_right _ h)
set_option maxHeartbeats 4000000 in
set_option maxRecDepth 100000 in
theorem kcX2_totalIf (l : Launch) (dC : Nat → ClassId) (dI : Nat → Nat → Nat) (cyB cyI cyJ cyZ cyS : ClassId) (a_t a_t_open a_t_weight : Nat) (c_t_total : Int64) (c_t_stale : Int32) (c_t_weight : (Nat → Int64)) (p1 : Int32) (p2 : Int32) (p3 : Int32) (out : Int64) (hf : fX2_totalIf c_t_weight p1 p2 p3 = some out) : pb_K l yX2_totalIf wsX2_totalIf rmX2_totalIf (dC, dI) vwCl (pb_tys cyB cyI cyJ cyZ cyS) pb_NW [.ref a_t, .int p1, .int p2, .int p3] (wwX2_totalIf cyB cyI cyJ cyZ cyS a_t a_t_open a_t_weight c_t_total c_t_stale c_t_weight) (wwX2_totalIf cyB cyI cyJ cyZ cyS a_t a_t_open a_t_weight c_t_total c_t_stale c_t_weight) (some (.long out)) := by
  unfold fX2_totalIf at hf
  refine pb_K.ofV (cc := cX2_totalIf) (maxL := 7) (ret := (some .long)) (lv0 := [(0, .ref a_t), (1, .int p1), (2, .int p2), (3, .int p3)]) (by decide) rfl (Nat.le_of_ble_eq_true rfl) rfl ?_
  intro p e s m below meth c A C hX hr hlk hA
  refine pb_lconst (v := 0) (pc := 0) C dX2_totalIf_0 pb_kL_0 ?_
  refine pb_lstore (lv' := [(4, .long 0), (0, .ref a_t), (1, .int p1), (2, .int p2), (3, .int p3)]) (pc := 1) C dX2_totalIf_1 (by decide) rfl ?_
  refine pb_iconst (v := 0) (pc := 3) C dX2_totalIf_3 pb_kI_0 ?_
  refine pb_istore (lv' := [(6, .int 0), (4, .long 0), (0, .ref a_t), (1, .int p1), (2, .int p2), (3, .int p3)]) (pc := 4) C dX2_totalIf_4 (by decide) rfl ?_
  obtain ⟨z6, hz6, hk6⟩ := pb_bind hf
  have E6 : ∀ (e6_4 : Int64) (e6_6 : Int32), fX2_totalIf_E6 e6_4 e6_6 = some out → pb_V p l e rmX2_totalIf s m (([.ref a_t, .int p1, .int p2, .int p3] : List Value).toArray) below meth c 7 (dC, dI) vwCl A 0 0 (pb_MQ below (([.ref a_t, .int p1, .int p2, .int p3] : List Value).toArray) s (dC, dI) vwCl (wwX2_totalIf cyB cyI cyJ cyZ cyS a_t a_t_open a_t_weight c_t_total c_t_stale c_t_weight) (wwX2_totalIf cyB cyI cyJ cyZ cyS a_t a_t_open a_t_weight c_t_total c_t_stale c_t_weight) (some (.long out)) A) (wwX2_totalIf cyB cyI cyJ cyZ cyS a_t a_t_open a_t_weight c_t_total c_t_stale c_t_weight) [(4, .long e6_4)] [] 42 := by
    intro e6_4 e6_6 hf
    unfold fX2_totalIf_E6 at hf
    refine pb_lload (pc := 42) C dX2_totalIf_42 0 rfl ?_
    obtain rfl := Option.some.inj hf
    exact pb_lret (pc := 44) C hr hlk hA dX2_totalIf_44
  have L6 : ∀ (n : Nat) (l6_4 : Int64) (l6_6 : Int32), pb_lp (fun y => fX2_totalIf_L6 c_t_weight p1 p2 p3 y.1 y.2) n (l6_4, l6_6) = some z6 → pb_V p l e rmX2_totalIf s m (([.ref a_t, .int p1, .int p2, .int p3] : List Value).toArray) below meth c 7 (dC, dI) vwCl A 0 0 (pb_MQ below (([.ref a_t, .int p1, .int p2, .int p3] : List Value).toArray) s (dC, dI) vwCl (wwX2_totalIf cyB cyI cyJ cyZ cyS a_t a_t_open a_t_weight c_t_total c_t_stale c_t_weight) (wwX2_totalIf cyB cyI cyJ cyZ cyS a_t a_t_open a_t_weight c_t_total c_t_stale c_t_weight) (some (.long out)) A) (wwX2_totalIf cyB cyI cyJ cyZ cyS a_t a_t_open a_t_weight c_t_total c_t_stale c_t_weight) [(0, .ref a_t), (1, .int p1), (2, .int p2), (3, .int p3), (4, .long l6_4), (6, .int l6_6)] [] 6 := by
    intro n
    induction n with
    | zero => intro l6_4 l6_6 hf; exact (pb_lp_zero hf).elim
    | succ n ih6 =>
      intro l6_4 l6_6 hf
      obtain ⟨y6, hf, hl6⟩ := pb_lp_succ hf
      have hf : fX2_totalIf_L6 c_t_weight p1 p2 p3 l6_4 l6_6 = some y6 := hf
      unfold fX2_totalIf_L6 at hf
      refine pb_iload (pc := 6) C dX2_totalIf_6 5 rfl ?_
      refine pb_sipush (v := 128) (pc := 8) C dX2_totalIf_8 pb_kS_128 ?_
      refine pb_icmp_ge (pc := 11) (tgt := 42) C dX2_totalIf_11 (by decide) (fun hc11 => ?_) (fun hc11 => ?_)
      · have hf := pb_pos hf hc11
        obtain rfl := Option.some.inj hf
        obtain rfl := pb_esc hl6
        refine pb_sub [4] rfl ?_
        exact E6 l6_4 l6_6 hk6
      · have hf := pb_neg hf hc11
        refine pb_lload (pc := 14) C dX2_totalIf_14 4 rfl ?_
        refine pb_aload_n (pc := 16) C dX2_totalIf_16 rfl 0 rfl ?_
        refine pb_get (pc := 17) C hnX2_totalIf_X2 0 rfl rfl 1 (by decide) (List.mem_of_getElem? (i := 1) rfl) rfl rfl dX2_totalIf_17 ?_
        refine pb_iload (pc := 20) C dX2_totalIf_20 5 rfl ?_
        obtain ⟨g22, hf⟩ := pb_grd hf
        refine pb_lald (pc := 22) C 1 2 rfl rfl g22 dX2_totalIf_22 ?_
        refine pb_iload (pc := 23) C dX2_totalIf_23 5 rfl ?_
        refine pb_iload_n (pc := 25) C dX2_totalIf_25 rfl 1 rfl ?_
        refine pb_iload_n (pc := 26) C dX2_totalIf_26 rfl 2 rfl ?_
        refine pb_iload_n (pc := 27) C dX2_totalIf_27 rfl 3 rfl ?_
        obtain ⟨r28, hr28, hf⟩ := pb_bind hf
        refine pb_callSN (host := "PastBets") (pc := 28) (n0 := 2) (ws' := (wwX2_totalIf cyB cyI cyJ cyZ cyS a_t a_t_open a_t_weight c_t_total c_t_stale c_t_weight)) (rest := [.long (c_t_weight (Int32.toNatClampNeg l6_6)), .long l6_4]) (st2 := [.int r28, .long (c_t_weight (Int32.toNatClampNeg l6_6)), .long l6_4]) C (kcX7_shareOfTen l dC dI cyB cyI cyJ cyZ cyS l6_6 p1 p2 p3 r28 hr28) pb_NW_b (pb_NW_x hX) ⟨va_cnB 4 C.1.2.2.2.2 gX2_totalIf_X7_shareOfTen_n61 rfl rfl rfl hX.2.2.2.2.2.2.2.1 (C.1.2.2.2.2 _ (List.mem_of_getElem? (i := 3) rfl)) kdS_X7_shareOfTen ⟨Nat.le_of_ble_eq_true rfl, Nat.le_of_ble_eq_true rfl⟩, C.1.2.2.2.2 _ (List.mem_of_getElem? (i := 2) rfl), trivial⟩ [] [0, 1] rfl rfl ⟨⟨_, rfl, rfl⟩, ⟨⟨_, rfl, rfl⟩, trivial⟩⟩ rfl (by decide +kernel) (adl := []) rfl rfl rfl rfl rfl (Nat.le_of_ble_eq_true rfl) ⟨Nat.le_refl _, Nat.le_refl _⟩ dX2_totalIf_28 rfl ?_
        refine pb_i2l (pc := 31) C dX2_totalIf_31 ?_
        refine pb_lmul (pc := 32) C dX2_totalIf_32 ?_
        refine pb_ladd (pc := 33) C dX2_totalIf_33 ?_
        obtain ⟨x34, ex34, hf⟩ := pb_bind hf
        have ex34 := Option.some.inj ex34
        refine pb_topl ex34 ?_
        refine pb_lstore (lv' := [(4, .long x34), (0, .ref a_t), (1, .int p1), (2, .int p2), (3, .int p3), (6, .int l6_6)]) (pc := 34) C dX2_totalIf_34 (by decide) rfl ?_
        refine pb_iinc (v := l6_6 + 1) (lv' := [(6, .int (l6_6 + 1)), (4, .long x34), (0, .ref a_t), (1, .int p1), (2, .int p2), (3, .int p3)]) (pc := 36) C dX2_totalIf_36 5 rfl (pb_inc pb_kI_1 rfl) (by decide) rfl ?_
        refine pb_goto (pc := 39) (tgt := 6) C dX2_totalIf_39 (by decide) ?_
        obtain rfl := Option.some.inj hf
        refine pb_sub [2, 3, 4, 5, 1, 0] rfl ?_
        have hl6 := pb_inl hl6
        exact ih6 x34 (l6_6 + 1) hl6
  refine pb_sub [2, 3, 4, 5, 1, 0] rfl ?_
  exact L6 pb_FU 0 0 hz6
