def rmX2_isFewer : Room := { frames := 1, cells := 0, slots := 0, locals := 21 }
def wwX2_isFewer (cyB cyI cyJ cyZ cyS : ClassId) : va_W := []
set_option maxHeartbeats 4000000 in
set_option maxRecDepth 100000 in
theorem kcX2_isFewer (l : Launch) (dC : Nat → ClassId) (dI : Nat → Nat → Nat) (cyB cyI cyJ cyZ cyS : ClassId) (p1 : Int32) (p2 : Int32) (out : Int32) (hf : fX2_isFewer p1 p2 = some out) : pb_K l yX2_isFewer wsX2_isFewer rmX2_isFewer (dC, dI) vwCl (pb_tys cyB cyI cyJ cyZ cyS) pb_NW [.int p1, .int p2] (wwX2_isFewer cyB cyI cyJ cyZ cyS) (wwX2_isFewer cyB cyI cyJ cyZ cyS) (some (.int out)) := by
  unfold fX2_isFewer at hf
  refine pb_K.ofV (cc := cX2_isFewer) (maxL := 3) (ret := (some .boolean)) (lv0 := [(0, .int p1), (1, .int p2)]) (by decide) rfl (Nat.le_of_ble_eq_true rfl) rfl ?_
  intro p e s m below meth c A C hX hr hlk hA
  refine pb_iload_n (pc := 0) C dX2_isFewer_0 rfl 0 rfl ?_
  obtain ⟨r1, hr1, hf⟩ := pb_bind hf
  refine pb_callS (pc := 1) (n0 := 0) (ws' := (wwX2_isFewer cyB cyI cyJ cyZ cyS)) (rest := []) (st2 := [.int r1]) C (kcJ6_bitCount_0f7a4 l dC dI cyB cyI cyJ cyZ cyS p1 r1 hr1) pb_NW_b (pb_NW_x hX) (va_cwS 1 C.1.2.2.2.2 gX2_isFewer_J6_bitCount_0f7a4 rfl rfl rfl kdS_J6_bitCount_0f7a4 ⟨Nat.le_of_ble_eq_true rfl, Nat.le_of_ble_eq_true rfl⟩) [] [] rfl rfl trivial rfl (by decide +kernel) (adl := []) rfl rfl rfl rfl rfl (Nat.le_of_ble_eq_true rfl) ⟨Nat.le_refl _, Nat.le_refl _⟩ dX2_isFewer_1 rfl ?_
  refine pb_iload_n (pc := 4) C dX2_isFewer_4 rfl 1 rfl ?_
  obtain ⟨r5, hr5, hf⟩ := pb_bind hf
  refine pb_callS (pc := 5) (n0 := 0) (ws' := (wwX2_isFewer cyB cyI cyJ cyZ cyS)) (rest := [.int r1]) (st2 := [.int r5, .int r1]) C (kcJ6_bitCount_0f7a4 l dC dI cyB cyI cyJ cyZ cyS p2 r5 hr5) pb_NW_b (pb_NW_x hX) (va_cwS 1 C.1.2.2.2.2 gX2_isFewer_J6_bitCount_0f7a4 rfl rfl rfl kdS_J6_bitCount_0f7a4 ⟨Nat.le_of_ble_eq_true rfl, Nat.le_of_ble_eq_true rfl⟩) [] [] rfl rfl trivial rfl (by decide +kernel) (adl := []) rfl rfl rfl rfl rfl (Nat.le_of_ble_eq_true rfl) ⟨Nat.le_refl _, Nat.le_refl _⟩ dX2_isFewer_5 rfl ?_
  obtain ⟨r8, hr8, hf⟩ := pb_bind hf
  refine pb_callS (pc := 8) (n0 := 0) (ws' := (wwX2_isFewer cyB cyI cyJ cyZ cyS)) (rest := []) (st2 := [.int r8]) C (kcJ6_compare_7cf53 l dC dI cyB cyI cyJ cyZ cyS r1 r5 r8 hr8) pb_NW_b (pb_NW_x hX) (va_cwS 2 C.1.2.2.2.2 gX2_isFewer_J6_compare_7cf53 rfl rfl rfl kdS_J6_compare_7cf53 ⟨Nat.le_of_ble_eq_true rfl, Nat.le_of_ble_eq_true rfl⟩) [] [] rfl rfl trivial rfl (by decide +kernel) (adl := []) rfl rfl rfl rfl rfl (Nat.le_of_ble_eq_true rfl) ⟨Nat.le_refl _, Nat.le_refl _⟩ dX2_isFewer_8 rfl ?_
  refine pb_istore_n (lv' := [(2, .int r8), (0, .int p1), (1, .int p2)]) (pc := 11) C dX2_isFewer_11 rfl (by decide) rfl ?_
  refine pb_iload_n (pc := 12) C dX2_isFewer_12 rfl 0 rfl ?_
  refine pb_if_lt (pc := 13) (tgt := 25) C dX2_isFewer_13 (by decide) (fun hc13 => ?_) (fun hc13 => ?_)
  · have hf := pb_pos hf hc13
    refine pb_iconst (v := 1) (pc := 25) C dX2_isFewer_25 pb_kI_1 ?_
    refine pb_goto (pc := 26) (tgt := 30) C dX2_isFewer_26 (by decide) ?_
    obtain rfl := Option.some.inj hf
    exact pb_zret (pc := 30) C hr hlk hA pb_isB1 dX2_isFewer_30
  · have hf := pb_neg hf hc13
    refine pb_iload_n (pc := 16) C dX2_isFewer_16 rfl 0 rfl ?_
    refine pb_if_ne (pc := 17) (tgt := 29) C dX2_isFewer_17 (by decide) (fun hc17 => ?_) (fun hc17 => ?_)
    · have hf := pb_neg hf hc17
      refine pb_iconst (v := 0) (pc := 29) C dX2_isFewer_29 pb_kI_0 ?_
      obtain rfl := Option.some.inj hf
      exact pb_zret (pc := 30) C hr hlk hA pb_isB0 dX2_isFewer_30
    · have hf := pb_pos hf hc17
      refine pb_iload_n (pc := 20) C dX2_isFewer_20 rfl 1 rfl ?_
      refine pb_iload_n (pc := 21) C dX2_isFewer_21 rfl 2 rfl ?_
      refine pb_icmp_ge (pc := 22) (tgt := 29) C dX2_isFewer_22 (by decide) (fun hc22 => ?_) (fun hc22 => ?_)
      · have hf := pb_pos hf hc22
        refine pb_iconst (v := 0) (pc := 29) C dX2_isFewer_29 pb_kI_0 ?_
        obtain rfl := Option.some.inj hf
        exact pb_zret (pc := 30) C hr hlk hA pb_isB0 dX2_isFewer_30
      · have hf := pb_neg hf hc22
        refine pb_iconst (v := 1) (pc := 25) C dX2_isFewer_25 pb_kI_1 ?_
        refine pb_goto (pc := 26) (tgt := 30) C dX2_isFewer_26 (by decide) ?_
        obtain rfl := Option.some.inj hf
        exact pb_zret (pc := 30) C hr hlk hA pb_isB1 dX2_isFewer_30
def rmX2_fewestInTheWay : Room := { frames := 3, cells := 0, slots := 0, locals := 67 }
def wwX2_fewestInTheWay (cyB cyI cyJ cyZ cyS : ClassId) (a_t a_t_open a_t_weight a_p1 a_p1_cells : Nat) (w_p1 : Int32) (m_p1 : Int32) (n_p1 : Nat) (c_t_total : Int64) (c_t_stale : Int32) (c_t_open : (Nat → Int32)) (c_p1_size : Int32) (c_p1_cells : (Nat → Int32)) : va_W := [(a_t, .inr (2, [.ref a_t_open, .ref a_t_weight, .long c_t_total, .int c_t_stale])), (a_t_open, .inl (cyZ, 128, .inl c_t_open)), (a_p1, .inr (6, [.int w_p1, .int m_p1, .ref a_p1_cells, .int c_p1_size])), (a_p1_cells, .inl (cyI, n_p1, .inl c_p1_cells))]
theorem hnX2_fewestInTheWay_X2 : ∀ w ∈ wsX20, w ∈ wsX2_fewestInTheWay := fun _ h => List.mem_cons_of_mem _ (List.mem_append_left _ (List.mem_append_right _ h))
set_option maxHeartbeats 4000000 in
set_option maxRecDepth 100000 in
theorem kcX2_fewestInTheWay (l : Launch) (dC : Nat → ClassId) (dI : Nat → Nat → Nat) (cyB cyI cyJ cyZ cyS : ClassId) (a_t a_t_open a_t_weight a_p1 a_p1_cells : Nat) (w_p1 : Int32) (m_p1 : Int32) (n_p1 : Nat) (c_t_total : Int64) (c_t_stale : Int32) (c_t_open : (Nat → Int32)) (c_p1_size : Int32) (c_p1_cells : (Nat → Int32)) (out : Int32) (hf : fX2_fewestInTheWay w_p1 m_p1 n_p1 c_t_open c_p1_size c_p1_cells = some out) : pb_K l yX2_fewestInTheWay wsX2_fewestInTheWay rmX2_fewestInTheWay (dC, dI) vwCl (pb_tys cyB cyI cyJ cyZ cyS) pb_NW [.ref a_t, .ref a_p1] (wwX2_fewestInTheWay cyB cyI cyJ cyZ cyS a_t a_t_open a_t_weight a_p1 a_p1_cells w_p1 m_p1 n_p1 c_t_total c_t_stale c_t_open c_p1_size c_p1_cells) (wwX2_fewestInTheWay cyB cyI cyJ cyZ cyS a_t a_t_open a_t_weight a_p1 a_p1_cells w_p1 m_p1 n_p1 c_t_total c_t_stale c_t_open c_p1_size c_p1_cells) (some (.int out)) := by
  unfold fX2_fewestInTheWay at hf
  refine pb_K.ofV (cc := cX2_fewestInTheWay) (maxL := 5) (ret := (some .int)) (lv0 := [(0, .ref a_t), (1, .ref a_p1)]) (by decide) rfl (Nat.le_of_ble_eq_true rfl) rfl ?_
  intro p e s m below meth c A C hX hr hlk hA
  refine pb_iconst (v := (-1)) (pc := 0) C dX2_fewestInTheWay_0 pb_kI_m1 ?_
  refine pb_istore_n (lv' := [(2, .int (-1)), (0, .ref a_t), (1, .ref a_p1)]) (pc := 1) C dX2_fewestInTheWay_1 rfl (by decide) rfl ?_
  refine pb_iconst (v := 0) (pc := 2) C dX2_fewestInTheWay_2 pb_kI_0 ?_
  refine pb_istore_n (lv' := [(3, .int 0), (2, .int (-1)), (0, .ref a_t), (1, .ref a_p1)]) (pc := 3) C dX2_fewestInTheWay_3 rfl (by decide) rfl ?_
  obtain ⟨z4, hz4, hk4⟩ := pb_bind hf
  have E4 : ∀ (e4_2 : Int32) (e4_3 : Int32), fX2_fewestInTheWay_E4 e4_2 e4_3 = some out → pb_V p l e rmX2_fewestInTheWay s m (([.ref a_t, .ref a_p1] : List Value).toArray) below meth c 5 (dC, dI) vwCl A 0 0 (pb_MQ below (([.ref a_t, .ref a_p1] : List Value).toArray) s (dC, dI) vwCl (wwX2_fewestInTheWay cyB cyI cyJ cyZ cyS a_t a_t_open a_t_weight a_p1 a_p1_cells w_p1 m_p1 n_p1 c_t_total c_t_stale c_t_open c_p1_size c_p1_cells) (wwX2_fewestInTheWay cyB cyI cyJ cyZ cyS a_t a_t_open a_t_weight a_p1 a_p1_cells w_p1 m_p1 n_p1 c_t_total c_t_stale c_t_open c_p1_size c_p1_cells) (some (.int out)) A) (wwX2_fewestInTheWay cyB cyI cyJ cyZ cyS a_t a_t_open a_t_weight a_p1 a_p1_cells w_p1 m_p1 n_p1 c_t_total c_t_stale c_t_open c_p1_size c_p1_cells) [(2, .int e4_2)] [] 50 := by
    intro e4_2 e4_3 hf
    unfold fX2_fewestInTheWay_E4 at hf
    refine pb_iload_n (pc := 50) C dX2_fewestInTheWay_50 rfl 0 rfl ?_
    obtain rfl := Option.some.inj hf
    exact pb_iret (pc := 51) C hr hlk hA dX2_fewestInTheWay_51
  have L4 : ∀ (n : Nat) (l4_2 : Int32) (l4_3 : Int32), pb_lp (fun y => fX2_fewestInTheWay_L4 w_p1 m_p1 n_p1 c_t_open c_p1_size c_p1_cells y.1 y.2) n (l4_2, l4_3) = some z4 → pb_V p l e rmX2_fewestInTheWay s m (([.ref a_t, .ref a_p1] : List Value).toArray) below meth c 5 (dC, dI) vwCl A 0 0 (pb_MQ below (([.ref a_t, .ref a_p1] : List Value).toArray) s (dC, dI) vwCl (wwX2_fewestInTheWay cyB cyI cyJ cyZ cyS a_t a_t_open a_t_weight a_p1 a_p1_cells w_p1 m_p1 n_p1 c_t_total c_t_stale c_t_open c_p1_size c_p1_cells) (wwX2_fewestInTheWay cyB cyI cyJ cyZ cyS a_t a_t_open a_t_weight a_p1 a_p1_cells w_p1 m_p1 n_p1 c_t_total c_t_stale c_t_open c_p1_size c_p1_cells) (some (.int out)) A) (wwX2_fewestInTheWay cyB cyI cyJ cyZ cyS a_t a_t_open a_t_weight a_p1 a_p1_cells w_p1 m_p1 n_p1 c_t_total c_t_stale c_t_open c_p1_size c_p1_cells) [(0, .ref a_t), (1, .ref a_p1), (2, .int l4_2), (3, .int l4_3)] [] 4 := by
    intro n
    induction n with
    | zero => intro l4_2 l4_3 hf; exact (pb_lp_zero hf).elim
    | succ n ih4 =>
      intro l4_2 l4_3 hf
      obtain ⟨y4, hf, hl4⟩ := pb_lp_succ hf
      have hf : fX2_fewestInTheWay_L4 w_p1 m_p1 n_p1 c_t_open c_p1_size c_p1_cells l4_2 l4_3 = some y4 := hf
      unfold fX2_fewestInTheWay_L4 at hf
      refine pb_iload_n (pc := 4) C dX2_fewestInTheWay_4 rfl 3 rfl ?_
      refine pb_sipush (v := 128) (pc := 5) C dX2_fewestInTheWay_5 pb_kS_128 ?_
      refine pb_icmp_ge (pc := 8) (tgt := 50) C dX2_fewestInTheWay_8 (by decide) (fun hc8 => ?_) (fun hc8 => ?_)
      · have hf := pb_pos hf hc8
        obtain rfl := Option.some.inj hf
        obtain rfl := pb_esc hl4
        refine pb_sub [2] rfl ?_
        exact E4 l4_2 l4_3 hk4
      · have hf := pb_neg hf hc8
        refine pb_aload_n (pc := 11) C dX2_fewestInTheWay_11 rfl 0 rfl ?_
        refine pb_get (pc := 12) C hnX2_fewestInTheWay_X2 0 rfl rfl 0 (by decide) (List.mem_of_getElem? (i := 1) rfl) rfl rfl dX2_fewestInTheWay_12 ?_
        refine pb_iload_n (pc := 15) C dX2_fewestInTheWay_15 rfl 3 rfl ?_
        obtain ⟨g16, hf⟩ := pb_grd hf
        refine pb_zald (pc := 16) C 1 3 rfl rfl g16 dX2_fewestInTheWay_16 ?_
        refine pb_if_eq (pc := 17) (tgt := 44) C dX2_fewestInTheWay_17 (by decide) (fun hc17 => ?_) (fun hc17 => ?_)
        · have hf := pb_pos hf hc17
          refine pb_iinc (v := l4_3 + 1) (lv' := [(3, .int (l4_3 + 1)), (0, .ref a_t), (1, .ref a_p1), (2, .int l4_2)]) (pc := 44) C dX2_fewestInTheWay_44 3 rfl (pb_inc pb_kI_1 rfl) (by decide) rfl ?_
          refine pb_goto (pc := 47) (tgt := 4) C dX2_fewestInTheWay_47 (by decide) ?_
          obtain rfl := Option.some.inj hf
          refine pb_sub [1, 2, 3, 0] rfl ?_
          have hl4 := pb_inl hl4
          exact ih4 l4_2 (l4_3 + 1) hl4
        · have hf := pb_neg hf hc17
          refine pb_aload_n (pc := 20) C dX2_fewestInTheWay_20 rfl 1 rfl ?_
          refine pb_iload_n (pc := 21) C dX2_fewestInTheWay_21 rfl 3 rfl ?_
          obtain ⟨r22, hr22, hf⟩ := pb_bind hf
          refine pb_callS (pc := 22) (n0 := 4) (ws' := (wwX2_fewestInTheWay cyB cyI cyJ cyZ cyS a_t a_t_open a_t_weight a_p1 a_p1_cells w_p1 m_p1 n_p1 c_t_total c_t_stale c_t_open c_p1_size c_p1_cells)) (rest := []) (st2 := [.int r22]) C (kcX2_inTheWay l dC dI cyB cyI cyJ cyZ cyS a_p1 a_p1_cells w_p1 m_p1 n_p1 c_p1_size c_p1_cells l4_3 r22 hr22) pb_NW_b (pb_NW_x hX) (va_cwS 2 C.1.2.2.2.2 gX2_fewestInTheWay_X2_inTheWay rfl rfl rfl kdS_X2_inTheWay ⟨Nat.le_of_ble_eq_true rfl, Nat.le_of_ble_eq_true rfl⟩) [2, 3] [0, 1] rfl rfl ⟨⟨_, rfl, rfl⟩, ⟨⟨_, rfl, rfl⟩, trivial⟩⟩ rfl (by decide +kernel) (adl := [a_p1, a_p1_cells]) rfl rfl rfl rfl rfl (Nat.le_of_ble_eq_true rfl) ⟨Nat.le_refl _, Nat.le_refl _⟩ dX2_fewestInTheWay_22 rfl ?_
          refine pb_istore (lv' := [(4, .int r22), (0, .ref a_t), (1, .ref a_p1), (2, .int l4_2), (3, .int l4_3)]) (pc := 25) C dX2_fewestInTheWay_25 (by decide) rfl ?_
          refine pb_iload_n (pc := 27) C dX2_fewestInTheWay_27 rfl 3 rfl ?_
          refine pb_iconst (v := (-1)) (pc := 28) C dX2_fewestInTheWay_28 pb_kI_m1 ?_
          refine pb_icmp_eq (pc := 29) (tgt := 41) C dX2_fewestInTheWay_29 (by decide) (fun hc29 => ?_) (fun hc29 => ?_)
          · have hf := pb_pos hf hc29
            refine pb_iload (pc := 41) C dX2_fewestInTheWay_41 0 rfl ?_
            refine pb_istore_n (lv' := [(2, .int r22), (4, .int r22), (0, .ref a_t), (1, .ref a_p1), (3, .int l4_3)]) (pc := 43) C dX2_fewestInTheWay_43 rfl (by decide) rfl ?_
            refine pb_iinc (v := l4_3 + 1) (lv' := [(3, .int (l4_3 + 1)), (2, .int r22), (4, .int r22), (0, .ref a_t), (1, .ref a_p1)]) (pc := 44) C dX2_fewestInTheWay_44 4 rfl (pb_inc pb_kI_1 rfl) (by decide) rfl ?_
            refine pb_goto (pc := 47) (tgt := 4) C dX2_fewestInTheWay_47 (by decide) ?_
            obtain rfl := Option.some.inj hf
            refine pb_sub [3, 4, 1, 0] rfl ?_
            have hl4 := pb_inl hl4
            exact ih4 r22 (l4_3 + 1) hl4
          · have hf := pb_neg hf hc29
            refine pb_iload (pc := 32) C dX2_fewestInTheWay_32 0 rfl ?_
            refine pb_iload_n (pc := 34) C dX2_fewestInTheWay_34 rfl 3 rfl ?_
            obtain ⟨r35, hr35, hf⟩ := pb_bind hf
            refine pb_callS (pc := 35) (n0 := 4) (ws' := (wwX2_fewestInTheWay cyB cyI cyJ cyZ cyS a_t a_t_open a_t_weight a_p1 a_p1_cells w_p1 m_p1 n_p1 c_t_total c_t_stale c_t_open c_p1_size c_p1_cells)) (rest := []) (st2 := [.int r35]) C (kcX2_isFewer l dC dI cyB cyI cyJ cyZ cyS r22 l4_2 r35 hr35) pb_NW_b (pb_NW_x hX) (va_cwS 2 C.1.2.2.2.2 gX2_fewestInTheWay_X2_isFewer rfl rfl rfl kdS_X2_isFewer ⟨Nat.le_of_ble_eq_true rfl, Nat.le_of_ble_eq_true rfl⟩) [] [0, 1, 2, 3] rfl rfl ⟨⟨_, rfl, rfl⟩, ⟨⟨_, rfl, rfl⟩, ⟨⟨_, rfl, rfl⟩, ⟨⟨_, rfl, rfl⟩, trivial⟩⟩⟩⟩ rfl (by decide +kernel) (adl := []) rfl rfl rfl rfl rfl (Nat.le_of_ble_eq_true rfl) ⟨Nat.le_refl _, Nat.le_refl _⟩ dX2_fewestInTheWay_35 rfl ?_
            refine pb_if_eq (pc := 38) (tgt := 44) C dX2_fewestInTheWay_38 (by decide) (fun hc38 => ?_) (fun hc38 => ?_)
            · have hf := pb_pos hf hc38
              refine pb_iinc (v := l4_3 + 1) (lv' := [(3, .int (l4_3 + 1)), (4, .int r22), (0, .ref a_t), (1, .ref a_p1), (2, .int l4_2)]) (pc := 44) C dX2_fewestInTheWay_44 4 rfl (pb_inc pb_kI_1 rfl) (by decide) rfl ?_
              refine pb_goto (pc := 47) (tgt := 4) C dX2_fewestInTheWay_47 (by decide) ?_
              obtain rfl := Option.some.inj hf
              refine pb_sub [2, 3, 4, 0] rfl ?_
              have hl4 := pb_inl hl4
              exact ih4 l4_2 (l4_3 + 1) hl4
            · have hf := pb_neg hf hc38
              refine pb_iload (pc := 41) C dX2_fewestInTheWay_41 0 rfl ?_
              refine pb_istore_n (lv' := [(2, .int r22), (4, .int r22), (0, .ref a_t), (1, .ref a_p1), (3, .int l4_3)]) (pc := 43) C dX2_fewestInTheWay_43 rfl (by decide) rfl ?_
              refine pb_iinc (v := l4_3 + 1) (lv' := [(3, .int (l4_3 + 1)), (2, .int r22), (4, .int r22), (0, .ref a_t), (1, .ref a_p1)]) (pc := 44) C dX2_fewestInTheWay_44 4 rfl (pb_inc pb_kI_1 rfl) (by decide) rfl ?_
              refine pb_goto (pc := 47) (tgt := 4) C dX2_fewestInTheWay_47 (by decide) ?_
              obtain rfl := Option.some.inj hf
              refine pb_sub [3, 4, 1, 0] rfl ?_
              have hl4 := pb_inl hl4
              exact ih4 r22 (l4_3 + 1) hl4
  refine pb_sub [2, 3, 1, 0] rfl ?_
  exact L4 pb_FU (-1) 0 hz4
def rmX4_begin : Room := { frames := 0, cells := 0, slots := 0, locals := 0 }
def wwX4_begin (cyB cyI cyJ cyZ cyS : ClassId) (a_t a_t_left : Nat) (c_t_leftCount : Int32) (c_t_x : Int64) : va_W := [(a_t, .inr (4, [.ref a_t_left, .int c_t_leftCount, .long c_t_x]))]
theorem hnX4_begin_X4 : ∀ w ∈ wsX40, w ∈ wsX4_begin := fun _ h => List.mem_cons_of_mem _ (List.mem_append_right _ h)
set_option maxHeartbeats 4000000 in
set_option maxRecDepth 100000 in
theorem kcX4_begin (l : Launch) (dC : Nat → ClassId) (dI : Nat → Nat → Nat) (cyB cyI cyJ cyZ cyS : ClassId) (a_t a_t_left : Nat) (c_t_leftCount : Int32) (c_t_x : Int64) (p1 : Int32) (out : Int64) (hf : fX4_begin c_t_x p1 = some out) : pb_K l yX4_begin wsX4_begin rmX4_begin (dC, dI) vwCl (pb_tys cyB cyI cyJ cyZ cyS) pb_NW [.ref a_t, .int p1] (wwX4_begin cyB cyI cyJ cyZ cyS a_t a_t_left c_t_leftCount c_t_x) (wwX4_begin cyB cyI cyJ cyZ cyS a_t a_t_left c_t_leftCount out) none := by
  unfold fX4_begin at hf
  refine pb_K.ofV (cc := cX4_begin) (maxL := 2) (ret := none) (lv0 := [(0, .ref a_t), (1, .int p1)]) (by decide) rfl (Nat.le_of_ble_eq_true rfl) rfl ?_
  intro p e s m below meth c A C hX hr hlk hA
  refine pb_aload_n (pc := 0) C dX4_begin_0 rfl 0 rfl ?_
  refine pb_iload_n (pc := 1) C dX4_begin_1 rfl 1 rfl ?_
  refine pb_i2l (pc := 2) C dX4_begin_2 ?_
  obtain ⟨x3, ex3, hf⟩ := pb_bind hf
  have ex3 := Option.some.inj ex3
  refine pb_topl ex3 ?_
  refine pb_put (pc := 3) (ws' := (wwX4_begin cyB cyI cyJ cyZ cyS a_t a_t_left c_t_leftCount x3)) C hnX4_begin_X4 tyX4 tyX4_ok nmX4 0 rfl rfl 2 (by decide) (List.mem_of_getElem? (i := 1) rfl) rfl rfl rfl rfl (Nat.le_of_ble_eq_true rfl) rfl dX4_begin_3 ?_
  obtain rfl := Option.some.inj hf
  exact pb_vret (pc := 6) C hr hlk hA dX4_begin_6
def rmX2_listFitting : Room := { frames := 0, cells := 0, slots := 0, locals := 0 }
def wwX2_listFitting (cyB cyI cyJ cyZ cyS : ClassId) (a_t a_t_open a_t_weight a_p1 : Nat) (n_p1 : Nat) (c_t_total : Int64) (c_t_stale : Int32) (c_t_weight : (Nat → Int64)) (c_p1 : (Nat → Int32)) : va_W := [(a_t, .inr (2, [.ref a_t_open, .ref a_t_weight, .long c_t_total, .int c_t_stale])), (a_t_weight, .inl (cyJ, 128, .inr (.inl c_t_weight))), (a_p1, .inl (cyI, n_p1, .inl c_p1))]
theorem hnX2_listFitting_X2 : ∀ w ∈ wsX20, w ∈ wsX2_listFitting := fun _ h => List.mem_cons_of_mem _ (List.mem_append_right _ h)
set_option maxHeartbeats 4000000 in
set_option maxRecDepth 100000 in
theorem kcX2_listFitting (l : Launch) (dC : Nat → ClassId) (dI : Nat → Nat → Nat) (cyB cyI cyJ cyZ cyS : ClassId) (a_t a_t_open a_t_weight a_p1 : Nat) (n_p1 : Nat) (c_t_total : Int64) (c_t_stale : Int32) (c_t_weight : (Nat → Int64)) (c_p1 : (Nat → Int32)) (out : (Int32 × (Nat → Int32))) (hf : fX2_listFitting n_p1 c_t_weight c_p1 = some out) : pb_K l yX2_listFitting wsX2_listFitting rmX2_listFitting (dC, dI) vwCl (pb_tys cyB cyI cyJ cyZ cyS) pb_NW [.ref a_t, .ref a_p1] (wwX2_listFitting cyB cyI cyJ cyZ cyS a_t a_t_open a_t_weight a_p1 n_p1 c_t_total c_t_stale c_t_weight c_p1) (wwX2_listFitting cyB cyI cyJ cyZ cyS a_t a_t_open a_t_weight a_p1 n_p1 c_t_total c_t_stale c_t_weight out.2) (some (.int out.1)) := by
  unfold fX2_listFitting at hf
  refine pb_K.ofV (cc := cX2_listFitting) (maxL := 4) (ret := (some .int)) (lv0 := [(0, .ref a_t), (1, .ref a_p1)]) (by decide) rfl (Nat.le_of_ble_eq_true rfl) rfl ?_
  intro p e s m below meth c A C hX hr hlk hA
  refine pb_iconst (v := 0) (pc := 0) C dX2_listFitting_0 pb_kI_0 ?_
  refine pb_istore_n (lv' := [(2, .int 0), (0, .ref a_t), (1, .ref a_p1)]) (pc := 1) C dX2_listFitting_1 rfl (by decide) rfl ?_
  refine pb_iconst (v := 0) (pc := 2) C dX2_listFitting_2 pb_kI_0 ?_
  refine pb_istore_n (lv' := [(3, .int 0), (2, .int 0), (0, .ref a_t), (1, .ref a_p1)]) (pc := 3) C dX2_listFitting_3 rfl (by decide) rfl ?_
  obtain ⟨z4, hz4, hk4⟩ := pb_bind hf
  have E4 : ∀ (e4_2 : Int32) (e4_3 : Int32) (e4_c_p1 : (Nat → Int32)), fX2_listFitting_E4 e4_2 e4_3 e4_c_p1 = some out → pb_V p l e rmX2_listFitting s m (([.ref a_t, .ref a_p1] : List Value).toArray) below meth c 4 (dC, dI) vwCl A 0 0 (pb_MQ below (([.ref a_t, .ref a_p1] : List Value).toArray) s (dC, dI) vwCl (wwX2_listFitting cyB cyI cyJ cyZ cyS a_t a_t_open a_t_weight a_p1 n_p1 c_t_total c_t_stale c_t_weight c_p1) (wwX2_listFitting cyB cyI cyJ cyZ cyS a_t a_t_open a_t_weight a_p1 n_p1 c_t_total c_t_stale c_t_weight out.2) (some (.int out.1)) A) (wwX2_listFitting cyB cyI cyJ cyZ cyS a_t a_t_open a_t_weight a_p1 n_p1 c_t_total c_t_stale c_t_weight e4_c_p1) [(2, .int e4_2)] [] 41 := by
    intro e4_2 e4_3 e4_c_p1 hf
    unfold fX2_listFitting_E4 at hf
    refine pb_iload_n (pc := 41) C dX2_listFitting_41 rfl 0 rfl ?_
    obtain rfl := Option.some.inj hf
    exact pb_iret (pc := 42) C hr hlk hA dX2_listFitting_42
  have L4 : ∀ (n : Nat) (l4_2 : Int32) (l4_3 : Int32) (l4_c_p1 : (Nat → Int32)), pb_lp (fun y => fX2_listFitting_L4 n_p1 c_t_weight y.1 y.2.1 y.2.2) n (l4_2, l4_3, l4_c_p1) = some z4 → pb_V p l e rmX2_listFitting s m (([.ref a_t, .ref a_p1] : List Value).toArray) below meth c 4 (dC, dI) vwCl A 0 0 (pb_MQ below (([.ref a_t, .ref a_p1] : List Value).toArray) s (dC, dI) vwCl (wwX2_listFitting cyB cyI cyJ cyZ cyS a_t a_t_open a_t_weight a_p1 n_p1 c_t_total c_t_stale c_t_weight c_p1) (wwX2_listFitting cyB cyI cyJ cyZ cyS a_t a_t_open a_t_weight a_p1 n_p1 c_t_total c_t_stale c_t_weight out.2) (some (.int out.1)) A) (wwX2_listFitting cyB cyI cyJ cyZ cyS a_t a_t_open a_t_weight a_p1 n_p1 c_t_total c_t_stale c_t_weight l4_c_p1) [(0, .ref a_t), (1, .ref a_p1), (2, .int l4_2), (3, .int l4_3)] [] 4 := by
    intro n
    induction n with
    | zero => intro l4_2 l4_3 l4_c_p1 hf; exact (pb_lp_zero hf).elim
    | succ n ih4 =>
      intro l4_2 l4_3 l4_c_p1 hf
      obtain ⟨y4, hf, hl4⟩ := pb_lp_succ hf
      have hf : fX2_listFitting_L4 n_p1 c_t_weight l4_2 l4_3 l4_c_p1 = some y4 := hf
      unfold fX2_listFitting_L4 at hf
      refine pb_iload_n (pc := 4) C dX2_listFitting_4 rfl 3 rfl ?_
      refine pb_sipush (v := 128) (pc := 5) C dX2_listFitting_5 pb_kS_128 ?_
      refine pb_icmp_ge (pc := 8) (tgt := 41) C dX2_listFitting_8 (by decide) (fun hc8 => ?_) (fun hc8 => ?_)
      · have hf := pb_pos hf hc8
        obtain rfl := Option.some.inj hf
        obtain rfl := pb_esc hl4
        refine pb_sub [2] rfl ?_
        exact E4 l4_2 l4_3 l4_c_p1 hk4
      · have hf := pb_neg hf hc8
        refine pb_aload_n (pc := 11) C dX2_listFitting_11 rfl 0 rfl ?_
        refine pb_get (pc := 12) C hnX2_listFitting_X2 0 rfl rfl 1 (by decide) (List.mem_of_getElem? (i := 1) rfl) rfl rfl dX2_listFitting_12 ?_
        refine pb_iload_n (pc := 15) C dX2_listFitting_15 rfl 3 rfl ?_
        obtain ⟨g16, hf⟩ := pb_grd hf
        refine pb_lald (pc := 16) C 1 2 rfl rfl g16 dX2_listFitting_16 ?_
        refine pb_lconst (v := 0) (pc := 17) C dX2_listFitting_17 pb_kL_0 ?_
        refine pb_lif_le (pc := 18) (tgt := 35) C dX2_listFitting_18 dX2_listFitting_19 (by decide) (fun hc18 => ?_) (fun hc18 => ?_)
        · have hf := pb_pos hf hc18
          refine pb_iinc (v := l4_3 + 1) (lv' := [(3, .int (l4_3 + 1)), (0, .ref a_t), (1, .ref a_p1), (2, .int l4_2)]) (pc := 35) C dX2_listFitting_35 3 rfl (pb_inc pb_kI_1 rfl) (by decide) rfl ?_
          refine pb_goto (pc := 38) (tgt := 4) C dX2_listFitting_38 (by decide) ?_
          obtain rfl := Option.some.inj hf
          refine pb_sub [1, 2, 3, 0] rfl ?_
          have hl4 := pb_inl hl4
          exact ih4 l4_2 (l4_3 + 1) l4_c_p1 hl4
        · have hf := pb_neg hf hc18
          refine pb_iload_n (pc := 22) C dX2_listFitting_22 rfl 2 rfl ?_
          refine pb_aload_n (pc := 23) C dX2_listFitting_23 rfl 1 rfl ?_
          refine pb_alen (pc := 24) (v := Int32.ofNat n_p1) C 2 1 rfl rfl rfl dX2_listFitting_24 ?_
          refine pb_icmp_ge (pc := 25) (tgt := 35) C dX2_listFitting_25 (by decide) (fun hc25 => ?_) (fun hc25 => ?_)
          · have hf := pb_pos hf hc25
            refine pb_iinc (v := l4_3 + 1) (lv' := [(3, .int (l4_3 + 1)), (0, .ref a_t), (1, .ref a_p1), (2, .int l4_2)]) (pc := 35) C dX2_listFitting_35 3 rfl (pb_inc pb_kI_1 rfl) (by decide) rfl ?_
            refine pb_goto (pc := 38) (tgt := 4) C dX2_listFitting_38 (by decide) ?_
            obtain rfl := Option.some.inj hf
            refine pb_sub [1, 2, 3, 0] rfl ?_
            have hl4 := pb_inl hl4
            exact ih4 l4_2 (l4_3 + 1) l4_c_p1 hl4
          · have hf := pb_neg hf hc25
            refine pb_aload_n (pc := 28) C dX2_listFitting_28 rfl 1 rfl ?_
            refine pb_iload_n (pc := 29) C dX2_listFitting_29 rfl 2 rfl ?_
            refine pb_iload_n (pc := 30) C dX2_listFitting_30 rfl 3 rfl ?_
            obtain ⟨g31, hf⟩ := pb_grd hf
            obtain ⟨u31, eu31, hf⟩ := pb_bind hf
            have eu31 := Option.some.inj eu31
            refine pb_iast (pc := 31) (ws' := (wwX2_listFitting cyB cyI cyJ cyZ cyS a_t a_t_open a_t_weight a_p1 n_p1 c_t_total c_t_stale c_t_weight u31)) C 2 1 rfl rfl g31 eu31 rfl dX2_listFitting_31 ?_
            refine pb_iinc (v := l4_2 + 1) (lv' := [(2, .int (l4_2 + 1)), (0, .ref a_t), (1, .ref a_p1), (3, .int l4_3)]) (pc := 32) C dX2_listFitting_32 2 rfl (pb_inc pb_kI_1 rfl) (by decide) rfl ?_
            refine pb_iinc (v := l4_3 + 1) (lv' := [(3, .int (l4_3 + 1)), (2, .int (l4_2 + 1)), (0, .ref a_t), (1, .ref a_p1)]) (pc := 35) C dX2_listFitting_35 3 rfl (pb_inc pb_kI_1 rfl) (by decide) rfl ?_
            refine pb_goto (pc := 38) (tgt := 4) C dX2_listFitting_38 (by decide) ?_
            obtain rfl := Option.some.inj hf
            refine pb_sub [2, 3, 1, 0] rfl ?_
            have hl4 := pb_inl hl4
            exact ih4 (l4_2 + 1) (l4_3 + 1) u31 hl4
  refine pb_sub [2, 3, 1, 0] rfl ?_
  exact L4 pb_FU 0 0 c_p1 hz4
def rmX4_draw : Room := { frames := 0, cells := 0, slots := 0, locals := 0 }
def wwX4_draw (cyB cyI cyJ cyZ cyS : ClassId) (a_t a_t_left : Nat) (c_t_leftCount : Int32) (c_t_x : Int64) : va_W := [(a_t, .inr (4, [.ref a_t_left, .int c_t_leftCount, .long c_t_x]))]
theorem hnX4_draw_X4 : ∀ w ∈ wsX40, w ∈ wsX4_draw := fun _ h => List.mem_cons_of_mem _ (List.mem_append_right _ h)
set_option maxHeartbeats 4000000 in
set_option maxRecDepth 100000 in
theorem kcX4_draw (l : Launch) (dC : Nat → ClassId) (dI : Nat → Nat → Nat) (cyB cyI cyJ cyZ cyS : ClassId) (a_t a_t_left : Nat) (c_t_leftCount : Int32) (c_t_x : Int64) (p1 : Int32) (out : (Int32 × Int64)) (hf : fX4_draw c_t_x p1 = some out) : pb_K l yX4_draw wsX4_draw rmX4_draw (dC, dI) vwCl (pb_tys cyB cyI cyJ cyZ cyS) pb_NW [.ref a_t, .int p1] (wwX4_draw cyB cyI cyJ cyZ cyS a_t a_t_left c_t_leftCount c_t_x) (wwX4_draw cyB cyI cyJ cyZ cyS a_t a_t_left c_t_leftCount out.2) (some (.int out.1)) := by
  unfold fX4_draw at hf
  refine pb_K.ofV (cc := cX4_draw) (maxL := 2) (ret := (some .int)) (lv0 := [(0, .ref a_t), (1, .int p1)]) (by decide) rfl (Nat.le_of_ble_eq_true rfl) rfl ?_
  intro p e s m below meth c A C hX hr hlk hA
  refine pb_aload_n (pc := 0) C dX4_draw_0 rfl 0 rfl ?_
  refine pb_aload_n (pc := 1) C dX4_draw_1 rfl 0 rfl ?_
  refine pb_get (pc := 2) C hnX4_draw_X4 0 rfl rfl 2 (by decide) (List.mem_of_getElem? (i := 1) rfl) rfl rfl dX4_draw_2 ?_
  refine pb_ldc2 (v := 1103515245) (pc := 5) C dX4_draw_5 (List.mem_of_getElem? (i := 2) rfl) ?_
  refine pb_lmul (pc := 8) C dX4_draw_8 ?_
  refine pb_ldc2 (v := 12345) (pc := 9) C dX4_draw_9 (List.mem_of_getElem? (i := 3) rfl) ?_
  refine pb_ladd (pc := 12) C dX4_draw_12 ?_
  refine pb_ldc2 (v := 2147483648) (pc := 13) C dX4_draw_13 (List.mem_of_getElem? (i := 4) rfl) ?_
  refine pb_lrem (pc := 16) C dX4_draw_16 pb_nzJ_2147483648 ?_
  obtain ⟨x17, ex17, hf⟩ := pb_bind hf
  have ex17 := Option.some.inj ex17
  refine pb_topl ex17 ?_
  refine pb_put (pc := 17) (ws' := (wwX4_draw cyB cyI cyJ cyZ cyS a_t a_t_left c_t_leftCount x17)) C hnX4_draw_X4 tyX4 tyX4_ok nmX4 0 rfl rfl 2 (by decide) (List.mem_of_getElem? (i := 1) rfl) rfl rfl rfl rfl (Nat.le_of_ble_eq_true rfl) rfl dX4_draw_17 ?_
  refine pb_iload_n (pc := 20) C dX4_draw_20 rfl 1 rfl ?_
  refine pb_iconst (v := 1) (pc := 21) C dX4_draw_21 pb_kI_1 ?_
  refine pb_icmp_ge (pc := 22) (tgt := 29) C dX4_draw_22 (by decide) (fun hc22 => ?_) (fun hc22 => ?_)
  · have hf := pb_pos hf hc22
    refine pb_aload_n (pc := 29) C dX4_draw_29 rfl 0 rfl ?_
    refine pb_get (pc := 30) C hnX4_draw_X4 0 rfl rfl 2 (by decide) (List.mem_of_getElem? (i := 1) rfl) rfl rfl dX4_draw_30 ?_
    refine pb_ldc2 (v := 65536) (pc := 33) C dX4_draw_33 (List.mem_of_getElem? (i := 5) rfl) ?_
    refine pb_ldiv (pc := 36) C dX4_draw_36 pb_nzJ_65536 ?_
    refine pb_iload_n (pc := 37) C dX4_draw_37 rfl 1 rfl ?_
    refine pb_i2l (pc := 38) C dX4_draw_38 ?_
    obtain ⟨g39, hf⟩ := pb_grd hf
    refine pb_lrem (pc := 39) C dX4_draw_39 g39 ?_
    refine pb_l2i (pc := 40) C dX4_draw_40 ?_
    obtain rfl := Option.some.inj hf
    exact pb_iret (pc := 41) C hr hlk hA dX4_draw_41
  · have hf := pb_neg hf hc22
    refine pb_iconst (v := 0) (pc := 25) C dX4_draw_25 pb_kI_0 ?_
    refine pb_goto (pc := 26) (tgt := 41) C dX4_draw_26 (by decide) ?_
    obtain rfl := Option.some.inj hf
    exact pb_iret (pc := 41) C hr hlk hA dX4_draw_41
def rmX4_isOpen : Room := { frames := 2, cells := 0, slots := 0, locals := 46 }
def wwX4_isOpen (cyB cyI cyJ cyZ cyS : ClassId) (a_t a_t_left : Nat) (c_t_leftCount : Int32) (c_t_x : Int64) (c_t_left : (Nat → Int32)) : va_W := [(a_t, .inr (4, [.ref a_t_left, .int c_t_leftCount, .long c_t_x])), (a_t_left, .inl (cyI, 128, .inl c_t_left))]
theorem hnX4_isOpen_X4 : ∀ w ∈ wsX40, w ∈ wsX4_isOpen := fun _ h => List.mem_cons_of_mem _ (List.mem_append_right _ h)
set_option maxHeartbeats 4000000 in
set_option maxRecDepth 100000 in
theorem kcX4_isOpen (l : Launch) (dC : Nat → ClassId) (dI : Nat → Nat → Nat) (cyB cyI cyJ cyZ cyS : ClassId) (a_t a_t_left : Nat) (c_t_leftCount : Int32) (c_t_x : Int64) (c_t_left : (Nat → Int32)) (p1 : Int32) (p2 : Int32) (p3 : Int32) (out : Int32) (hf : fX4_isOpen c_t_leftCount c_t_left p1 p2 p3 = some out) : pb_K l yX4_isOpen wsX4_isOpen rmX4_isOpen (dC, dI) vwCl (pb_tys cyB cyI cyJ cyZ cyS) pb_NW [.ref a_t, .int p1, .int p2, .int p3] (wwX4_isOpen cyB cyI cyJ cyZ cyS a_t a_t_left c_t_leftCount c_t_x c_t_left) (wwX4_isOpen cyB cyI cyJ cyZ cyS a_t a_t_left c_t_leftCount c_t_x c_t_left) (some (.int out)) := by
  unfold fX4_isOpen at hf
  refine pb_K.ofV (cc := cX4_isOpen) (maxL := 5) (ret := (some .boolean)) (lv0 := [(0, .ref a_t), (1, .int p1), (2, .int p2), (3, .int p3)]) (by decide) rfl (Nat.le_of_ble_eq_true rfl) rfl ?_
  intro p e s m below meth c A C hX hr hlk hA
  refine pb_iconst (v := 1) (pc := 0) C dX4_isOpen_0 pb_kI_1 ?_
  refine pb_istore (lv' := [(4, .int 1), (0, .ref a_t), (1, .int p1), (2, .int p2), (3, .int p3)]) (pc := 1) C dX4_isOpen_1 (by decide) rfl ?_
  obtain ⟨z3, hz3, hk3⟩ := pb_bind hf
  have E3 : ∀ (e3_4 : Int32), fX4_isOpen_E3 e3_4 = some out → pb_V p l e rmX4_isOpen s m (([.ref a_t, .int p1, .int p2, .int p3] : List Value).toArray) below meth c 5 (dC, dI) vwCl A 0 0 (pb_MQ below (([.ref a_t, .int p1, .int p2, .int p3] : List Value).toArray) s (dC, dI) vwCl (wwX4_isOpen cyB cyI cyJ cyZ cyS a_t a_t_left c_t_leftCount c_t_x c_t_left) (wwX4_isOpen cyB cyI cyJ cyZ cyS a_t a_t_left c_t_leftCount c_t_x c_t_left) (some (.int out)) A) (wwX4_isOpen cyB cyI cyJ cyZ cyS a_t a_t_left c_t_leftCount c_t_x c_t_left) [] [] 48 := by
    intro e3_4 hf
    unfold fX4_isOpen_E3 at hf
    refine pb_iconst (v := 0) (pc := 48) C dX4_isOpen_48 pb_kI_0 ?_
    obtain rfl := Option.some.inj hf
    exact pb_zret (pc := 49) C hr hlk hA pb_isB0 dX4_isOpen_49
  have L3 : ∀ (n : Nat) (l3_4 : Int32), pb_lp (fun y => fX4_isOpen_L3 c_t_leftCount c_t_left p1 p2 p3 y) n l3_4 = some z3 → pb_V p l e rmX4_isOpen s m (([.ref a_t, .int p1, .int p2, .int p3] : List Value).toArray) below meth c 5 (dC, dI) vwCl A 0 0 (pb_MQ below (([.ref a_t, .int p1, .int p2, .int p3] : List Value).toArray) s (dC, dI) vwCl (wwX4_isOpen cyB cyI cyJ cyZ cyS a_t a_t_left c_t_leftCount c_t_x c_t_left) (wwX4_isOpen cyB cyI cyJ cyZ cyS a_t a_t_left c_t_leftCount c_t_x c_t_left) (some (.int out)) A) (wwX4_isOpen cyB cyI cyJ cyZ cyS a_t a_t_left c_t_leftCount c_t_x c_t_left) [(0, .ref a_t), (1, .int p1), (2, .int p2), (3, .int p3), (4, .int l3_4)] [] 3 := by
    intro n
    induction n with
    | zero => intro l3_4 hf; exact (pb_lp_zero hf).elim
    | succ n ih3 =>
      intro l3_4 hf
      obtain ⟨y3, hf, hl3⟩ := pb_lp_succ hf
      have hf : fX4_isOpen_L3 c_t_leftCount c_t_left p1 p2 p3 l3_4 = some y3 := hf
      unfold fX4_isOpen_L3 at hf
      refine pb_iload (pc := 3) C dX4_isOpen_3 4 rfl ?_
      refine pb_aload_n (pc := 5) C dX4_isOpen_5 rfl 0 rfl ?_
      refine pb_get (pc := 6) C hnX4_isOpen_X4 0 rfl rfl 1 (by decide) (List.mem_of_getElem? (i := 1) rfl) rfl rfl dX4_isOpen_6 ?_
      refine pb_icmp_ge (pc := 9) (tgt := 48) C dX4_isOpen_9 (by decide) (fun hc9 => ?_) (fun hc9 => ?_)
      · have hf := pb_pos hf hc9
        obtain rfl := Option.some.inj hf
        obtain rfl := pb_esc hl3
        refine pb_sub [] rfl ?_
        have hk3 := pb_inl hk3
        exact E3 l3_4 hk3
      · have hf := pb_neg hf hc9
        refine pb_iload_n (pc := 12) C dX4_isOpen_12 rfl 1 rfl ?_
        refine pb_iload_n (pc := 13) C dX4_isOpen_13 rfl 2 rfl ?_
        refine pb_iload_n (pc := 14) C dX4_isOpen_14 rfl 3 rfl ?_
        refine pb_aload_n (pc := 15) C dX4_isOpen_15 rfl 0 rfl ?_
        refine pb_get (pc := 16) C hnX4_isOpen_X4 0 rfl rfl 0 (by decide) (List.mem_of_getElem? (i := 2) rfl) rfl rfl dX4_isOpen_16 ?_
        refine pb_iload (pc := 19) C dX4_isOpen_19 4 rfl ?_
        obtain ⟨g21, hf⟩ := pb_grd hf
        refine pb_iald (pc := 21) C 1 1 rfl rfl g21 dX4_isOpen_21 ?_
        obtain ⟨r22, hr22, hf⟩ := pb_bind hf
        refine pb_callSN (host := "PastBets") (pc := 22) (n0 := 2) (ws' := (wwX4_isOpen cyB cyI cyJ cyZ cyS a_t a_t_left c_t_leftCount c_t_x c_t_left)) (rest := []) (st2 := [.int r22]) C (kcX7_claimHolds l dC dI cyB cyI cyJ cyZ cyS p1 p2 p3 (c_t_left (Int32.toNatClampNeg l3_4)) r22 hr22) pb_NW_b (pb_NW_x hX) ⟨va_cnB 4 C.1.2.2.2.2 gX4_isOpen_X7_claimHolds_n53 rfl rfl rfl hX.2.2.2.2.2.2.2.2.2 (C.1.2.2.2.2 _ (List.mem_of_getElem? (i := 4) rfl)) kdS_X7_claimHolds ⟨Nat.le_of_ble_eq_true rfl, Nat.le_of_ble_eq_true rfl⟩, C.1.2.2.2.2 _ (List.mem_of_getElem? (i := 3) rfl), trivial⟩ [] [0, 1] rfl rfl ⟨⟨_, rfl, rfl⟩, ⟨⟨_, rfl, rfl⟩, trivial⟩⟩ rfl (by decide +kernel) (adl := []) rfl rfl rfl rfl rfl (Nat.le_of_ble_eq_true rfl) ⟨Nat.le_refl _, Nat.le_refl _⟩ dX4_isOpen_22 rfl ?_
        refine pb_iload_n (pc := 25) C dX4_isOpen_25 rfl 1 rfl ?_
        refine pb_iload_n (pc := 26) C dX4_isOpen_26 rfl 2 rfl ?_
        refine pb_iload_n (pc := 27) C dX4_isOpen_27 rfl 3 rfl ?_
        refine pb_aload_n (pc := 28) C dX4_isOpen_28 rfl 0 rfl ?_
        refine pb_get (pc := 29) C hnX4_isOpen_X4 0 rfl rfl 0 (by decide) (List.mem_of_getElem? (i := 2) rfl) rfl rfl dX4_isOpen_29 ?_
        refine pb_iconst (v := 0) (pc := 32) C dX4_isOpen_32 pb_kI_0 ?_
        refine pb_iald (pc := 33) C 1 1 rfl rfl pb_ok_0_128 dX4_isOpen_33 ?_
        refine pb_topi (congrArg c_t_left pb_kN_0) ?_
        obtain ⟨r34, hr34, hf⟩ := pb_bind hf
        refine pb_callSN (host := "PastBets") (pc := 34) (n0 := 2) (ws' := (wwX4_isOpen cyB cyI cyJ cyZ cyS a_t a_t_left c_t_leftCount c_t_x c_t_left)) (rest := [.int r22]) (st2 := [.int r34, .int r22]) C (kcX7_claimHolds l dC dI cyB cyI cyJ cyZ cyS p1 p2 p3 (c_t_left 0) r34 hr34) pb_NW_b (pb_NW_x hX) ⟨va_cnB 4 C.1.2.2.2.2 gX4_isOpen_X7_claimHolds_n53 rfl rfl rfl hX.2.2.2.2.2.2.2.2.2 (C.1.2.2.2.2 _ (List.mem_of_getElem? (i := 4) rfl)) kdS_X7_claimHolds ⟨Nat.le_of_ble_eq_true rfl, Nat.le_of_ble_eq_true rfl⟩, C.1.2.2.2.2 _ (List.mem_of_getElem? (i := 3) rfl), trivial⟩ [] [0, 1] rfl rfl ⟨⟨_, rfl, rfl⟩, ⟨⟨_, rfl, rfl⟩, trivial⟩⟩ rfl (by decide +kernel) (adl := []) rfl rfl rfl rfl rfl (Nat.le_of_ble_eq_true rfl) ⟨Nat.le_refl _, Nat.le_refl _⟩ dX4_isOpen_34 rfl ?_
        refine pb_icmp_eq (pc := 37) (tgt := 42) C dX4_isOpen_37 (by decide) (fun hc37 => ?_) (fun hc37 => ?_)
        · have hf := pb_pos hf hc37
          refine pb_iinc (v := l3_4 + 1) (lv' := [(4, .int (l3_4 + 1)), (0, .ref a_t), (1, .int p1), (2, .int p2), (3, .int p3)]) (pc := 42) C dX4_isOpen_42 4 rfl (pb_inc pb_kI_1 rfl) (by decide) rfl ?_
          refine pb_goto (pc := 45) (tgt := 3) C dX4_isOpen_45 (by decide) ?_
          obtain rfl := Option.some.inj hf
          refine pb_sub [1, 2, 3, 4, 0] rfl ?_
          have hl3 := pb_inl hl3
          exact ih3 (l3_4 + 1) hl3
        · have hf := pb_neg hf hc37
          refine pb_iconst (v := 1) (pc := 40) C dX4_isOpen_40 pb_kI_1 ?_
          obtain rfl := Option.some.inj hf
          obtain rfl := pb_esc hl3
          obtain rfl := pb_esc hk3
          exact pb_zret (pc := 41) C hr hlk hA pb_isB1 dX4_isOpen_41
  refine pb_sub [1, 2, 3, 4, 0] rfl ?_
  exact L3 pb_FU 1 hz3
def rmX4_narrow : Room := { frames := 1, cells := 0, slots := 0, locals := 21 }
def wwX4_narrow (cyB cyI cyJ cyZ cyS : ClassId) (a_t a_t_left : Nat) (c_t_leftCount : Int32) (c_t_x : Int64) (c_t_left : (Nat → Int32)) : va_W := [(a_t, .inr (4, [.ref a_t_left, .int c_t_leftCount, .long c_t_x])), (a_t_left, .inl (cyI, 128, .inl c_t_left))]
theorem hnX4_narrow_X4 : ∀ w ∈ wsX40, w ∈ wsX4_narrow := fun _ h => List.mem_cons_of_mem _ (List.mem_append_right _ h)
set_option maxHeartbeats 4000000 in
set_option maxRecDepth 100000 in
theorem kcX4_narrow (l : Launch) (dC : Nat → ClassId) (dI : Nat → Nat → Nat) (cyB cyI cyJ cyZ cyS : ClassId) (a_t a_t_left : Nat) (c_t_leftCount : Int32) (c_t_x : Int64) (c_t_left : (Nat → Int32)) (p1 : Int32) (p2 : Int32) (out : (Int32 × (Nat → Int32))) (hf : fX4_narrow c_t_leftCount c_t_left p1 p2 = some out) : pb_K l yX4_narrow wsX4_narrow rmX4_narrow (dC, dI) vwCl (pb_tys cyB cyI cyJ cyZ cyS) pb_NW [.ref a_t, .int p1, .int p2] (wwX4_narrow cyB cyI cyJ cyZ cyS a_t a_t_left c_t_leftCount c_t_x c_t_left) (wwX4_narrow cyB cyI cyJ cyZ cyS a_t a_t_left out.1 c_t_x out.2) none := by
  unfold fX4_narrow at hf
  refine pb_K.ofV (cc := cX4_narrow) (maxL := 5) (ret := none) (lv0 := [(0, .ref a_t), (1, .int p1), (2, .int p2)]) (by decide) rfl (Nat.le_of_ble_eq_true rfl) rfl ?_
  intro p e s m below meth c A C hX hr hlk hA
  refine pb_iconst (v := 0) (pc := 0) C dX4_narrow_0 pb_kI_0 ?_
  refine pb_istore_n (lv' := [(3, .int 0), (0, .ref a_t), (1, .int p1), (2, .int p2)]) (pc := 1) C dX4_narrow_1 rfl (by decide) rfl ?_
  refine pb_iconst (v := 0) (pc := 2) C dX4_narrow_2 pb_kI_0 ?_
  refine pb_istore (lv' := [(4, .int 0), (3, .int 0), (0, .ref a_t), (1, .int p1), (2, .int p2)]) (pc := 3) C dX4_narrow_3 (by decide) rfl ?_
  obtain ⟨z5, hz5, hk5⟩ := pb_bind hf
  have E5 : ∀ (e5_3 : Int32) (e5_4 : Int32) (e5_c_t_left : (Nat → Int32)), fX4_narrow_E5 e5_3 e5_4 e5_c_t_left = some out → pb_V p l e rmX4_narrow s m (([.ref a_t, .int p1, .int p2] : List Value).toArray) below meth c 5 (dC, dI) vwCl A 0 0 (pb_MQ below (([.ref a_t, .int p1, .int p2] : List Value).toArray) s (dC, dI) vwCl (wwX4_narrow cyB cyI cyJ cyZ cyS a_t a_t_left c_t_leftCount c_t_x c_t_left) (wwX4_narrow cyB cyI cyJ cyZ cyS a_t a_t_left out.1 c_t_x out.2) none A) (wwX4_narrow cyB cyI cyJ cyZ cyS a_t a_t_left c_t_leftCount c_t_x e5_c_t_left) [(0, .ref a_t), (3, .int e5_3)] [] 51 := by
    intro e5_3 e5_4 e5_c_t_left hf
    unfold fX4_narrow_E5 at hf
    refine pb_aload_n (pc := 51) C dX4_narrow_51 rfl 0 rfl ?_
    refine pb_iload_n (pc := 52) C dX4_narrow_52 rfl 1 rfl ?_
    refine pb_put (pc := 53) (ws' := (wwX4_narrow cyB cyI cyJ cyZ cyS a_t a_t_left e5_3 c_t_x e5_c_t_left)) C hnX4_narrow_X4 tyX4 tyX4_ok nmX4 0 rfl rfl 1 (by decide) (List.mem_of_getElem? (i := 1) rfl) rfl rfl rfl rfl (Nat.le_of_ble_eq_true rfl) rfl dX4_narrow_53 ?_
    obtain rfl := Option.some.inj hf
    exact pb_vret (pc := 56) C hr hlk hA dX4_narrow_56
  have L5 : ∀ (n : Nat) (l5_3 : Int32) (l5_4 : Int32) (l5_c_t_left : (Nat → Int32)), pb_lp (fun y => fX4_narrow_L5 c_t_leftCount p1 p2 y.1 y.2.1 y.2.2) n (l5_3, l5_4, l5_c_t_left) = some z5 → pb_V p l e rmX4_narrow s m (([.ref a_t, .int p1, .int p2] : List Value).toArray) below meth c 5 (dC, dI) vwCl A 0 0 (pb_MQ below (([.ref a_t, .int p1, .int p2] : List Value).toArray) s (dC, dI) vwCl (wwX4_narrow cyB cyI cyJ cyZ cyS a_t a_t_left c_t_leftCount c_t_x c_t_left) (wwX4_narrow cyB cyI cyJ cyZ cyS a_t a_t_left out.1 c_t_x out.2) none A) (wwX4_narrow cyB cyI cyJ cyZ cyS a_t a_t_left c_t_leftCount c_t_x l5_c_t_left) [(0, .ref a_t), (1, .int p1), (2, .int p2), (3, .int l5_3), (4, .int l5_4)] [] 5 := by
    intro n
    induction n with
    | zero => intro l5_3 l5_4 l5_c_t_left hf; exact (pb_lp_zero hf).elim
    | succ n ih5 =>
      intro l5_3 l5_4 l5_c_t_left hf
      obtain ⟨y5, hf, hl5⟩ := pb_lp_succ hf
      have hf : fX4_narrow_L5 c_t_leftCount p1 p2 l5_3 l5_4 l5_c_t_left = some y5 := hf
      unfold fX4_narrow_L5 at hf
      refine pb_iload (pc := 5) C dX4_narrow_5 4 rfl ?_
      refine pb_aload_n (pc := 7) C dX4_narrow_7 rfl 0 rfl ?_
      refine pb_get (pc := 8) C hnX4_narrow_X4 0 rfl rfl 1 (by decide) (List.mem_of_getElem? (i := 1) rfl) rfl rfl dX4_narrow_8 ?_
      refine pb_icmp_ge (pc := 11) (tgt := 51) C dX4_narrow_11 (by decide) (fun hc11 => ?_) (fun hc11 => ?_)
      · have hf := pb_pos hf hc11
        obtain rfl := Option.some.inj hf
        obtain rfl := pb_esc hl5
        refine pb_sub [0, 3] rfl ?_
        exact E5 l5_3 l5_4 l5_c_t_left hk5
      · have hf := pb_neg hf hc11
        refine pb_aload_n (pc := 14) C dX4_narrow_14 rfl 0 rfl ?_
        refine pb_get (pc := 15) C hnX4_narrow_X4 0 rfl rfl 0 (by decide) (List.mem_of_getElem? (i := 2) rfl) rfl rfl dX4_narrow_15 ?_
        refine pb_iload (pc := 18) C dX4_narrow_18 4 rfl ?_
        obtain ⟨g20, hf⟩ := pb_grd hf
        refine pb_iald (pc := 20) C 1 1 rfl rfl g20 dX4_narrow_20 ?_
        refine pb_iload_n (pc := 21) C dX4_narrow_21 rfl 1 rfl ?_
        obtain ⟨r22, hr22, hf⟩ := pb_bind hf
        refine pb_callSN (host := "PastBets") (pc := 22) (n0 := 2) (ws' := (wwX4_narrow cyB cyI cyJ cyZ cyS a_t a_t_left c_t_leftCount c_t_x l5_c_t_left)) (rest := []) (st2 := [.int r22]) C (kcX7_wasSo l dC dI cyB cyI cyJ cyZ cyS (l5_c_t_left (Int32.toNatClampNeg l5_4)) p1 r22 hr22) pb_NW_b (pb_NW_x hX) ⟨va_cnB 2 C.1.2.2.2.2 gX4_narrow_X7_wasSo_n45 rfl rfl rfl hX.2.2.2.2.2.2.2.2.1 (C.1.2.2.2.2 _ (List.mem_of_getElem? (i := 4) rfl)) kdS_X7_wasSo ⟨Nat.le_of_ble_eq_true rfl, Nat.le_of_ble_eq_true rfl⟩, C.1.2.2.2.2 _ (List.mem_of_getElem? (i := 3) rfl), trivial⟩ [] [0, 1] rfl rfl ⟨⟨_, rfl, rfl⟩, ⟨⟨_, rfl, rfl⟩, trivial⟩⟩ rfl (by decide +kernel) (adl := []) rfl rfl rfl rfl rfl (Nat.le_of_ble_eq_true rfl) ⟨Nat.le_refl _, Nat.le_refl _⟩ dX4_narrow_22 rfl ?_
        refine pb_iload_n (pc := 25) C dX4_narrow_25 rfl 2 rfl ?_
        refine pb_icmp_ne (pc := 26) (tgt := 45) C dX4_narrow_26 (by decide) (fun hc26 => ?_) (fun hc26 => ?_)
        · have hf := pb_neg hf hc26
          refine pb_iinc (v := l5_4 + 1) (lv' := [(4, .int (l5_4 + 1)), (0, .ref a_t), (1, .int p1), (2, .int p2), (3, .int l5_3)]) (pc := 45) C dX4_narrow_45 4 rfl (pb_inc pb_kI_1 rfl) (by decide) rfl ?_
          refine pb_goto (pc := 48) (tgt := 5) C dX4_narrow_48 (by decide) ?_
          obtain rfl := Option.some.inj hf
          refine pb_sub [1, 2, 3, 4, 0] rfl ?_
          have hl5 := pb_inl hl5
          exact ih5 l5_3 (l5_4 + 1) l5_c_t_left hl5
        · have hf := pb_pos hf hc26
          refine pb_aload_n (pc := 29) C dX4_narrow_29 rfl 0 rfl ?_
          refine pb_get (pc := 30) C hnX4_narrow_X4 0 rfl rfl 0 (by decide) (List.mem_of_getElem? (i := 2) rfl) rfl rfl dX4_narrow_30 ?_
          refine pb_iload_n (pc := 33) C dX4_narrow_33 rfl 3 rfl ?_
          refine pb_aload_n (pc := 34) C dX4_narrow_34 rfl 0 rfl ?_
          refine pb_get (pc := 35) C hnX4_narrow_X4 0 rfl rfl 0 (by decide) (List.mem_of_getElem? (i := 2) rfl) rfl rfl dX4_narrow_35 ?_
          refine pb_iload (pc := 38) C dX4_narrow_38 4 rfl ?_
          obtain ⟨g40, hf⟩ := pb_grd hf
          refine pb_iald (pc := 40) C 1 1 rfl rfl g40 dX4_narrow_40 ?_
          obtain ⟨g41, hf⟩ := pb_grd hf
          obtain ⟨u41, eu41, hf⟩ := pb_bind hf
          have eu41 := Option.some.inj eu41
          refine pb_iast (pc := 41) (ws' := (wwX4_narrow cyB cyI cyJ cyZ cyS a_t a_t_left c_t_leftCount c_t_x u41)) C 1 1 rfl rfl g41 eu41 rfl dX4_narrow_41 ?_
          refine pb_iinc (v := l5_3 + 1) (lv' := [(3, .int (l5_3 + 1)), (0, .ref a_t), (1, .int p1), (2, .int p2), (4, .int l5_4)]) (pc := 42) C dX4_narrow_42 3 rfl (pb_inc pb_kI_1 rfl) (by decide) rfl ?_
          refine pb_iinc (v := l5_4 + 1) (lv' := [(4, .int (l5_4 + 1)), (3, .int (l5_3 + 1)), (0, .ref a_t), (1, .int p1), (2, .int p2)]) (pc := 45) C dX4_narrow_45 4 rfl (pb_inc pb_kI_1 rfl) (by decide) rfl ?_
          refine pb_goto (pc := 48) (tgt := 5) C dX4_narrow_48 (by decide) ?_
          obtain rfl := Option.some.inj hf
          refine pb_sub [2, 3, 4, 1, 0] rfl ?_
          have hl5 := pb_inl hl5
          exact ih5 (l5_3 + 1) (l5_4 + 1) u41 hl5
  refine pb_sub [2, 3, 4, 1, 0] rfl ?_
  exact L5 pb_FU 0 0 c_t_left hz5
def rmX4_daysOnce : Room := { frames := 3, cells := 0, slots := 0, locals := 70 }
def wwX4_daysOnce (cyB cyI cyJ cyZ cyS : ClassId) (a_t a_t_left a_p1 a_p1_open a_p1_weight : Nat) (c_t_leftCount : Int32) (c_t_x : Int64) (c_t_left : (Nat → Int32)) (c_p1_total : Int64) (c_p1_stale : Int32) (c_p1_weight : (Nat → Int64)) : va_W := [(a_t, .inr (4, [.ref a_t_left, .int c_t_leftCount, .long c_t_x])), (a_t_left, .inl (cyI, 128, .inl c_t_left)), (a_p1, .inr (2, [.ref a_p1_open, .ref a_p1_weight, .long c_p1_total, .int c_p1_stale])), (a_p1_weight, .inl (cyJ, 128, .inr (.inl c_p1_weight)))]
theorem hnX4_daysOnce_X4 : ∀ w ∈ wsX40, w ∈ wsX4_daysOnce := fun _ h => List.mem_cons_of_mem _ (List.mem_append_left _ (List.mem_append_right _ h))
set_option maxHeartbeats 4000000 in
set_option maxRecDepth 100000 in
theorem kcX4_daysOnce (l : Launch) (dC : Nat → ClassId) (dI : Nat → Nat → Nat) (cyB cyI cyJ cyZ cyS : ClassId) (a_t a_t_left a_p1 a_p1_open a_p1_weight : Nat) (c_t_leftCount : Int32) (c_t_x : Int64) (c_t_left : (Nat → Int32)) (c_p1_total : Int64) (c_p1_stale : Int32) (c_p1_weight : (Nat → Int64)) (p2 : Int32) (p3 : Int32) (p4 : Int32) (out : (Int32 × Int32 × Int64 × (Nat → Int32))) (hf : fX4_daysOnce c_t_leftCount c_t_x c_t_left c_p1_weight p2 p3 p4 = some out) : pb_K l yX4_daysOnce wsX4_daysOnce rmX4_daysOnce (dC, dI) vwCl (pb_tys cyB cyI cyJ cyZ cyS) pb_NW [.ref a_t, .ref a_p1, .int p2, .int p3, .int p4] (wwX4_daysOnce cyB cyI cyJ cyZ cyS a_t a_t_left a_p1 a_p1_open a_p1_weight c_t_leftCount c_t_x c_t_left c_p1_total c_p1_stale c_p1_weight) (wwX4_daysOnce cyB cyI cyJ cyZ cyS a_t a_t_left a_p1 a_p1_open a_p1_weight out.2.1 out.2.2.1 out.2.2.2 c_p1_total c_p1_stale c_p1_weight) (some (.int out.1)) := by
  unfold fX4_daysOnce at hf
  refine pb_K.ofV (cc := cX4_daysOnce) (maxL := 11) (ret := (some .int)) (lv0 := [(0, .ref a_t), (1, .ref a_p1), (2, .int p2), (3, .int p3), (4, .int p4)]) (by decide) rfl (Nat.le_of_ble_eq_true rfl) rfl ?_
  intro p e s m below meth c A C hX hr hlk hA
  refine pb_aload_n (pc := 0) C dX4_daysOnce_0 rfl 0 rfl ?_
  refine pb_aload_n (pc := 1) C dX4_daysOnce_1 rfl 1 rfl ?_
  refine pb_aload_n (pc := 2) C dX4_daysOnce_2 rfl 0 rfl ?_
  refine pb_get (pc := 3) C hnX4_daysOnce_X4 0 rfl rfl 0 (by decide) (List.mem_of_getElem? (i := 1) rfl) rfl rfl dX4_daysOnce_3 ?_
  obtain ⟨r6, hr6, hf⟩ := pb_bind hf
  refine pb_callV (pc := 6) (n0 := 4) (ws' := (wwX4_daysOnce cyB cyI cyJ cyZ cyS a_t a_t_left a_p1 a_p1_open a_p1_weight c_t_leftCount c_t_x r6.2 c_p1_total c_p1_stale c_p1_weight)) (rest := [.ref a_t]) (st2 := [.int r6.1, .ref a_t]) C (kcX2_listFitting l dC dI cyB cyI cyJ cyZ cyS a_p1 a_p1_open a_p1_weight a_t_left 128 c_p1_total c_p1_stale c_p1_weight c_t_left r6 hr6) pb_NW_b (pb_NW_x hX) (cwV 1 C.1.2.2.2.2 gX4_daysOnce_X2_listFitting rfl rfl rfl kdV_X2_listFitting ⟨Nat.le_of_ble_eq_true rfl, Nat.le_of_ble_eq_true rfl⟩) 0 rfl rfl [2, 3, 1] [0] rfl rfl ⟨⟨_, rfl, rfl⟩, trivial⟩ rfl (by decide +kernel) (adl := [a_p1, a_p1_weight, a_t_left]) rfl rfl rfl rfl rfl (Nat.le_of_ble_eq_true rfl) ⟨Nat.le_refl _, Nat.le_refl _⟩ dX4_daysOnce_6 rfl ?_
  refine pb_put (pc := 9) (ws' := (wwX4_daysOnce cyB cyI cyJ cyZ cyS a_t a_t_left a_p1 a_p1_open a_p1_weight r6.1 c_t_x r6.2 c_p1_total c_p1_stale c_p1_weight)) C hnX4_daysOnce_X4 tyX4 tyX4_ok nmX4 0 rfl rfl 1 (by decide) (List.mem_of_getElem? (i := 2) rfl) rfl rfl rfl rfl (Nat.le_of_ble_eq_true rfl) rfl dX4_daysOnce_9 ?_
  refine pb_aload_n (pc := 12) C dX4_daysOnce_12 rfl 0 rfl ?_
  refine pb_aload_n (pc := 13) C dX4_daysOnce_13 rfl 0 rfl ?_
  refine pb_get (pc := 14) C hnX4_daysOnce_X4 0 rfl rfl 1 (by decide) (List.mem_of_getElem? (i := 2) rfl) rfl rfl dX4_daysOnce_14 ?_
  obtain ⟨r17, hr17, hf⟩ := pb_bind hf
  refine pb_callV (pc := 17) (n0 := 4) (ws' := (wwX4_daysOnce cyB cyI cyJ cyZ cyS a_t a_t_left a_p1 a_p1_open a_p1_weight r6.1 r17.2 r6.2 c_p1_total c_p1_stale c_p1_weight)) (rest := []) (st2 := [.int r17.1]) C (kcX4_draw l dC dI cyB cyI cyJ cyZ cyS a_t a_t_left r6.1 c_t_x r6.1 r17 hr17) pb_NW_b (pb_NW_x hX) (cwV 1 C.1.2.2.2.2 gX4_daysOnce_X4_draw rfl rfl rfl kdV_X4_draw ⟨Nat.le_of_ble_eq_true rfl, Nat.le_of_ble_eq_true rfl⟩) 0 rfl rfl [0] [1, 2, 3] rfl rfl ⟨⟨_, rfl, rfl⟩, ⟨⟨_, rfl, rfl⟩, ⟨⟨_, rfl, rfl⟩, trivial⟩⟩⟩ rfl (by decide +kernel) (adl := [a_t]) rfl rfl rfl rfl rfl (Nat.le_of_ble_eq_true rfl) ⟨Nat.le_refl _, Nat.le_refl _⟩ dX4_daysOnce_17 rfl ?_
  refine pb_istore (lv' := [(5, .int r17.1), (0, .ref a_t), (1, .ref a_p1), (2, .int p2), (3, .int p3), (4, .int p4)]) (pc := 20) C dX4_daysOnce_20 (by decide) rfl ?_
  refine pb_iload (pc := 22) C dX4_daysOnce_22 0 rfl ?_
  refine pb_if_lt (pc := 24) (tgt := 36) C dX4_daysOnce_24 (by decide) (fun hc24 => ?_) (fun hc24 => ?_)
  · have hf := pb_pos hf hc24
    refine pb_iconst (v := 0) (pc := 36) C dX4_daysOnce_36 pb_kI_0 ?_
    obtain rfl := Option.some.inj hf
    exact pb_iret (pc := 37) C hr hlk hA dX4_daysOnce_37
  · have hf := pb_neg hf hc24
    refine pb_iload (pc := 27) C dX4_daysOnce_27 0 rfl ?_
    refine pb_aload_n (pc := 29) C dX4_daysOnce_29 rfl 1 rfl ?_
    refine pb_get (pc := 30) C hnX4_daysOnce_X4 0 rfl rfl 1 (by decide) (List.mem_of_getElem? (i := 2) rfl) rfl rfl dX4_daysOnce_30 ?_
    refine pb_icmp_lt (pc := 33) (tgt := 38) C dX4_daysOnce_33 (by decide) (fun hc33 => ?_) (fun hc33 => ?_)
    · have hf := pb_pos hf hc33
      refine pb_aload_n (pc := 38) C dX4_daysOnce_38 rfl 1 rfl ?_
      refine pb_get (pc := 39) C hnX4_daysOnce_X4 0 rfl rfl 0 (by decide) (List.mem_of_getElem? (i := 1) rfl) rfl rfl dX4_daysOnce_39 ?_
      refine pb_iload (pc := 42) C dX4_daysOnce_42 0 rfl ?_
      obtain ⟨g44, hf⟩ := pb_grd hf
      refine pb_iald (pc := 44) C 1 1 rfl rfl g44 dX4_daysOnce_44 ?_
      obtain ⟨x45, ex45, hf⟩ := pb_bind hf
      have ex45 := Option.some.inj ex45
      refine pb_topi ex45 ?_
      refine pb_istore (lv' := [(6, .int x45), (5, .int r17.1), (0, .ref a_t), (1, .ref a_p1), (2, .int p2), (3, .int p3), (4, .int p4)]) (pc := 45) C dX4_daysOnce_45 (by decide) rfl ?_
      refine pb_iconst (v := 0) (pc := 47) C dX4_daysOnce_47 pb_kI_0 ?_
      refine pb_istore (lv' := [(7, .int 0), (6, .int x45), (5, .int r17.1), (0, .ref a_t), (1, .ref a_p1), (2, .int p2), (3, .int p3), (4, .int p4)]) (pc := 48) C dX4_daysOnce_48 (by decide) rfl ?_
      refine pb_iconst (v := 0) (pc := 50) C dX4_daysOnce_50 pb_kI_0 ?_
      refine pb_istore (lv' := [(8, .int 0), (7, .int 0), (6, .int x45), (5, .int r17.1), (0, .ref a_t), (1, .ref a_p1), (2, .int p2), (3, .int p3), (4, .int p4)]) (pc := 51) C dX4_daysOnce_51 (by decide) rfl ?_
      refine pb_aload_n (pc := 53) C dX4_daysOnce_53 rfl 4 rfl ?_
      refine pb_iload_n (pc := 54) C dX4_daysOnce_54 rfl 6 rfl ?_
      refine pb_iload_n (pc := 55) C dX4_daysOnce_55 rfl 7 rfl ?_
      refine pb_iload (pc := 56) C dX4_daysOnce_56 8 rfl ?_
      obtain ⟨r58, hr58, hf⟩ := pb_bind hf
      refine pb_callV (pc := 58) (n0 := 4) (ws' := (wwX4_daysOnce cyB cyI cyJ cyZ cyS a_t a_t_left a_p1 a_p1_open a_p1_weight r6.1 r17.2 r6.2 c_p1_total c_p1_stale c_p1_weight)) (rest := []) (st2 := [.int r58]) C (kcX4_isOpen l dC dI cyB cyI cyJ cyZ cyS a_t a_t_left r6.1 r17.2 r6.2 p2 p3 p4 r58 hr58) pb_NW_b (pb_NW_x hX) (cwV 3 C.1.2.2.2.2 gX4_daysOnce_X4_isOpen rfl rfl rfl kdV_X4_isOpen ⟨Nat.le_of_ble_eq_true rfl, Nat.le_of_ble_eq_true rfl⟩) 0 rfl rfl [0, 1] [2, 3] rfl rfl ⟨⟨_, rfl, rfl⟩, ⟨⟨_, rfl, rfl⟩, trivial⟩⟩ rfl (by decide +kernel) (adl := [a_t, a_t_left]) rfl rfl rfl rfl rfl (Nat.le_of_ble_eq_true rfl) ⟨Nat.le_refl _, Nat.le_refl _⟩ dX4_daysOnce_58 rfl ?_
      refine pb_istore (lv' := [(9, .int r58), (8, .int 0), (7, .int 0), (6, .int x45), (5, .int r17.1), (0, .ref a_t), (1, .ref a_p1), (2, .int p2), (3, .int p3), (4, .int p4)]) (pc := 61) C dX4_daysOnce_61 (by decide) rfl ?_
      obtain ⟨z63, hz63, hk63⟩ := pb_bind hf
      have E63 : ∀ (e63_7 : Int32) (e63_8 : Int32) (e63_9 : Int32) (e63_c_t_leftCount : Int32) (e63_c_t_x : Int64) (e63_c_t_left : (Nat → Int32)), fX4_daysOnce_E63 e63_7 e63_8 e63_9 e63_c_t_leftCount e63_c_t_x e63_c_t_left = some out → pb_V p l e rmX4_daysOnce s m (([.ref a_t, .ref a_p1, .int p2, .int p3, .int p4] : List Value).toArray) below meth c 11 (dC, dI) vwCl A 0 0 (pb_MQ below (([.ref a_t, .ref a_p1, .int p2, .int p3, .int p4] : List Value).toArray) s (dC, dI) vwCl (wwX4_daysOnce cyB cyI cyJ cyZ cyS a_t a_t_left a_p1 a_p1_open a_p1_weight c_t_leftCount c_t_x c_t_left c_p1_total c_p1_stale c_p1_weight) (wwX4_daysOnce cyB cyI cyJ cyZ cyS a_t a_t_left a_p1 a_p1_open a_p1_weight out.2.1 out.2.2.1 out.2.2.2 c_p1_total c_p1_stale c_p1_weight) (some (.int out.1)) A) (wwX4_daysOnce cyB cyI cyJ cyZ cyS a_t a_t_left a_p1 a_p1_open a_p1_weight e63_c_t_leftCount e63_c_t_x e63_c_t_left c_p1_total c_p1_stale c_p1_weight) [(8, .int e63_8)] [] 131 := by
        intro e63_7 e63_8 e63_9 e63_c_t_leftCount e63_c_t_x e63_c_t_left hf
        unfold fX4_daysOnce_E63 at hf
        refine pb_iload (pc := 131) C dX4_daysOnce_131 0 rfl ?_
        obtain rfl := Option.some.inj hf
        exact pb_iret (pc := 133) C hr hlk hA dX4_daysOnce_133
      have L63 : ∀ (n : Nat) (l63_7 : Int32) (l63_8 : Int32) (l63_9 : Int32) (l63_c_t_leftCount : Int32) (l63_c_t_x : Int64) (l63_c_t_left : (Nat → Int32)), pb_lp (fun y => fX4_daysOnce_L63 p2 p3 p4 x45 y.1 y.2.1 y.2.2.1 y.2.2.2.1 y.2.2.2.2.1 y.2.2.2.2.2) n (l63_7, l63_8, l63_9, l63_c_t_leftCount, l63_c_t_x, l63_c_t_left) = some z63 → pb_V p l e rmX4_daysOnce s m (([.ref a_t, .ref a_p1, .int p2, .int p3, .int p4] : List Value).toArray) below meth c 11 (dC, dI) vwCl A 0 0 (pb_MQ below (([.ref a_t, .ref a_p1, .int p2, .int p3, .int p4] : List Value).toArray) s (dC, dI) vwCl (wwX4_daysOnce cyB cyI cyJ cyZ cyS a_t a_t_left a_p1 a_p1_open a_p1_weight c_t_leftCount c_t_x c_t_left c_p1_total c_p1_stale c_p1_weight) (wwX4_daysOnce cyB cyI cyJ cyZ cyS a_t a_t_left a_p1 a_p1_open a_p1_weight out.2.1 out.2.2.1 out.2.2.2 c_p1_total c_p1_stale c_p1_weight) (some (.int out.1)) A) (wwX4_daysOnce cyB cyI cyJ cyZ cyS a_t a_t_left a_p1 a_p1_open a_p1_weight l63_c_t_leftCount l63_c_t_x l63_c_t_left c_p1_total c_p1_stale c_p1_weight) [(0, .ref a_t), (2, .int p2), (3, .int p3), (4, .int p4), (6, .int x45), (7, .int l63_7), (8, .int l63_8), (9, .int l63_9)] [] 63 := by
        intro n
        induction n with
        | zero => intro l63_7 l63_8 l63_9 l63_c_t_leftCount l63_c_t_x l63_c_t_left hf; exact (pb_lp_zero hf).elim
        | succ n ih63 =>
          intro l63_7 l63_8 l63_9 l63_c_t_leftCount l63_c_t_x l63_c_t_left hf
          obtain ⟨y63, hf, hl63⟩ := pb_lp_succ hf
          have hf : fX4_daysOnce_L63 p2 p3 p4 x45 l63_7 l63_8 l63_9 l63_c_t_leftCount l63_c_t_x l63_c_t_left = some y63 := hf
          unfold fX4_daysOnce_L63 at hf
          refine pb_iload (pc := 63) C dX4_daysOnce_63 6 rfl ?_
          refine pb_bipush (v := 40) (pc := 65) C dX4_daysOnce_65 pb_kB_40 ?_
          refine pb_icmp_ge (pc := 67) (tgt := 131) C dX4_daysOnce_67 (by decide) (fun hc67 => ?_) (fun hc67 => ?_)
          · have hf := pb_pos hf hc67
            obtain rfl := Option.some.inj hf
            obtain rfl := pb_esc hl63
            refine pb_sub [6] rfl ?_
            exact E63 l63_7 l63_8 l63_9 l63_c_t_leftCount l63_c_t_x l63_c_t_left hk63
          · have hf := pb_neg hf hc67
            refine pb_iload (pc := 70) C dX4_daysOnce_70 7 rfl ?_
            refine pb_if_eq (pc := 72) (tgt := 131) C dX4_daysOnce_72 (by decide) (fun hc72 => ?_) (fun hc72 => ?_)
            · have hf := pb_pos hf hc72
              obtain rfl := Option.some.inj hf
              obtain rfl := pb_esc hl63
              refine pb_sub [6] rfl ?_
              exact E63 l63_7 l63_8 l63_9 l63_c_t_leftCount l63_c_t_x l63_c_t_left hk63
            · have hf := pb_neg hf hc72
              refine pb_aload_n (pc := 75) C dX4_daysOnce_75 rfl 0 rfl ?_
              refine pb_bipush (v := 7) (pc := 76) C dX4_daysOnce_76 pb_kB_7 ?_
              obtain ⟨r78, hr78, hf⟩ := pb_bind hf
              refine pb_callV (pc := 78) (n0 := 4) (ws' := (wwX4_daysOnce cyB cyI cyJ cyZ cyS a_t a_t_left a_p1 a_p1_open a_p1_weight l63_c_t_leftCount r78.2 l63_c_t_left c_p1_total c_p1_stale c_p1_weight)) (rest := []) (st2 := [.int r78.1]) C (kcX4_draw l dC dI cyB cyI cyJ cyZ cyS a_t a_t_left l63_c_t_leftCount l63_c_t_x 7 r78 hr78) pb_NW_b (pb_NW_x hX) (cwV 1 C.1.2.2.2.2 gX4_daysOnce_X4_draw rfl rfl rfl kdV_X4_draw ⟨Nat.le_of_ble_eq_true rfl, Nat.le_of_ble_eq_true rfl⟩) 0 rfl rfl [0] [1, 2, 3] rfl rfl ⟨⟨_, rfl, rfl⟩, ⟨⟨_, rfl, rfl⟩, ⟨⟨_, rfl, rfl⟩, trivial⟩⟩⟩ rfl (by decide +kernel) (adl := [a_t]) rfl rfl rfl rfl rfl (Nat.le_of_ble_eq_true rfl) ⟨Nat.le_refl _, Nat.le_refl _⟩ dX4_daysOnce_78 rfl ?_
              refine pb_istore (lv' := [(10, .int r78.1), (0, .ref a_t), (2, .int p2), (3, .int p3), (4, .int p4), (6, .int x45), (7, .int l63_7), (8, .int l63_8), (9, .int l63_9)]) (pc := 81) C dX4_daysOnce_81 (by decide) rfl ?_
              refine pb_iload (pc := 83) C dX4_daysOnce_83 6 rfl ?_
              refine pb_iload (pc := 85) C dX4_daysOnce_85 0 rfl ?_
              obtain ⟨r87, hr87, hf⟩ := pb_bind hf
              refine pb_callSN (host := "PastBets") (pc := 87) (n0 := 4) (ws' := (wwX4_daysOnce cyB cyI cyJ cyZ cyS a_t a_t_left a_p1 a_p1_open a_p1_weight l63_c_t_leftCount r78.2 l63_c_t_left c_p1_total c_p1_stale c_p1_weight)) (rest := []) (st2 := [.int r87]) C (kcX7_wasSo l dC dI cyB cyI cyJ cyZ cyS l63_7 r78.1 r87 hr87) pb_NW_b (pb_NW_x hX) ⟨va_cnB 2 C.1.2.2.2.2 gX4_daysOnce_X7_wasSo_n45 rfl rfl rfl hX.2.2.2.2.2.2.2.2.1 (C.1.2.2.2.2 _ (List.mem_of_getElem? (i := 24) rfl)) kdS_X7_wasSo ⟨Nat.le_of_ble_eq_true rfl, Nat.le_of_ble_eq_true rfl⟩, C.1.2.2.2.2 _ (List.mem_of_getElem? (i := 27) rfl), trivial⟩ [] [0, 1, 2, 3] rfl rfl ⟨⟨_, rfl, rfl⟩, ⟨⟨_, rfl, rfl⟩, ⟨⟨_, rfl, rfl⟩, ⟨⟨_, rfl, rfl⟩, trivial⟩⟩⟩⟩ rfl (by decide +kernel) (adl := []) rfl rfl rfl rfl rfl (Nat.le_of_ble_eq_true rfl) ⟨Nat.le_refl _, Nat.le_refl _⟩ dX4_daysOnce_87 rfl ?_
              refine pb_if_ne (pc := 90) (tgt := 125) C dX4_daysOnce_90 (by decide) (fun hc90 => ?_) (fun hc90 => ?_)
              · have hf := pb_neg hf hc90
                refine pb_iinc (v := l63_8 + 1) (lv' := [(8, .int (l63_8 + 1)), (10, .int r78.1), (0, .ref a_t), (2, .int p2), (3, .int p3), (4, .int p4), (6, .int x45), (7, .int l63_7), (9, .int l63_9)]) (pc := 125) C dX4_daysOnce_125 7 rfl (pb_inc pb_kI_1 rfl) (by decide) rfl ?_
                refine pb_goto (pc := 128) (tgt := 63) C dX4_daysOnce_128 (by decide) ?_
                obtain rfl := Option.some.inj hf
                refine pb_sub [2, 3, 4, 5, 6, 7, 0, 8] rfl ?_
                have hl63 := pb_inl hl63
                exact ih63 l63_7 (l63_8 + 1) l63_9 l63_c_t_leftCount r78.2 l63_c_t_left hl63
              · have hf := pb_pos hf hc90
                refine pb_iload (pc := 93) C dX4_daysOnce_93 6 rfl ?_
                refine pb_iconst (v := 1) (pc := 95) C dX4_daysOnce_95 pb_kI_1 ?_
                refine pb_iload (pc := 96) C dX4_daysOnce_96 0 rfl ?_
                refine pb_ishl (pc := 98) C dX4_daysOnce_98 ?_
                refine pb_ior (pc := 99) C dX4_daysOnce_99 ?_
                obtain ⟨x100, ex100, hf⟩ := pb_bind hf
                have ex100 := Option.some.inj ex100
                refine pb_topi ex100 ?_
                refine pb_istore (lv' := [(7, .int x100), (10, .int r78.1), (0, .ref a_t), (2, .int p2), (3, .int p3), (4, .int p4), (6, .int x45), (8, .int l63_8), (9, .int l63_9)]) (pc := 100) C dX4_daysOnce_100 (by decide) rfl ?_
                refine pb_aload_n (pc := 102) C dX4_daysOnce_102 rfl 2 rfl ?_
                refine pb_iload (pc := 103) C dX4_daysOnce_103 1 rfl ?_
                refine pb_iload (pc := 105) C dX4_daysOnce_105 6 rfl ?_
                refine pb_iload (pc := 107) C dX4_daysOnce_107 1 rfl ?_
                obtain ⟨r109, hr109, hf⟩ := pb_bind hf
                refine pb_callSN (host := "PastBets") (pc := 109) (n0 := 4) (ws' := (wwX4_daysOnce cyB cyI cyJ cyZ cyS a_t a_t_left a_p1 a_p1_open a_p1_weight l63_c_t_leftCount r78.2 l63_c_t_left c_p1_total c_p1_stale c_p1_weight)) (rest := [.int r78.1, .ref a_t]) (st2 := [.int r109, .int r78.1, .ref a_t]) C (kcX7_wasSo l dC dI cyB cyI cyJ cyZ cyS x45 r78.1 r109 hr109) pb_NW_b (pb_NW_x hX) ⟨va_cnB 2 C.1.2.2.2.2 gX4_daysOnce_X7_wasSo_n45 rfl rfl rfl hX.2.2.2.2.2.2.2.2.1 (C.1.2.2.2.2 _ (List.mem_of_getElem? (i := 24) rfl)) kdS_X7_wasSo ⟨Nat.le_of_ble_eq_true rfl, Nat.le_of_ble_eq_true rfl⟩, C.1.2.2.2.2 _ (List.mem_of_getElem? (i := 27) rfl), trivial⟩ [] [0, 1, 2, 3] rfl rfl ⟨⟨_, rfl, rfl⟩, ⟨⟨_, rfl, rfl⟩, ⟨⟨_, rfl, rfl⟩, ⟨⟨_, rfl, rfl⟩, trivial⟩⟩⟩⟩ rfl (by decide +kernel) (adl := []) rfl rfl rfl rfl rfl (Nat.le_of_ble_eq_true rfl) ⟨Nat.le_refl _, Nat.le_refl _⟩ dX4_daysOnce_109 rfl ?_
                obtain ⟨r112, hr112, hf⟩ := pb_bind hf
                refine pb_callV (pc := 112) (n0 := 4) (ws' := (wwX4_daysOnce cyB cyI cyJ cyZ cyS a_t a_t_left a_p1 a_p1_open a_p1_weight r112.1 r78.2 r112.2 c_p1_total c_p1_stale c_p1_weight)) (rest := []) (st2 := []) C (kcX4_narrow l dC dI cyB cyI cyJ cyZ cyS a_t a_t_left l63_c_t_leftCount r78.2 l63_c_t_left r78.1 r109 r112 hr112) pb_NW_b (pb_NW_x hX) (cwV 2 C.1.2.2.2.2 gX4_daysOnce_X4_narrow rfl rfl rfl kdV_X4_narrow ⟨Nat.le_of_ble_eq_true rfl, Nat.le_of_ble_eq_true rfl⟩) 0 rfl rfl [0, 1] [2, 3] rfl rfl ⟨⟨_, rfl, rfl⟩, ⟨⟨_, rfl, rfl⟩, trivial⟩⟩ rfl (by decide +kernel) (adl := [a_t, a_t_left]) rfl rfl rfl rfl rfl (Nat.le_of_ble_eq_true rfl) ⟨Nat.le_refl _, Nat.le_refl _⟩ dX4_daysOnce_112 rfl ?_
                refine pb_aload_n (pc := 115) C dX4_daysOnce_115 rfl 2 rfl ?_
                refine pb_iload_n (pc := 116) C dX4_daysOnce_116 rfl 3 rfl ?_
                refine pb_iload_n (pc := 117) C dX4_daysOnce_117 rfl 4 rfl ?_
                refine pb_iload (pc := 118) C dX4_daysOnce_118 5 rfl ?_
                obtain ⟨r120, hr120, hf⟩ := pb_bind hf
                refine pb_callV (pc := 120) (n0 := 4) (ws' := (wwX4_daysOnce cyB cyI cyJ cyZ cyS a_t a_t_left a_p1 a_p1_open a_p1_weight r112.1 r78.2 r112.2 c_p1_total c_p1_stale c_p1_weight)) (rest := []) (st2 := [.int r120]) C (kcX4_isOpen l dC dI cyB cyI cyJ cyZ cyS a_t a_t_left r112.1 r78.2 r112.2 p2 p3 p4 r120 hr120) pb_NW_b (pb_NW_x hX) (cwV 3 C.1.2.2.2.2 gX4_daysOnce_X4_isOpen rfl rfl rfl kdV_X4_isOpen ⟨Nat.le_of_ble_eq_true rfl, Nat.le_of_ble_eq_true rfl⟩) 0 rfl rfl [0, 1] [2, 3] rfl rfl ⟨⟨_, rfl, rfl⟩, ⟨⟨_, rfl, rfl⟩, trivial⟩⟩ rfl (by decide +kernel) (adl := [a_t, a_t_left]) rfl rfl rfl rfl rfl (Nat.le_of_ble_eq_true rfl) ⟨Nat.le_refl _, Nat.le_refl _⟩ dX4_daysOnce_120 rfl ?_
                refine pb_istore (lv' := [(9, .int r120), (7, .int x100), (10, .int r78.1), (0, .ref a_t), (2, .int p2), (3, .int p3), (4, .int p4), (6, .int x45), (8, .int l63_8)]) (pc := 123) C dX4_daysOnce_123 (by decide) rfl ?_
                refine pb_iinc (v := l63_8 + 1) (lv' := [(8, .int (l63_8 + 1)), (9, .int r120), (7, .int x100), (10, .int r78.1), (0, .ref a_t), (2, .int p2), (3, .int p3), (4, .int p4), (6, .int x45)]) (pc := 125) C dX4_daysOnce_125 8 rfl (pb_inc pb_kI_1 rfl) (by decide) rfl ?_
                refine pb_goto (pc := 128) (tgt := 63) C dX4_daysOnce_128 (by decide) ?_
                obtain rfl := Option.some.inj hf
                refine pb_sub [4, 5, 6, 7, 8, 2, 0, 1] rfl ?_
                have hl63 := pb_inl hl63
                exact ih63 x100 (l63_8 + 1) r120 r112.1 r78.2 r112.2 hl63
      refine pb_sub [5, 7, 8, 9, 3, 2, 1, 0] rfl ?_
      exact L63 pb_FU 0 0 r58 r6.1 r17.2 r6.2 hz63
    · have hf := pb_neg hf hc33
      refine pb_iconst (v := 0) (pc := 36) C dX4_daysOnce_36 pb_kI_0 ?_
      obtain rfl := Option.some.inj hf
      exact pb_iret (pc := 37) C hr hlk hA dX4_daysOnce_37
