def rmX3_isWord : Room := { frames := 4, cells := 0, slots := 0, locals := 85 }
def wwX3_isWord (cyB cyI cyJ cyZ cyS : ClassId) (a_t a_t_bytes a_t_numbers : Nat) (c_t_size : Int32) (c_t_place : Int32) (c_t_behind : Int32) (c_t_sort : Int32) (c_t_bytes : (Nat → Int32)) : va_W := [(a_t, .inr (3, [.ref a_t_bytes, .ref a_t_numbers, .int c_t_size, .int c_t_place, .int c_t_behind, .int c_t_sort])), (a_t_bytes, .inl (cyB, 150, .inl c_t_bytes))]
theorem hnX3_isWord_X3 : ∀ w ∈ wsX30, w ∈ wsX3_isWord := fun _ h => List.mem_cons_of_mem _ (List.mem_append_right _ h)
set_option maxHeartbeats 4000000 in
set_option maxRecDepth 100000 in
theorem kcX3_isWord (l : Launch) (dC : Nat → ClassId) (dI : Nat → Nat → Nat) (cyB cyI cyJ cyZ cyS : ClassId) (k v t : Nat → Nat) (i_p1 : Nat) (hi_p1 : i_p1 < 4) (n_p1 : Nat) (hn_p1 : n_p1 = pb_lens.getD i_p1 0) (c_p1 : Nat → Int32) (hc_p1 : c_p1 = pb_chr i_p1) (a_t a_t_bytes a_t_numbers : Nat) (c_t_size : Int32) (c_t_place : Int32) (c_t_behind : Int32) (c_t_sort : Int32) (c_t_bytes : (Nat → Int32)) (out : Int32) (hf : fX3_isWord n_p1 c_p1 c_t_size c_t_place c_t_behind c_t_bytes = some out) : pb_K l yX3_isWord wsX3_isWord rmX3_isWord (dC, dI) vwCl (pb_tys cyB cyI cyJ cyZ cyS) (pb_X k v t (wwX3_isWord cyB cyI cyJ cyZ cyS a_t a_t_bytes a_t_numbers c_t_size c_t_place c_t_behind c_t_sort c_t_bytes)) [.ref a_t, .ref (k i_p1)] (wwX3_isWord cyB cyI cyJ cyZ cyS a_t a_t_bytes a_t_numbers c_t_size c_t_place c_t_behind c_t_sort c_t_bytes) (wwX3_isWord cyB cyI cyJ cyZ cyS a_t a_t_bytes a_t_numbers c_t_size c_t_place c_t_behind c_t_sort c_t_bytes) (some (.int out)) := by
  unfold fX3_isWord at hf
  refine pb_K.ofV (cc := cX3_isWord) (maxL := 3) (ret := (some .boolean)) (lv0 := [(0, .ref a_t), (1, .ref (k i_p1))]) (by decide) rfl (Nat.le_of_ble_eq_true rfl) rfl ?_
  intro p e s m below meth c A C hX hr hlk hA
  have hE := hX.2
  rw [hA] at hE
  refine pb_aload_n (pc := 0) C dX3_isWord_0 rfl 0 rfl ?_
  refine pb_get (pc := 1) C hnX3_isWord_X3 0 rfl rfl 4 (by decide) (List.mem_of_getElem? (i := 1) rfl) rfl rfl dX3_isWord_1 ?_
  refine pb_aload_n (pc := 4) C dX3_isWord_4 rfl 0 rfl ?_
  refine pb_get (pc := 5) C hnX3_isWord_X3 0 rfl rfl 3 (by decide) (List.mem_of_getElem? (i := 2) rfl) rfl rfl dX3_isWord_5 ?_
  refine pb_isub (pc := 8) C dX3_isWord_8 ?_
  refine pb_aload_n (pc := 9) C dX3_isWord_9 rfl 1 rfl ?_
  refine pb_callVO (pc := 10) (n0 := 2) (ws' := (wwX3_isWord cyB cyI cyJ cyZ cyS a_t a_t_bytes a_t_numbers c_t_size c_t_place c_t_behind c_t_sort c_t_bytes)) (rest := [.int (c_t_behind - c_t_place)]) (st2 := [.int (Int32.ofNat (pb_lens.getD i_p1 0)), .int (c_t_behind - c_t_place)]) C (kcJ0_length_8abf5 l dC dI cyB cyI cyJ cyZ cyS k v t i_p1 hi_p1) pb_X_b (pb_X_x hX.1 hE) (cwV 0 C.1.2.2.2.2 gX3_isWord_J0_length_8abf5 rfl rfl rfl kdV_J0_length_8abf5 ⟨Nat.le_of_ble_eq_true rfl, Nat.le_of_ble_eq_true rfl⟩) (hE.2.2.1.1 i_p1 hi_p1).1 [] [0, 1] rfl rfl ⟨⟨_, rfl, rfl⟩, ⟨⟨_, rfl, rfl⟩, trivial⟩⟩ rfl (by decide +kernel) (adl := []) rfl rfl rfl rfl rfl (Nat.le_of_ble_eq_true rfl) ⟨Nat.le_refl _, Nat.le_refl _⟩ dX3_isWord_10 rfl ?_
  refine pb_topi (y := Int32.ofNat n_p1) (by rw [hn_p1]) ?_
  refine pb_icmp_eq (pc := 13) (tgt := 18) C dX3_isWord_13 (by decide) (fun hc13 => ?_) (fun hc13 => ?_)
  · have hf := pb_pos hf hc13
    refine pb_iconst (v := 0) (pc := 18) C dX3_isWord_18 pb_kI_0 ?_
    refine pb_istore_n (lv' := [(2, .int 0), (0, .ref a_t), (1, .ref (k i_p1))]) (pc := 19) C dX3_isWord_19 rfl (by decide) rfl ?_
    obtain ⟨z20, hz20, hk20⟩ := pb_bind hf
    have E20 : ∀ (e20_2 : Int32), fX3_isWord_E20 e20_2 = some out → pb_V p l e rmX3_isWord s m (([.ref a_t, .ref (k i_p1)] : List Value).toArray) below meth c 3 (dC, dI) vwCl A 0 0 (pb_MQ below (([.ref a_t, .ref (k i_p1)] : List Value).toArray) s (dC, dI) vwCl (wwX3_isWord cyB cyI cyJ cyZ cyS a_t a_t_bytes a_t_numbers c_t_size c_t_place c_t_behind c_t_sort c_t_bytes) (wwX3_isWord cyB cyI cyJ cyZ cyS a_t a_t_bytes a_t_numbers c_t_size c_t_place c_t_behind c_t_sort c_t_bytes) (some (.int out)) A) (wwX3_isWord cyB cyI cyJ cyZ cyS a_t a_t_bytes a_t_numbers c_t_size c_t_place c_t_behind c_t_sort c_t_bytes) [] [] 68 := by
      intro e20_2 hf
      unfold fX3_isWord_E20 at hf
      refine pb_iconst (v := 1) (pc := 68) C dX3_isWord_68 pb_kI_1 ?_
      obtain rfl := Option.some.inj hf
      exact pb_zret (pc := 69) C hr hlk hA pb_isB1 dX3_isWord_69
    have L20 : ∀ (n : Nat) (l20_2 : Int32), pb_lp (fun y => fX3_isWord_L20 n_p1 c_p1 c_t_size c_t_place c_t_bytes y) n l20_2 = some z20 → pb_V p l e rmX3_isWord s m (([.ref a_t, .ref (k i_p1)] : List Value).toArray) below meth c 3 (dC, dI) vwCl A 0 0 (pb_MQ below (([.ref a_t, .ref (k i_p1)] : List Value).toArray) s (dC, dI) vwCl (wwX3_isWord cyB cyI cyJ cyZ cyS a_t a_t_bytes a_t_numbers c_t_size c_t_place c_t_behind c_t_sort c_t_bytes) (wwX3_isWord cyB cyI cyJ cyZ cyS a_t a_t_bytes a_t_numbers c_t_size c_t_place c_t_behind c_t_sort c_t_bytes) (some (.int out)) A) (wwX3_isWord cyB cyI cyJ cyZ cyS a_t a_t_bytes a_t_numbers c_t_size c_t_place c_t_behind c_t_sort c_t_bytes) [(0, .ref a_t), (1, .ref (k i_p1)), (2, .int l20_2)] [] 20 := by
      intro n
      induction n with
      | zero => intro l20_2 hf; exact (pb_lp_zero hf).elim
      | succ n ih20 =>
        intro l20_2 hf
        obtain ⟨y20, hf, hl20⟩ := pb_lp_succ hf
        have hf : fX3_isWord_L20 n_p1 c_p1 c_t_size c_t_place c_t_bytes l20_2 = some y20 := hf
        unfold fX3_isWord_L20 at hf
        refine pb_iload_n (pc := 20) C dX3_isWord_20 rfl 2 rfl ?_
        refine pb_aload_n (pc := 21) C dX3_isWord_21 rfl 1 rfl ?_
        refine pb_callVO (pc := 22) (n0 := 2) (ws' := (wwX3_isWord cyB cyI cyJ cyZ cyS a_t a_t_bytes a_t_numbers c_t_size c_t_place c_t_behind c_t_sort c_t_bytes)) (rest := [.int l20_2]) (st2 := [.int (Int32.ofNat (pb_lens.getD i_p1 0)), .int l20_2]) C (kcJ0_length_8abf5 l dC dI cyB cyI cyJ cyZ cyS k v t i_p1 hi_p1) pb_X_b (pb_X_x hX.1 hE) (cwV 0 C.1.2.2.2.2 gX3_isWord_J0_length_8abf5 rfl rfl rfl kdV_J0_length_8abf5 ⟨Nat.le_of_ble_eq_true rfl, Nat.le_of_ble_eq_true rfl⟩) (hE.2.2.1.1 i_p1 hi_p1).1 [] [0, 1] rfl rfl ⟨⟨_, rfl, rfl⟩, ⟨⟨_, rfl, rfl⟩, trivial⟩⟩ rfl (by decide +kernel) (adl := []) rfl rfl rfl rfl rfl (Nat.le_of_ble_eq_true rfl) ⟨Nat.le_refl _, Nat.le_refl _⟩ dX3_isWord_22 rfl ?_
        refine pb_topi (y := Int32.ofNat n_p1) (by rw [hn_p1]) ?_
        refine pb_icmp_ge (pc := 25) (tgt := 68) C dX3_isWord_25 (by decide) (fun hc25 => ?_) (fun hc25 => ?_)
        · have hf := pb_pos hf hc25
          obtain rfl := Option.some.inj hf
          obtain rfl := pb_esc hl20
          refine pb_sub [] rfl ?_
          have hk20 := pb_inl hk20
          exact E20 l20_2 hk20
        · have hf := pb_neg hf hc25
          refine pb_aload_n (pc := 28) C dX3_isWord_28 rfl 0 rfl ?_
          refine pb_get (pc := 29) C hnX3_isWord_X3 0 rfl rfl 3 (by decide) (List.mem_of_getElem? (i := 2) rfl) rfl rfl dX3_isWord_29 ?_
          refine pb_iload_n (pc := 32) C dX3_isWord_32 rfl 2 rfl ?_
          refine pb_iadd (pc := 33) C dX3_isWord_33 ?_
          refine pb_aload_n (pc := 34) C dX3_isWord_34 rfl 0 rfl ?_
          refine pb_get (pc := 35) C hnX3_isWord_X3 0 rfl rfl 2 (by decide) (List.mem_of_getElem? (i := 3) rfl) rfl rfl dX3_isWord_35 ?_
          refine pb_icmp_ge (pc := 38) (tgt := 68) C dX3_isWord_38 (by decide) (fun hc38 => ?_) (fun hc38 => ?_)
          · have hf := pb_pos hf hc38
            obtain rfl := Option.some.inj hf
            obtain rfl := pb_esc hl20
            refine pb_sub [] rfl ?_
            have hk20 := pb_inl hk20
            exact E20 l20_2 hk20
          · have hf := pb_neg hf hc38
            refine pb_aload_n (pc := 41) C dX3_isWord_41 rfl 0 rfl ?_
            refine pb_get (pc := 42) C hnX3_isWord_X3 0 rfl rfl 0 (by decide) (List.mem_of_getElem? (i := 4) rfl) rfl rfl dX3_isWord_42 ?_
            refine pb_aload_n (pc := 45) C dX3_isWord_45 rfl 0 rfl ?_
            refine pb_get (pc := 46) C hnX3_isWord_X3 0 rfl rfl 3 (by decide) (List.mem_of_getElem? (i := 2) rfl) rfl rfl dX3_isWord_46 ?_
            refine pb_iload_n (pc := 49) C dX3_isWord_49 rfl 2 rfl ?_
            refine pb_iadd (pc := 50) C dX3_isWord_50 ?_
            obtain ⟨g51, hf⟩ := pb_grd hf
            refine pb_bald (pc := 51) C 1 0 rfl rfl g51 dX3_isWord_51 ?_
            refine pb_aload_n (pc := 52) C dX3_isWord_52 rfl 1 rfl ?_
            refine pb_iload_n (pc := 53) C dX3_isWord_53 rfl 2 rfl ?_
            obtain ⟨g54, hf⟩ := pb_grd hf
            refine pb_callVO (pc := 54) (n0 := 2) (ws' := (wwX3_isWord cyB cyI cyJ cyZ cyS a_t a_t_bytes a_t_numbers c_t_size c_t_place c_t_behind c_t_sort c_t_bytes)) (rest := [.int (c_t_bytes (Int32.toNatClampNeg (c_t_place + l20_2)))]) (st2 := [.int (pb_chr i_p1 (Int32.toNatClampNeg l20_2)), .int (c_t_bytes (Int32.toNatClampNeg (c_t_place + l20_2)))]) C (kcJ0_charAt_5068e l dC dI cyB cyI cyJ cyZ cyS k v t i_p1 hi_p1 l20_2 (hn_p1 ▸ g54)) pb_X_b (pb_X_x hX.1 hE) (cwV 1 C.1.2.2.2.2 gX3_isWord_J0_charAt_5068e rfl rfl rfl kdV_J0_charAt_5068e ⟨Nat.le_of_ble_eq_true rfl, Nat.le_of_ble_eq_true rfl⟩) (hE.2.2.1.1 i_p1 hi_p1).1 [] [0, 1] rfl rfl ⟨⟨_, rfl, rfl⟩, ⟨⟨_, rfl, rfl⟩, trivial⟩⟩ rfl (by decide +kernel) (adl := []) rfl rfl rfl rfl rfl (Nat.le_of_ble_eq_true rfl) ⟨Nat.le_refl _, Nat.le_refl _⟩ dX3_isWord_54 rfl ?_
            refine pb_topi (y := c_p1 (Int32.toNatClampNeg l20_2)) (by rw [hc_p1]) ?_
            refine pb_icmp_eq (pc := 57) (tgt := 62) C dX3_isWord_57 (by decide) (fun hc57 => ?_) (fun hc57 => ?_)
            · have hf := pb_pos hf hc57
              refine pb_iinc (v := l20_2 + 1) (lv' := [(2, .int (l20_2 + 1)), (0, .ref a_t), (1, .ref (k i_p1))]) (pc := 62) C dX3_isWord_62 2 rfl (pb_inc pb_kI_1 rfl) (by decide) rfl ?_
              refine pb_goto (pc := 65) (tgt := 20) C dX3_isWord_65 (by decide) ?_
              obtain rfl := Option.some.inj hf
              refine pb_sub [1, 2, 0] rfl ?_
              have hl20 := pb_inl hl20
              exact ih20 (l20_2 + 1) hl20
            · have hf := pb_neg hf hc57
              refine pb_iconst (v := 0) (pc := 60) C dX3_isWord_60 pb_kI_0 ?_
              obtain rfl := Option.some.inj hf
              obtain rfl := pb_esc hl20
              obtain rfl := pb_esc hk20
              exact pb_zret (pc := 61) C hr hlk hA pb_isB0 dX3_isWord_61
    refine pb_sub [1, 2, 0] rfl ?_
    exact L20 pb_FU 0 hz20
  · have hf := pb_neg hf hc13
    refine pb_iconst (v := 0) (pc := 16) C dX3_isWord_16 pb_kI_0 ?_
    obtain rfl := Option.some.inj hf
    exact pb_zret (pc := 17) C hr hlk hA pb_isB0 dX3_isWord_17
def rmX3_readRow : Room := { frames := 3, cells := 0, slots := 0, locals := 70 }
def wwX3_readRow (cyB cyI cyJ cyZ cyS : ClassId) (a_t a_t_bytes a_t_numbers a_p1 a_p1_cells : Nat) (w_p1 : Int32) (m_p1 : Int32) (n_p1 : Nat) (c_t_size : Int32) (c_t_place : Int32) (c_t_behind : Int32) (c_t_sort : Int32) (c_t_bytes : (Nat → Int32)) (c_t_numbers : (Nat → Int32)) (c_p1_size : Int32) (c_p1_cells : (Nat → Int32)) : va_W := [(a_t, .inr (3, [.ref a_t_bytes, .ref a_t_numbers, .int c_t_size, .int c_t_place, .int c_t_behind, .int c_t_sort])), (a_t_bytes, .inl (cyB, 150, .inl c_t_bytes)), (a_t_numbers, .inl (cyI, 5, .inl c_t_numbers)), (a_p1, .inr (6, [.int w_p1, .int m_p1, .ref a_p1_cells, .int c_p1_size])), (a_p1_cells, .inl (cyI, n_p1, .inl c_p1_cells))]
theorem hnX3_readRow_X3 : ∀ w ∈ wsX30, w ∈ wsX3_readRow := fun _ h => List.mem_cons_of_mem _ (List.mem_append_left _ (List.mem_append_right _ h))
set_option maxHeartbeats 4000000 in
set_option maxRecDepth 100000 in
theorem kcX3_readRow (l : Launch) (dC : Nat → ClassId) (dI : Nat → Nat → Nat) (cyB cyI cyJ cyZ cyS : ClassId) (a_p2 n_p2 : Nat) (c_p2 : Nat → Int32) (a_t a_t_bytes a_t_numbers a_p1 a_p1_cells : Nat) (w_p1 : Int32) (m_p1 : Int32) (n_p1 : Nat) (c_t_size : Int32) (c_t_place : Int32) (c_t_behind : Int32) (c_t_sort : Int32) (c_t_bytes : (Nat → Int32)) (c_t_numbers : (Nat → Int32)) (c_p1_size : Int32) (c_p1_cells : (Nat → Int32)) (out : (Int32 × Int32 × Int32 × Int32 × (Nat → Int32) × Int32 × (Nat → Int32))) (hf : fX3_readRow n_p2 c_p2 w_p1 m_p1 n_p1 c_t_size c_t_place c_t_behind c_t_sort c_t_bytes c_t_numbers c_p1_size c_p1_cells = some out) : pb_K l yX3_readRow wsX3_readRow rmX3_readRow (dC, dI) vwCl (pb_tys cyB cyI cyJ cyZ cyS) (pb_Y a_p2 n_p2 c_p2 (wwX3_readRow cyB cyI cyJ cyZ cyS a_t a_t_bytes a_t_numbers a_p1 a_p1_cells w_p1 m_p1 n_p1 c_t_size c_t_place c_t_behind c_t_sort c_t_bytes c_t_numbers c_p1_size c_p1_cells)) [.ref a_t, .ref a_p1, .ref a_p2] (wwX3_readRow cyB cyI cyJ cyZ cyS a_t a_t_bytes a_t_numbers a_p1 a_p1_cells w_p1 m_p1 n_p1 c_t_size c_t_place c_t_behind c_t_sort c_t_bytes c_t_numbers c_p1_size c_p1_cells) (wwX3_readRow cyB cyI cyJ cyZ cyS a_t a_t_bytes a_t_numbers a_p1 a_p1_cells w_p1 m_p1 n_p1 c_t_size out.2.1 out.2.2.1 out.2.2.2.1 c_t_bytes out.2.2.2.2.1 out.2.2.2.2.2.1 out.2.2.2.2.2.2) (some (.int out.1)) := by
  unfold fX3_readRow at hf
  refine pb_K.ofV (cc := cX3_readRow) (maxL := 5) (ret := (some .boolean)) (lv0 := [(0, .ref a_t), (1, .ref a_p1), (2, .ref a_p2)]) (by decide) rfl (Nat.le_of_ble_eq_true rfl) rfl ?_
  intro p e s m below meth c A C hX hr hlk hA
  have hT := hX.2
  rw [hA] at hT
  refine pb_aload_n (pc := 0) C dX3_readRow_0 rfl 1 rfl ?_
  obtain ⟨r1, hr1, hf⟩ := pb_bind hf
  refine pb_callV (pc := 1) (n0 := 5) (ws' := (wwX3_readRow cyB cyI cyJ cyZ cyS a_t a_t_bytes a_t_numbers a_p1 a_p1_cells w_p1 m_p1 n_p1 c_t_size c_t_place c_t_behind c_t_sort c_t_bytes c_t_numbers c_p1_size c_p1_cells)) (rest := []) (st2 := [.int r1]) C (kcX6_isFull l dC dI cyB cyI cyJ cyZ cyS a_p1 a_p1_cells w_p1 m_p1 c_p1_size r1 hr1) pb_NW_b (pb_NW_x hX.1) (cwV 0 C.1.2.2.2.2 gX3_readRow_X6_isFull rfl rfl rfl kdV_X6_isFull ⟨Nat.le_of_ble_eq_true rfl, Nat.le_of_ble_eq_true rfl⟩) 0 rfl rfl [3] [0, 1, 2, 4] rfl rfl ⟨⟨_, rfl, rfl⟩, ⟨⟨_, rfl, rfl⟩, ⟨⟨_, rfl, rfl⟩, ⟨⟨_, rfl, rfl⟩, trivial⟩⟩⟩⟩ rfl (by decide +kernel) (adl := [a_p1]) rfl rfl rfl rfl rfl (Nat.le_of_ble_eq_true rfl) ⟨Nat.le_refl _, Nat.le_refl _⟩ dX3_readRow_1 rfl ?_
  refine pb_if_eq (pc := 4) (tgt := 9) C dX3_readRow_4 (by decide) (fun hc4 => ?_) (fun hc4 => ?_)
  · have hf := pb_pos hf hc4
    refine pb_iconst (v := 0) (pc := 9) C dX3_readRow_9 pb_kI_0 ?_
    refine pb_istore_n (lv' := [(3, .int 0), (0, .ref a_t), (1, .ref a_p1), (2, .ref a_p2)]) (pc := 10) C dX3_readRow_10 rfl (by decide) rfl ?_
    obtain ⟨z11, hz11, hk11⟩ := pb_bind hf
    have E11 : ∀ (e11_3 : Int32) (e11_c_t_place : Int32) (e11_c_t_behind : Int32) (e11_c_t_sort : Int32) (e11_c_t_numbers : (Nat → Int32)), fX3_readRow_E11 n_p2 w_p1 m_p1 n_p1 c_t_size c_t_bytes c_p1_size c_p1_cells e11_3 e11_c_t_place e11_c_t_behind e11_c_t_sort e11_c_t_numbers = some out → pb_V p l e rmX3_readRow s m (([.ref a_t, .ref a_p1, .ref a_p2] : List Value).toArray) below meth c 5 (dC, dI) vwCl A 0 0 (pb_MQ below (([.ref a_t, .ref a_p1, .ref a_p2] : List Value).toArray) s (dC, dI) vwCl (wwX3_readRow cyB cyI cyJ cyZ cyS a_t a_t_bytes a_t_numbers a_p1 a_p1_cells w_p1 m_p1 n_p1 c_t_size c_t_place c_t_behind c_t_sort c_t_bytes c_t_numbers c_p1_size c_p1_cells) (wwX3_readRow cyB cyI cyJ cyZ cyS a_t a_t_bytes a_t_numbers a_p1 a_p1_cells w_p1 m_p1 n_p1 c_t_size out.2.1 out.2.2.1 out.2.2.2.1 c_t_bytes out.2.2.2.2.1 out.2.2.2.2.2.1 out.2.2.2.2.2.2) (some (.int out.1)) A) (wwX3_readRow cyB cyI cyJ cyZ cyS a_t a_t_bytes a_t_numbers a_p1 a_p1_cells w_p1 m_p1 n_p1 c_t_size e11_c_t_place e11_c_t_behind e11_c_t_sort c_t_bytes e11_c_t_numbers c_p1_size c_p1_cells) [(0, .ref a_t), (1, .ref a_p1), (2, .ref a_p2)] [] 80 := by
      intro e11_3 e11_c_t_place e11_c_t_behind e11_c_t_sort e11_c_t_numbers hf
      unfold fX3_readRow_E11 at hf
      refine pb_aload_n (pc := 80) C dX3_readRow_80 rfl 0 rfl ?_
      obtain ⟨r81, hr81, hf⟩ := pb_bind hf
      refine pb_callV (pc := 81) (n0 := 5) (ws' := (wwX3_readRow cyB cyI cyJ cyZ cyS a_t a_t_bytes a_t_numbers a_p1 a_p1_cells w_p1 m_p1 n_p1 c_t_size r81.1 r81.2.1 r81.2.2 c_t_bytes e11_c_t_numbers c_p1_size c_p1_cells)) (rest := []) (st2 := []) C (kcX3_takeToken l dC dI cyB cyI cyJ cyZ cyS a_t a_t_bytes a_t_numbers c_t_size e11_c_t_place e11_c_t_behind e11_c_t_sort c_t_bytes r81 hr81) pb_NW_b (pb_NW_x hX.1) (cwV 0 C.1.2.2.2.2 gX3_readRow_X3_takeToken rfl rfl rfl kdV_X3_takeToken ⟨Nat.le_of_ble_eq_true rfl, Nat.le_of_ble_eq_true rfl⟩) 0 rfl rfl [0, 1] [2, 3, 4] rfl rfl ⟨⟨_, rfl, rfl⟩, ⟨⟨_, rfl, rfl⟩, ⟨⟨_, rfl, rfl⟩, trivial⟩⟩⟩ rfl (by decide +kernel) (adl := [a_t, a_t_bytes]) rfl rfl rfl rfl rfl (Nat.le_of_ble_eq_true rfl) ⟨Nat.le_refl _, Nat.le_refl _⟩ dX3_readRow_81 rfl ?_
      refine pb_aload_n (pc := 84) C dX3_readRow_84 rfl 0 rfl ?_
      refine pb_get (pc := 85) C hnX3_readRow_X3 0 rfl rfl 5 (by decide) (List.mem_of_getElem? (i := 2) rfl) rfl rfl dX3_readRow_85 ?_
      refine pb_iconst (v := 3) (pc := 88) C dX3_readRow_88 pb_kI_3 ?_
      refine pb_icmp_eq (pc := 89) (tgt := 94) C dX3_readRow_89 (by decide) (fun hc89 => ?_) (fun hc89 => ?_)
      · have hf := pb_pos hf hc89
        refine pb_aload_n (pc := 94) C dX3_readRow_94 rfl 2 rfl ?_
        refine pb_tlen (pc := 95) (v := Int32.ofNat n_p2) C hT rfl dX3_readRow_95 ?_
        refine pb_iconst (v := 3) (pc := 96) C dX3_readRow_96 pb_kI_3 ?_
        refine pb_icmp_ne (pc := 97) (tgt := 125) C dX3_readRow_97 (by decide) (fun hc97 => ?_) (fun hc97 => ?_)
        · have hf := pb_neg hf hc97
          refine pb_aload_n (pc := 125) C dX3_readRow_125 rfl 1 rfl ?_
          refine pb_aload_n (pc := 126) C dX3_readRow_126 rfl 0 rfl ?_
          refine pb_get (pc := 127) C hnX3_readRow_X3 0 rfl rfl 1 (by decide) (List.mem_of_getElem? (i := 1) rfl) rfl rfl dX3_readRow_127 ?_
          refine pb_iconst (v := 0) (pc := 130) C dX3_readRow_130 pb_kI_0 ?_
          refine pb_iald (pc := 131) C 2 1 rfl rfl pb_ok_0_5 dX3_readRow_131 ?_
          refine pb_topi (congrArg e11_c_t_numbers pb_kN_0) ?_
          refine pb_aload_n (pc := 132) C dX3_readRow_132 rfl 0 rfl ?_
          refine pb_get (pc := 133) C hnX3_readRow_X3 0 rfl rfl 1 (by decide) (List.mem_of_getElem? (i := 1) rfl) rfl rfl dX3_readRow_133 ?_
          refine pb_iconst (v := 1) (pc := 136) C dX3_readRow_136 pb_kI_1 ?_
          refine pb_iald (pc := 137) C 2 1 rfl rfl pb_ok_1_5 dX3_readRow_137 ?_
          refine pb_topi (congrArg e11_c_t_numbers pb_kN_1) ?_
          refine pb_aload_n (pc := 138) C dX3_readRow_138 rfl 0 rfl ?_
          refine pb_get (pc := 139) C hnX3_readRow_X3 0 rfl rfl 1 (by decide) (List.mem_of_getElem? (i := 1) rfl) rfl rfl dX3_readRow_139 ?_
          refine pb_iconst (v := 2) (pc := 142) C dX3_readRow_142 pb_kI_2 ?_
          refine pb_iald (pc := 143) C 2 1 rfl rfl pb_ok_2_5 dX3_readRow_143 ?_
          refine pb_topi (congrArg e11_c_t_numbers pb_kN_2) ?_
          refine pb_aload_n (pc := 144) C dX3_readRow_144 rfl 0 rfl ?_
          refine pb_get (pc := 145) C hnX3_readRow_X3 0 rfl rfl 1 (by decide) (List.mem_of_getElem? (i := 1) rfl) rfl rfl dX3_readRow_145 ?_
          refine pb_iconst (v := 3) (pc := 148) C dX3_readRow_148 pb_kI_3 ?_
          refine pb_iald (pc := 149) C 2 1 rfl rfl pb_ok_3_5 dX3_readRow_149 ?_
          refine pb_topi (congrArg e11_c_t_numbers pb_kN_3) ?_
          refine pb_aload_n (pc := 150) C dX3_readRow_150 rfl 0 rfl ?_
          refine pb_get (pc := 151) C hnX3_readRow_X3 0 rfl rfl 1 (by decide) (List.mem_of_getElem? (i := 1) rfl) rfl rfl dX3_readRow_151 ?_
          refine pb_iconst (v := 4) (pc := 154) C dX3_readRow_154 pb_kI_4 ?_
          refine pb_iald (pc := 155) C 2 1 rfl rfl pb_ok_4_5 dX3_readRow_155 ?_
          refine pb_topi (congrArg e11_c_t_numbers pb_kN_4) ?_
          obtain ⟨r156, hr156, hf⟩ := pb_bind hf
          refine pb_callV (pc := 156) (n0 := 5) (ws' := (wwX3_readRow cyB cyI cyJ cyZ cyS a_t a_t_bytes a_t_numbers a_p1 a_p1_cells w_p1 m_p1 n_p1 c_t_size r81.1 r81.2.1 r81.2.2 c_t_bytes e11_c_t_numbers r156.1 r156.2)) (rest := []) (st2 := []) C (kcX6_addFive l dC dI cyB cyI cyJ cyZ cyS a_p1 a_p1_cells w_p1 m_p1 n_p1 c_p1_size c_p1_cells (e11_c_t_numbers 0) (e11_c_t_numbers 1) (e11_c_t_numbers 2) (e11_c_t_numbers 3) (e11_c_t_numbers 4) r156 hr156) pb_NW_b (pb_NW_x hX.1) (cwV 5 C.1.2.2.2.2 gX3_readRow_X6_addFive rfl rfl rfl kdV_X6_addFive ⟨Nat.le_of_ble_eq_true rfl, Nat.le_of_ble_eq_true rfl⟩) 0 rfl rfl [3, 4] [0, 1, 2] rfl rfl ⟨⟨_, rfl, rfl⟩, ⟨⟨_, rfl, rfl⟩, ⟨⟨_, rfl, rfl⟩, trivial⟩⟩⟩ rfl (by decide +kernel) (adl := [a_p1, a_p1_cells]) rfl rfl rfl rfl rfl (Nat.le_of_ble_eq_true rfl) ⟨Nat.le_refl _, Nat.le_refl _⟩ dX3_readRow_156 rfl ?_
          refine pb_iconst (v := 1) (pc := 159) C dX3_readRow_159 pb_kI_1 ?_
          obtain rfl := Option.some.inj hf
          exact pb_zret (pc := 160) C hr hlk hA pb_isB1 dX3_readRow_160
        · have hf := pb_pos hf hc97
          refine pb_aload_n (pc := 100) C dX3_readRow_100 rfl 1 rfl ?_
          refine pb_aload_n (pc := 101) C dX3_readRow_101 rfl 0 rfl ?_
          refine pb_get (pc := 102) C hnX3_readRow_X3 0 rfl rfl 1 (by decide) (List.mem_of_getElem? (i := 1) rfl) rfl rfl dX3_readRow_102 ?_
          refine pb_iconst (v := 0) (pc := 105) C dX3_readRow_105 pb_kI_0 ?_
          refine pb_iald (pc := 106) C 2 1 rfl rfl pb_ok_0_5 dX3_readRow_106 ?_
          refine pb_topi (congrArg e11_c_t_numbers pb_kN_0) ?_
          refine pb_aload_n (pc := 107) C dX3_readRow_107 rfl 0 rfl ?_
          refine pb_get (pc := 108) C hnX3_readRow_X3 0 rfl rfl 1 (by decide) (List.mem_of_getElem? (i := 1) rfl) rfl rfl dX3_readRow_108 ?_
          refine pb_iconst (v := 1) (pc := 111) C dX3_readRow_111 pb_kI_1 ?_
          refine pb_iald (pc := 112) C 2 1 rfl rfl pb_ok_1_5 dX3_readRow_112 ?_
          refine pb_topi (congrArg e11_c_t_numbers pb_kN_1) ?_
          refine pb_aload_n (pc := 113) C dX3_readRow_113 rfl 0 rfl ?_
          refine pb_get (pc := 114) C hnX3_readRow_X3 0 rfl rfl 1 (by decide) (List.mem_of_getElem? (i := 1) rfl) rfl rfl dX3_readRow_114 ?_
          refine pb_iconst (v := 2) (pc := 117) C dX3_readRow_117 pb_kI_2 ?_
          refine pb_iald (pc := 118) C 2 1 rfl rfl pb_ok_2_5 dX3_readRow_118 ?_
          refine pb_topi (congrArg e11_c_t_numbers pb_kN_2) ?_
          obtain ⟨r119, hr119, hf⟩ := pb_bind hf
          refine pb_callV (pc := 119) (n0 := 5) (ws' := (wwX3_readRow cyB cyI cyJ cyZ cyS a_t a_t_bytes a_t_numbers a_p1 a_p1_cells w_p1 m_p1 n_p1 c_t_size r81.1 r81.2.1 r81.2.2 c_t_bytes e11_c_t_numbers r119.1 r119.2)) (rest := []) (st2 := []) C (kcX6_addThree l dC dI cyB cyI cyJ cyZ cyS a_p1 a_p1_cells w_p1 m_p1 n_p1 c_p1_size c_p1_cells (e11_c_t_numbers 0) (e11_c_t_numbers 1) (e11_c_t_numbers 2) r119 hr119) pb_NW_b (pb_NW_x hX.1) (cwV 3 C.1.2.2.2.2 gX3_readRow_X6_addThree rfl rfl rfl kdV_X6_addThree ⟨Nat.le_of_ble_eq_true rfl, Nat.le_of_ble_eq_true rfl⟩) 0 rfl rfl [3, 4] [0, 1, 2] rfl rfl ⟨⟨_, rfl, rfl⟩, ⟨⟨_, rfl, rfl⟩, ⟨⟨_, rfl, rfl⟩, trivial⟩⟩⟩ rfl (by decide +kernel) (adl := [a_p1, a_p1_cells]) rfl rfl rfl rfl rfl (Nat.le_of_ble_eq_true rfl) ⟨Nat.le_refl _, Nat.le_refl _⟩ dX3_readRow_119 rfl ?_
          refine pb_goto (pc := 122) (tgt := 159) C dX3_readRow_122 (by decide) ?_
          refine pb_iconst (v := 1) (pc := 159) C dX3_readRow_159 pb_kI_1 ?_
          obtain rfl := Option.some.inj hf
          exact pb_zret (pc := 160) C hr hlk hA pb_isB1 dX3_readRow_160
      · have hf := pb_neg hf hc89
        refine pb_iconst (v := 0) (pc := 92) C dX3_readRow_92 pb_kI_0 ?_
        obtain rfl := Option.some.inj hf
        exact pb_zret (pc := 93) C hr hlk hA pb_isB0 dX3_readRow_93
    have L11 : ∀ (n : Nat) (l11_3 : Int32) (l11_c_t_place : Int32) (l11_c_t_behind : Int32) (l11_c_t_sort : Int32) (l11_c_t_numbers : (Nat → Int32)), pb_lp (fun y => fX3_readRow_L11 n_p2 c_p2 c_t_size c_t_bytes c_p1_size c_p1_cells y.1 y.2.1 y.2.2.1 y.2.2.2.1 y.2.2.2.2) n (l11_3, l11_c_t_place, l11_c_t_behind, l11_c_t_sort, l11_c_t_numbers) = some z11 → pb_V p l e rmX3_readRow s m (([.ref a_t, .ref a_p1, .ref a_p2] : List Value).toArray) below meth c 5 (dC, dI) vwCl A 0 0 (pb_MQ below (([.ref a_t, .ref a_p1, .ref a_p2] : List Value).toArray) s (dC, dI) vwCl (wwX3_readRow cyB cyI cyJ cyZ cyS a_t a_t_bytes a_t_numbers a_p1 a_p1_cells w_p1 m_p1 n_p1 c_t_size c_t_place c_t_behind c_t_sort c_t_bytes c_t_numbers c_p1_size c_p1_cells) (wwX3_readRow cyB cyI cyJ cyZ cyS a_t a_t_bytes a_t_numbers a_p1 a_p1_cells w_p1 m_p1 n_p1 c_t_size out.2.1 out.2.2.1 out.2.2.2.1 c_t_bytes out.2.2.2.2.1 out.2.2.2.2.2.1 out.2.2.2.2.2.2) (some (.int out.1)) A) (wwX3_readRow cyB cyI cyJ cyZ cyS a_t a_t_bytes a_t_numbers a_p1 a_p1_cells w_p1 m_p1 n_p1 c_t_size l11_c_t_place l11_c_t_behind l11_c_t_sort c_t_bytes l11_c_t_numbers c_p1_size c_p1_cells) [(0, .ref a_t), (1, .ref a_p1), (2, .ref a_p2), (3, .int l11_3)] [] 11 := by
      intro n
      induction n with
      | zero => intro l11_3 l11_c_t_place l11_c_t_behind l11_c_t_sort l11_c_t_numbers hf; exact (pb_lp_zero hf).elim
      | succ n ih11 =>
        intro l11_3 l11_c_t_place l11_c_t_behind l11_c_t_sort l11_c_t_numbers hf
        obtain ⟨y11, hf, hl11⟩ := pb_lp_succ hf
        have hf : fX3_readRow_L11 n_p2 c_p2 c_t_size c_t_bytes c_p1_size c_p1_cells l11_3 l11_c_t_place l11_c_t_behind l11_c_t_sort l11_c_t_numbers = some y11 := hf
        unfold fX3_readRow_L11 at hf
        refine pb_iload_n (pc := 11) C dX3_readRow_11 rfl 3 rfl ?_
        refine pb_aload_n (pc := 12) C dX3_readRow_12 rfl 2 rfl ?_
        refine pb_tlen (pc := 13) (v := Int32.ofNat n_p2) C hT rfl dX3_readRow_13 ?_
        refine pb_icmp_ge (pc := 14) (tgt := 80) C dX3_readRow_14 (by decide) (fun hc14 => ?_) (fun hc14 => ?_)
        · have hf := pb_pos hf hc14
          obtain rfl := Option.some.inj hf
          obtain rfl := pb_esc hl11
          refine pb_sub [0, 1, 2] rfl ?_
          have hk11 := pb_inl hk11
          exact E11 l11_3 l11_c_t_place l11_c_t_behind l11_c_t_sort l11_c_t_numbers hk11
        · have hf := pb_neg hf hc14
          refine pb_iload_n (pc := 17) C dX3_readRow_17 rfl 3 rfl ?_
          refine pb_aload_n (pc := 18) C dX3_readRow_18 rfl 0 rfl ?_
          refine pb_get (pc := 19) C hnX3_readRow_X3 0 rfl rfl 1 (by decide) (List.mem_of_getElem? (i := 1) rfl) rfl rfl dX3_readRow_19 ?_
          refine pb_alen (pc := 22) (v := 5) C 2 1 rfl rfl pb_len_5 dX3_readRow_22 ?_
          refine pb_icmp_ge (pc := 23) (tgt := 80) C dX3_readRow_23 (by decide) (fun hc23 => ?_) (fun hc23 => ?_)
          · have hf := pb_pos hf hc23
            obtain rfl := Option.some.inj hf
            obtain rfl := pb_esc hl11
            refine pb_sub [0, 1, 2] rfl ?_
            have hk11 := pb_inl hk11
            exact E11 l11_3 l11_c_t_place l11_c_t_behind l11_c_t_sort l11_c_t_numbers hk11
          · have hf := pb_neg hf hc23
            refine pb_aload_n (pc := 26) C dX3_readRow_26 rfl 0 rfl ?_
            obtain ⟨r27, hr27, hf⟩ := pb_bind hf
            refine pb_callV (pc := 27) (n0 := 5) (ws' := (wwX3_readRow cyB cyI cyJ cyZ cyS a_t a_t_bytes a_t_numbers a_p1 a_p1_cells w_p1 m_p1 n_p1 c_t_size r27.1 r27.2.1 r27.2.2 c_t_bytes l11_c_t_numbers c_p1_size c_p1_cells)) (rest := []) (st2 := []) C (kcX3_takeToken l dC dI cyB cyI cyJ cyZ cyS a_t a_t_bytes a_t_numbers c_t_size l11_c_t_place l11_c_t_behind l11_c_t_sort c_t_bytes r27 hr27) pb_NW_b (pb_NW_x hX.1) (cwV 0 C.1.2.2.2.2 gX3_readRow_X3_takeToken rfl rfl rfl kdV_X3_takeToken ⟨Nat.le_of_ble_eq_true rfl, Nat.le_of_ble_eq_true rfl⟩) 0 rfl rfl [0, 1] [2, 3, 4] rfl rfl ⟨⟨_, rfl, rfl⟩, ⟨⟨_, rfl, rfl⟩, ⟨⟨_, rfl, rfl⟩, trivial⟩⟩⟩ rfl (by decide +kernel) (adl := [a_t, a_t_bytes]) rfl rfl rfl rfl rfl (Nat.le_of_ble_eq_true rfl) ⟨Nat.le_refl _, Nat.le_refl _⟩ dX3_readRow_27 rfl ?_
            refine pb_aload_n (pc := 30) C dX3_readRow_30 rfl 0 rfl ?_
            refine pb_get (pc := 31) C hnX3_readRow_X3 0 rfl rfl 5 (by decide) (List.mem_of_getElem? (i := 2) rfl) rfl rfl dX3_readRow_31 ?_
            refine pb_iconst (v := 2) (pc := 34) C dX3_readRow_34 pb_kI_2 ?_
            refine pb_icmp_eq (pc := 35) (tgt := 40) C dX3_readRow_35 (by decide) (fun hc35 => ?_) (fun hc35 => ?_)
            · have hf := pb_pos hf hc35
              refine pb_aload_n (pc := 40) C dX3_readRow_40 rfl 0 rfl ?_
              obtain ⟨r41, hr41, hf⟩ := pb_bind hf
              refine pb_callV (pc := 41) (n0 := 5) (ws' := (wwX3_readRow cyB cyI cyJ cyZ cyS a_t a_t_bytes a_t_numbers a_p1 a_p1_cells w_p1 m_p1 n_p1 c_t_size r27.1 r27.2.1 r27.2.2 c_t_bytes l11_c_t_numbers c_p1_size c_p1_cells)) (rest := []) (st2 := [.int r41]) C (kcX3_numberHere l dC dI cyB cyI cyJ cyZ cyS a_t a_t_bytes a_t_numbers c_t_size r27.1 r27.2.1 r27.2.2 c_t_bytes r41 hr41) pb_NW_b (pb_NW_x hX.1) (cwV 0 C.1.2.2.2.2 gX3_readRow_X3_numberHere rfl rfl rfl kdV_X3_numberHere ⟨Nat.le_of_ble_eq_true rfl, Nat.le_of_ble_eq_true rfl⟩) 0 rfl rfl [0, 1] [2, 3, 4] rfl rfl ⟨⟨_, rfl, rfl⟩, ⟨⟨_, rfl, rfl⟩, ⟨⟨_, rfl, rfl⟩, trivial⟩⟩⟩ rfl (by decide +kernel) (adl := [a_t, a_t_bytes]) rfl rfl rfl rfl rfl (Nat.le_of_ble_eq_true rfl) ⟨Nat.le_refl _, Nat.le_refl _⟩ dX3_readRow_41 rfl ?_
              refine pb_istore (lv' := [(4, .int r41), (0, .ref a_t), (1, .ref a_p1), (2, .ref a_p2), (3, .int l11_3)]) (pc := 44) C dX3_readRow_44 (by decide) rfl ?_
              refine pb_iload (pc := 46) C dX3_readRow_46 0 rfl ?_
              refine pb_aload_n (pc := 48) C dX3_readRow_48 rfl 3 rfl ?_
              refine pb_iload_n (pc := 49) C dX3_readRow_49 rfl 4 rfl ?_
              obtain ⟨g50, hf⟩ := pb_grd hf
              refine pb_ti (pc := 50) C hT g50 dX3_readRow_50 ?_
              refine pb_icmp_gt (pc := 51) (tgt := 64) C dX3_readRow_51 (by decide) (fun hc51 => ?_) (fun hc51 => ?_)
              · have hf := pb_pos hf hc51
                refine pb_iconst (v := 0) (pc := 64) C dX3_readRow_64 pb_kI_0 ?_
                obtain rfl := Option.some.inj hf
                obtain rfl := pb_esc hl11
                obtain rfl := pb_esc hk11
                exact pb_zret (pc := 65) C hr hlk hA pb_isB0 dX3_readRow_65
              · have hf := pb_neg hf hc51
                refine pb_iload_n (pc := 54) C dX3_readRow_54 rfl 4 rfl ?_
                refine pb_iconst (v := 3) (pc := 55) C dX3_readRow_55 pb_kI_3 ?_
                obtain ⟨y66, hf, hk66⟩ := pb_bind hf
                have J66 : fX3_readRow_J66 l11_3 l11_c_t_numbers r27 r41 = some y11 → pb_V p l e rmX3_readRow s m (([.ref a_t, .ref a_p1, .ref a_p2] : List Value).toArray) below meth c 5 (dC, dI) vwCl A 0 0 (pb_MQ below (([.ref a_t, .ref a_p1, .ref a_p2] : List Value).toArray) s (dC, dI) vwCl (wwX3_readRow cyB cyI cyJ cyZ cyS a_t a_t_bytes a_t_numbers a_p1 a_p1_cells w_p1 m_p1 n_p1 c_t_size c_t_place c_t_behind c_t_sort c_t_bytes c_t_numbers c_p1_size c_p1_cells) (wwX3_readRow cyB cyI cyJ cyZ cyS a_t a_t_bytes a_t_numbers a_p1 a_p1_cells w_p1 m_p1 n_p1 c_t_size out.2.1 out.2.2.1 out.2.2.2.1 c_t_bytes out.2.2.2.2.1 out.2.2.2.2.2.1 out.2.2.2.2.2.2) (some (.int out.1)) A) (wwX3_readRow cyB cyI cyJ cyZ cyS a_t a_t_bytes a_t_numbers a_p1 a_p1_cells w_p1 m_p1 n_p1 c_t_size r27.1 r27.2.1 r27.2.2 c_t_bytes l11_c_t_numbers c_p1_size c_p1_cells) [(0, .ref a_t), (1, .ref a_p1), (2, .ref a_p2), (3, .int l11_3), (4, .int r41)] [] 66 := by
                  intro hf
                  unfold fX3_readRow_J66 at hf
                  refine pb_aload_n (pc := 66) C dX3_readRow_66 rfl 0 rfl ?_
                  refine pb_get (pc := 67) C hnX3_readRow_X3 0 rfl rfl 1 (by decide) (List.mem_of_getElem? (i := 1) rfl) rfl rfl dX3_readRow_67 ?_
                  refine pb_iload_n (pc := 70) C dX3_readRow_70 rfl 3 rfl ?_
                  refine pb_iload (pc := 71) C dX3_readRow_71 4 rfl ?_
                  obtain ⟨g73, hf⟩ := pb_grd hf
                  obtain ⟨u73, eu73, hf⟩ := pb_bind hf
                  have eu73 := Option.some.inj eu73
                  refine pb_iast (pc := 73) (ws' := (wwX3_readRow cyB cyI cyJ cyZ cyS a_t a_t_bytes a_t_numbers a_p1 a_p1_cells w_p1 m_p1 n_p1 c_t_size r27.1 r27.2.1 r27.2.2 c_t_bytes u73 c_p1_size c_p1_cells)) C 2 1 rfl rfl g73 eu73 rfl dX3_readRow_73 ?_
                  refine pb_iinc (v := l11_3 + 1) (lv' := [(3, .int (l11_3 + 1)), (0, .ref a_t), (1, .ref a_p1), (2, .ref a_p2), (4, .int r41)]) (pc := 74) C dX3_readRow_74 3 rfl (pb_inc pb_kI_1 rfl) (by decide) rfl ?_
                  refine pb_goto (pc := 77) (tgt := 11) C dX3_readRow_77 (by decide) ?_
                  obtain rfl := Option.some.inj hf
                  refine pb_sub [1, 2, 3, 0] rfl ?_
                  have hl11 := pb_inl hl11
                  exact ih11 (l11_3 + 1) r27.1 r27.2.1 r27.2.2 u73 hl11
                refine pb_icmp_ne (pc := 56) (tgt := 66) C dX3_readRow_56 (by decide) (fun hc56 => ?_) (fun hc56 => ?_)
                · have hf := pb_neg hf hc56
                  obtain rfl := Option.some.inj hf
                  refine pb_sub [1, 2, 3, 4, 0] rfl ?_
                  have hk66 := pb_inl hk66
                  exact J66  hk66
                · have hf := pb_pos hf hc56
                  refine pb_iload (pc := 59) C dX3_readRow_59 0 rfl ?_
                  refine pb_if_ne (pc := 61) (tgt := 66) C dX3_readRow_61 (by decide) (fun hc61 => ?_) (fun hc61 => ?_)
                  · have hf := pb_neg hf hc61
                    obtain rfl := Option.some.inj hf
                    refine pb_sub [1, 2, 3, 4, 0] rfl ?_
                    have hk66 := pb_inl hk66
                    exact J66  hk66
                  · have hf := pb_pos hf hc61
                    refine pb_iconst (v := 0) (pc := 64) C dX3_readRow_64 pb_kI_0 ?_
                    obtain rfl := Option.some.inj hf
                    obtain rfl := pb_esc hk66
                    obtain rfl := pb_esc hl11
                    obtain rfl := pb_esc hk11
                    exact pb_zret (pc := 65) C hr hlk hA pb_isB0 dX3_readRow_65
            · have hf := pb_neg hf hc35
              refine pb_iconst (v := 0) (pc := 38) C dX3_readRow_38 pb_kI_0 ?_
              obtain rfl := Option.some.inj hf
              obtain rfl := pb_esc hl11
              obtain rfl := pb_esc hk11
              exact pb_zret (pc := 39) C hr hlk hA pb_isB0 dX3_readRow_39
    refine pb_sub [1, 2, 3, 0] rfl ?_
    exact L11 pb_FU 0 c_t_place c_t_behind c_t_sort c_t_numbers hz11
  · have hf := pb_neg hf hc4
    refine pb_iconst (v := 0) (pc := 7) C dX3_readRow_7 pb_kI_0 ?_
    obtain rfl := Option.some.inj hf
    exact pb_zret (pc := 8) C hr hlk hA pb_isB0 dX3_readRow_8
def rmX3_readItem : Room := { frames := 5, cells := 0, slots := 0, locals := 107 }
def wwX3_readItem (cyB cyI cyJ cyZ cyS : ClassId) (a_t a_t_bytes a_t_numbers a_p1 a_p1_laws a_p1_finds a_p1_bets a_p1_prices a_p1_stepCells a_p1_stepSizes a_p1_laws_cells a_p1_finds_cells a_p1_bets_cells : Nat) (c_t_size : Int32) (c_t_place : Int32) (c_t_behind : Int32) (c_t_sort : Int32) (c_t_bytes : (Nat → Int32)) (c_t_numbers : (Nat → Int32)) (c_p1_steps : Int32) (c_p1_laws_size : Int32) (c_p1_laws_cells : (Nat → Int32)) (c_p1_finds_size : Int32) (c_p1_finds_cells : (Nat → Int32)) (c_p1_bets_size : Int32) (c_p1_bets_cells : (Nat → Int32)) : va_W := [(a_t, .inr (3, [.ref a_t_bytes, .ref a_t_numbers, .int c_t_size, .int c_t_place, .int c_t_behind, .int c_t_sort])), (a_t_bytes, .inl (cyB, 150, .inl c_t_bytes)), (a_t_numbers, .inl (cyI, 5, .inl c_t_numbers)), (a_p1, .inr (5, [.ref a_p1_laws, .ref a_p1_finds, .ref a_p1_bets, .ref a_p1_prices, .ref a_p1_stepCells, .ref a_p1_stepSizes, .int c_p1_steps])), (a_p1_laws, .inr (6, [.int 3, .int 8, .ref a_p1_laws_cells, .int c_p1_laws_size])), (a_p1_laws_cells, .inl (cyI, 24, .inl c_p1_laws_cells)), (a_p1_finds, .inr (6, [.int 3, .int 10, .ref a_p1_finds_cells, .int c_p1_finds_size])), (a_p1_finds_cells, .inl (cyI, 30, .inl c_p1_finds_cells)), (a_p1_bets, .inr (6, [.int 5, .int 8, .ref a_p1_bets_cells, .int c_p1_bets_size])), (a_p1_bets_cells, .inl (cyI, 40, .inl c_p1_bets_cells))]
theorem hnX3_readItem_X3 : ∀ w ∈ wsX30, w ∈ wsX3_readItem := fun _ h => List.mem_cons_of_mem _ (List.mem_append_left _ (List.mem_append_left _ (List.mem_append_right _ h)))
theorem hnX3_readItem_X5 : ∀ w ∈ wsX50, w ∈ wsX3_readItem := fun _ h => List.mem_cons_of_mem _ (List.mem_append_left _ (List.mem_append_right _ h))
set_option maxHeartbeats 4000000 in
set_option maxRecDepth 100000 in
theorem kcX3_readItem (l : Launch) (dC : Nat → ClassId) (dI : Nat → Nat → Nat) (cyB cyI cyJ cyZ cyS : ClassId) (k v t : Nat → Nat) (a_t a_t_bytes a_t_numbers a_p1 a_p1_laws a_p1_finds a_p1_bets a_p1_prices a_p1_stepCells a_p1_stepSizes a_p1_laws_cells a_p1_finds_cells a_p1_bets_cells : Nat) (c_t_size : Int32) (c_t_place : Int32) (c_t_behind : Int32) (c_t_sort : Int32) (c_t_bytes : (Nat → Int32)) (c_t_numbers : (Nat → Int32)) (c_p1_steps : Int32) (c_p1_laws_size : Int32) (c_p1_laws_cells : (Nat → Int32)) (c_p1_finds_size : Int32) (c_p1_finds_cells : (Nat → Int32)) (c_p1_bets_size : Int32) (c_p1_bets_cells : (Nat → Int32)) (p2 : Int32) (out : (Int32 × Int32 × Int32 × Int32 × (Nat → Int32) × Int32 × (Nat → Int32) × Int32 × (Nat → Int32) × Int32 × (Nat → Int32))) (hf : fX3_readItem c_t_size c_t_place c_t_behind c_t_sort c_t_bytes c_t_numbers c_p1_laws_size c_p1_laws_cells c_p1_finds_size c_p1_finds_cells c_p1_bets_size c_p1_bets_cells p2 = some out) : pb_K l yX3_readItem wsX3_readItem rmX3_readItem (dC, dI) vwCl (pb_tys cyB cyI cyJ cyZ cyS) (pb_X k v t (wwX3_readItem cyB cyI cyJ cyZ cyS a_t a_t_bytes a_t_numbers a_p1 a_p1_laws a_p1_finds a_p1_bets a_p1_prices a_p1_stepCells a_p1_stepSizes a_p1_laws_cells a_p1_finds_cells a_p1_bets_cells c_t_size c_t_place c_t_behind c_t_sort c_t_bytes c_t_numbers c_p1_steps c_p1_laws_size c_p1_laws_cells c_p1_finds_size c_p1_finds_cells c_p1_bets_size c_p1_bets_cells)) [.ref a_t, .ref a_p1, .int p2] (wwX3_readItem cyB cyI cyJ cyZ cyS a_t a_t_bytes a_t_numbers a_p1 a_p1_laws a_p1_finds a_p1_bets a_p1_prices a_p1_stepCells a_p1_stepSizes a_p1_laws_cells a_p1_finds_cells a_p1_bets_cells c_t_size c_t_place c_t_behind c_t_sort c_t_bytes c_t_numbers c_p1_steps c_p1_laws_size c_p1_laws_cells c_p1_finds_size c_p1_finds_cells c_p1_bets_size c_p1_bets_cells) (wwX3_readItem cyB cyI cyJ cyZ cyS a_t a_t_bytes a_t_numbers a_p1 a_p1_laws a_p1_finds a_p1_bets a_p1_prices a_p1_stepCells a_p1_stepSizes a_p1_laws_cells a_p1_finds_cells a_p1_bets_cells c_t_size out.2.1 out.2.2.1 out.2.2.2.1 c_t_bytes out.2.2.2.2.1 c_p1_steps out.2.2.2.2.2.1 out.2.2.2.2.2.2.1 out.2.2.2.2.2.2.2.1 out.2.2.2.2.2.2.2.2.1 out.2.2.2.2.2.2.2.2.2.1 out.2.2.2.2.2.2.2.2.2.2) (some (.int out.1)) := by
  unfold fX3_readItem at hf
  refine pb_K.ofV (cc := cX3_readItem) (maxL := 3) (ret := (some .boolean)) (lv0 := [(0, .ref a_t), (1, .ref a_p1), (2, .int p2)]) (by decide) rfl (Nat.le_of_ble_eq_true rfl) rfl ?_
  intro p e s m below meth c A C hX hr hlk hA
  have hE := hX.2
  rw [hA] at hE
  refine pb_aload_n (pc := 0) C dX3_readItem_0 rfl 0 rfl ?_
  refine pb_get (pc := 1) C hnX3_readItem_X3 0 rfl rfl 5 (by decide) (List.mem_of_getElem? (i := 1) rfl) rfl rfl dX3_readItem_1 ?_
  refine pb_iconst (v := 1) (pc := 4) C dX3_readItem_4 pb_kI_1 ?_
  refine pb_icmp_ne (pc := 5) (tgt := 18) C dX3_readItem_5 (by decide) (fun hc5 => ?_) (fun hc5 => ?_)
  · have hf := pb_neg hf hc5
    refine pb_iconst (v := 0) (pc := 18) C dX3_readItem_18 pb_kI_0 ?_
    obtain rfl := Option.some.inj hf
    exact pb_zret (pc := 19) C hr hlk hA pb_isB0 dX3_readItem_19
  · have hf := pb_pos hf hc5
    refine pb_iload_n (pc := 8) C dX3_readItem_8 rfl 2 rfl ?_
    refine pb_aload_n (pc := 9) C dX3_readItem_9 rfl 0 rfl ?_
    refine pb_ldcS (pc := 10) C hE.2.2.2.1.1 dX3_readItem_10 ?_
    obtain ⟨r12, hr12, hf⟩ := pb_bind hf
    refine pb_callV (pc := 12) (n0 := 10) (ws' := (wwX3_readItem cyB cyI cyJ cyZ cyS a_t a_t_bytes a_t_numbers a_p1 a_p1_laws a_p1_finds a_p1_bets a_p1_prices a_p1_stepCells a_p1_stepSizes a_p1_laws_cells a_p1_finds_cells a_p1_bets_cells c_t_size c_t_place c_t_behind c_t_sort c_t_bytes c_t_numbers c_p1_steps c_p1_laws_size c_p1_laws_cells c_p1_finds_size c_p1_finds_cells c_p1_bets_size c_p1_bets_cells)) (rest := [.int p2]) (st2 := [.int r12, .int p2]) C (kcX3_isWord l dC dI cyB cyI cyJ cyZ cyS k v t 0 (by decide) 4 rfl (pb_chr 0) rfl a_t a_t_bytes a_t_numbers c_t_size c_t_place c_t_behind c_t_sort c_t_bytes r12 hr12) pb_X_b (pb_X_x hX.1 hE) (cwV 1 C.1.2.2.2.2 gX3_readItem_X3_isWord rfl rfl rfl kdV_X3_isWord ⟨Nat.le_of_ble_eq_true rfl, Nat.le_of_ble_eq_true rfl⟩) 0 rfl rfl [0, 1] [2, 3, 4, 5, 6, 7, 8, 9] rfl rfl ⟨⟨_, rfl, rfl⟩, ⟨⟨_, rfl, rfl⟩, ⟨⟨_, rfl, rfl⟩, ⟨⟨_, rfl, rfl⟩, ⟨⟨_, rfl, rfl⟩, ⟨⟨_, rfl, rfl⟩, ⟨⟨_, rfl, rfl⟩, ⟨⟨_, rfl, rfl⟩, trivial⟩⟩⟩⟩⟩⟩⟩⟩ rfl (by decide +kernel) (adl := [a_t, a_t_bytes]) rfl rfl rfl rfl rfl (Nat.le_of_ble_eq_true rfl) ⟨Nat.le_refl _, Nat.le_refl _⟩ dX3_readItem_12 rfl ?_
    refine pb_icmp_eq (pc := 15) (tgt := 20) C dX3_readItem_15 (by decide) (fun hc15 => ?_) (fun hc15 => ?_)
    · have hf := pb_pos hf hc15
      refine pb_iload_n (pc := 20) C dX3_readItem_20 rfl 2 rfl ?_
      refine pb_if_eq (pc := 21) (tgt := 42) C dX3_readItem_21 (by decide) (fun hc21 => ?_) (fun hc21 => ?_)
      · have hf := pb_pos hf hc21
        refine pb_aload_n (pc := 42) C dX3_readItem_42 rfl 0 rfl ?_
        refine pb_ldcS (pc := 43) C hE.2.2.2.1.2.1 dX3_readItem_43 ?_
        obtain ⟨r45, hr45, hf⟩ := pb_bind hf
        refine pb_callV (pc := 45) (n0 := 10) (ws' := (wwX3_readItem cyB cyI cyJ cyZ cyS a_t a_t_bytes a_t_numbers a_p1 a_p1_laws a_p1_finds a_p1_bets a_p1_prices a_p1_stepCells a_p1_stepSizes a_p1_laws_cells a_p1_finds_cells a_p1_bets_cells c_t_size c_t_place c_t_behind c_t_sort c_t_bytes c_t_numbers c_p1_steps c_p1_laws_size c_p1_laws_cells c_p1_finds_size c_p1_finds_cells c_p1_bets_size c_p1_bets_cells)) (rest := []) (st2 := [.int r45]) C (kcX3_isWord l dC dI cyB cyI cyJ cyZ cyS k v t 1 (by decide) 4 rfl (pb_chr 1) rfl a_t a_t_bytes a_t_numbers c_t_size c_t_place c_t_behind c_t_sort c_t_bytes r45 hr45) pb_X_b (pb_X_x hX.1 hE) (cwV 1 C.1.2.2.2.2 gX3_readItem_X3_isWord rfl rfl rfl kdV_X3_isWord ⟨Nat.le_of_ble_eq_true rfl, Nat.le_of_ble_eq_true rfl⟩) 0 rfl rfl [0, 1] [2, 3, 4, 5, 6, 7, 8, 9] rfl rfl ⟨⟨_, rfl, rfl⟩, ⟨⟨_, rfl, rfl⟩, ⟨⟨_, rfl, rfl⟩, ⟨⟨_, rfl, rfl⟩, ⟨⟨_, rfl, rfl⟩, ⟨⟨_, rfl, rfl⟩, ⟨⟨_, rfl, rfl⟩, ⟨⟨_, rfl, rfl⟩, trivial⟩⟩⟩⟩⟩⟩⟩⟩ rfl (by decide +kernel) (adl := [a_t, a_t_bytes]) rfl rfl rfl rfl rfl (Nat.le_of_ble_eq_true rfl) ⟨Nat.le_refl _, Nat.le_refl _⟩ dX3_readItem_45 rfl ?_
        refine pb_if_eq (pc := 48) (tgt := 63) C dX3_readItem_48 (by decide) (fun hc48 => ?_) (fun hc48 => ?_)
        · have hf := pb_pos hf hc48
          refine pb_aload_n (pc := 63) C dX3_readItem_63 rfl 0 rfl ?_
          refine pb_ldcS (pc := 64) C hE.2.2.2.1.2.2.1 dX3_readItem_64 ?_
          obtain ⟨r66, hr66, hf⟩ := pb_bind hf
          refine pb_callV (pc := 66) (n0 := 10) (ws' := (wwX3_readItem cyB cyI cyJ cyZ cyS a_t a_t_bytes a_t_numbers a_p1 a_p1_laws a_p1_finds a_p1_bets a_p1_prices a_p1_stepCells a_p1_stepSizes a_p1_laws_cells a_p1_finds_cells a_p1_bets_cells c_t_size c_t_place c_t_behind c_t_sort c_t_bytes c_t_numbers c_p1_steps c_p1_laws_size c_p1_laws_cells c_p1_finds_size c_p1_finds_cells c_p1_bets_size c_p1_bets_cells)) (rest := []) (st2 := [.int r66]) C (kcX3_isWord l dC dI cyB cyI cyJ cyZ cyS k v t 2 (by decide) 4 rfl (pb_chr 2) rfl a_t a_t_bytes a_t_numbers c_t_size c_t_place c_t_behind c_t_sort c_t_bytes r66 hr66) pb_X_b (pb_X_x hX.1 hE) (cwV 1 C.1.2.2.2.2 gX3_readItem_X3_isWord rfl rfl rfl kdV_X3_isWord ⟨Nat.le_of_ble_eq_true rfl, Nat.le_of_ble_eq_true rfl⟩) 0 rfl rfl [0, 1] [2, 3, 4, 5, 6, 7, 8, 9] rfl rfl ⟨⟨_, rfl, rfl⟩, ⟨⟨_, rfl, rfl⟩, ⟨⟨_, rfl, rfl⟩, ⟨⟨_, rfl, rfl⟩, ⟨⟨_, rfl, rfl⟩, ⟨⟨_, rfl, rfl⟩, ⟨⟨_, rfl, rfl⟩, ⟨⟨_, rfl, rfl⟩, trivial⟩⟩⟩⟩⟩⟩⟩⟩ rfl (by decide +kernel) (adl := [a_t, a_t_bytes]) rfl rfl rfl rfl rfl (Nat.le_of_ble_eq_true rfl) ⟨Nat.le_refl _, Nat.le_refl _⟩ dX3_readItem_66 rfl ?_
          refine pb_if_eq (pc := 69) (tgt := 84) C dX3_readItem_69 (by decide) (fun hc69 => ?_) (fun hc69 => ?_)
          · have hf := pb_pos hf hc69
            refine pb_aload_n (pc := 84) C dX3_readItem_84 rfl 0 rfl ?_
            refine pb_ldcS (pc := 85) C hE.2.2.2.1.2.2.2 dX3_readItem_85 ?_
            obtain ⟨r87, hr87, hf⟩ := pb_bind hf
            refine pb_callV (pc := 87) (n0 := 10) (ws' := (wwX3_readItem cyB cyI cyJ cyZ cyS a_t a_t_bytes a_t_numbers a_p1 a_p1_laws a_p1_finds a_p1_bets a_p1_prices a_p1_stepCells a_p1_stepSizes a_p1_laws_cells a_p1_finds_cells a_p1_bets_cells c_t_size c_t_place c_t_behind c_t_sort c_t_bytes c_t_numbers c_p1_steps c_p1_laws_size c_p1_laws_cells c_p1_finds_size c_p1_finds_cells c_p1_bets_size c_p1_bets_cells)) (rest := []) (st2 := [.int r87]) C (kcX3_isWord l dC dI cyB cyI cyJ cyZ cyS k v t 3 (by decide) 3 rfl (pb_chr 3) rfl a_t a_t_bytes a_t_numbers c_t_size c_t_place c_t_behind c_t_sort c_t_bytes r87 hr87) pb_X_b (pb_X_x hX.1 hE) (cwV 1 C.1.2.2.2.2 gX3_readItem_X3_isWord rfl rfl rfl kdV_X3_isWord ⟨Nat.le_of_ble_eq_true rfl, Nat.le_of_ble_eq_true rfl⟩) 0 rfl rfl [0, 1] [2, 3, 4, 5, 6, 7, 8, 9] rfl rfl ⟨⟨_, rfl, rfl⟩, ⟨⟨_, rfl, rfl⟩, ⟨⟨_, rfl, rfl⟩, ⟨⟨_, rfl, rfl⟩, ⟨⟨_, rfl, rfl⟩, ⟨⟨_, rfl, rfl⟩, ⟨⟨_, rfl, rfl⟩, ⟨⟨_, rfl, rfl⟩, trivial⟩⟩⟩⟩⟩⟩⟩⟩ rfl (by decide +kernel) (adl := [a_t, a_t_bytes]) rfl rfl rfl rfl rfl (Nat.le_of_ble_eq_true rfl) ⟨Nat.le_refl _, Nat.le_refl _⟩ dX3_readItem_87 rfl ?_
            refine pb_if_eq (pc := 90) (tgt := 111) C dX3_readItem_90 (by decide) (fun hc90 => ?_) (fun hc90 => ?_)
            · have hf := pb_pos hf hc90
              refine pb_iconst (v := 0) (pc := 111) C dX3_readItem_111 pb_kI_0 ?_
              obtain rfl := Option.some.inj hf
              exact pb_zret (pc := 112) C hr hlk hA pb_isB0 dX3_readItem_112
            · have hf := pb_neg hf hc90
              refine pb_aload_n (pc := 93) C dX3_readItem_93 rfl 0 rfl ?_
              refine pb_aload_n (pc := 94) C dX3_readItem_94 rfl 1 rfl ?_
              refine pb_get (pc := 95) C hnX3_readItem_X5 3 rfl rfl 2 (by decide) (List.mem_of_getElem? (i := 6) rfl) rfl rfl dX3_readItem_95 ?_
              refine pb_gets (pc := 98) C hE.2.2.2.2.2.2.1 (List.mem_of_getElem? (i := 7) rfl) rfl dX3_readItem_98 ?_
              obtain ⟨r101, hr101, hf⟩ := pb_bind hf
              refine pb_callV (pc := 101) (n0 := 10) (ws' := (wwX3_readItem cyB cyI cyJ cyZ cyS a_t a_t_bytes a_t_numbers a_p1 a_p1_laws a_p1_finds a_p1_bets a_p1_prices a_p1_stepCells a_p1_stepSizes a_p1_laws_cells a_p1_finds_cells a_p1_bets_cells c_t_size r101.2.1 r101.2.2.1 r101.2.2.2.1 c_t_bytes r101.2.2.2.2.1 c_p1_steps c_p1_laws_size c_p1_laws_cells c_p1_finds_size c_p1_finds_cells r101.2.2.2.2.2.1 r101.2.2.2.2.2.2)) (rest := []) (st2 := [.int r101.1]) C (kcX3_readRow l dC dI cyB cyI cyJ cyZ cyS (t 2) 5 (pb_most 2) a_t a_t_bytes a_t_numbers a_p1_bets a_p1_bets_cells 5 8 40 c_t_size c_t_place c_t_behind c_t_sort c_t_bytes c_t_numbers c_p1_bets_size c_p1_bets_cells r101 hr101) pb_Y_b (pb_Y_x hX.1 hE.2.2.2.2.2.2.2) (cwV 2 C.1.2.2.2.2 gX3_readItem_X3_readRow rfl rfl rfl kdV_X3_readRow ⟨Nat.le_of_ble_eq_true rfl, Nat.le_of_ble_eq_true rfl⟩) 0 rfl rfl [0, 1, 2, 8, 9] [3, 4, 5, 6, 7] rfl rfl ⟨⟨_, rfl, rfl⟩, ⟨⟨_, rfl, rfl⟩, ⟨⟨_, rfl, rfl⟩, ⟨⟨_, rfl, rfl⟩, ⟨⟨_, rfl, rfl⟩, trivial⟩⟩⟩⟩⟩ rfl (by decide +kernel) (adl := [a_t, a_t_bytes, a_t_numbers, a_p1_bets, a_p1_bets_cells]) rfl rfl rfl rfl rfl (Nat.le_of_ble_eq_true rfl) ⟨Nat.le_refl _, Nat.le_refl _⟩ dX3_readItem_101 rfl ?_
              refine pb_if_eq (pc := 104) (tgt := 111) C dX3_readItem_104 (by decide) (fun hc104 => ?_) (fun hc104 => ?_)
              · have hf := pb_pos hf hc104
                refine pb_iconst (v := 0) (pc := 111) C dX3_readItem_111 pb_kI_0 ?_
                obtain rfl := Option.some.inj hf
                exact pb_zret (pc := 112) C hr hlk hA pb_isB0 dX3_readItem_112
              · have hf := pb_neg hf hc104
                refine pb_iconst (v := 1) (pc := 107) C dX3_readItem_107 pb_kI_1 ?_
                refine pb_goto (pc := 108) (tgt := 112) C dX3_readItem_108 (by decide) ?_
                obtain rfl := Option.some.inj hf
                exact pb_zret (pc := 112) C hr hlk hA pb_isB1 dX3_readItem_112
          · have hf := pb_neg hf hc69
            refine pb_aload_n (pc := 72) C dX3_readItem_72 rfl 0 rfl ?_
            refine pb_aload_n (pc := 73) C dX3_readItem_73 rfl 1 rfl ?_
            refine pb_get (pc := 74) C hnX3_readItem_X5 3 rfl rfl 1 (by decide) (List.mem_of_getElem? (i := 4) rfl) rfl rfl dX3_readItem_74 ?_
            refine pb_gets (pc := 77) C hE.2.2.2.2.2.1.1 (List.mem_of_getElem? (i := 5) rfl) rfl dX3_readItem_77 ?_
            obtain ⟨r80, hr80, hf⟩ := pb_bind hf
            refine pb_callV (pc := 80) (n0 := 10) (ws' := (wwX3_readItem cyB cyI cyJ cyZ cyS a_t a_t_bytes a_t_numbers a_p1 a_p1_laws a_p1_finds a_p1_bets a_p1_prices a_p1_stepCells a_p1_stepSizes a_p1_laws_cells a_p1_finds_cells a_p1_bets_cells c_t_size r80.2.1 r80.2.2.1 r80.2.2.2.1 c_t_bytes r80.2.2.2.2.1 c_p1_steps c_p1_laws_size c_p1_laws_cells r80.2.2.2.2.2.1 r80.2.2.2.2.2.2 c_p1_bets_size c_p1_bets_cells)) (rest := []) (st2 := [.int r80.1]) C (kcX3_readRow l dC dI cyB cyI cyJ cyZ cyS (t 1) 3 (pb_most 1) a_t a_t_bytes a_t_numbers a_p1_finds a_p1_finds_cells 3 10 30 c_t_size c_t_place c_t_behind c_t_sort c_t_bytes c_t_numbers c_p1_finds_size c_p1_finds_cells r80 hr80) pb_Y_b (pb_Y_x hX.1 hE.2.2.2.2.2.1.2) (cwV 2 C.1.2.2.2.2 gX3_readItem_X3_readRow rfl rfl rfl kdV_X3_readRow ⟨Nat.le_of_ble_eq_true rfl, Nat.le_of_ble_eq_true rfl⟩) 0 rfl rfl [0, 1, 2, 6, 7] [3, 4, 5, 8, 9] rfl rfl ⟨⟨_, rfl, rfl⟩, ⟨⟨_, rfl, rfl⟩, ⟨⟨_, rfl, rfl⟩, ⟨⟨_, rfl, rfl⟩, ⟨⟨_, rfl, rfl⟩, trivial⟩⟩⟩⟩⟩ rfl (by decide +kernel) (adl := [a_t, a_t_bytes, a_t_numbers, a_p1_finds, a_p1_finds_cells]) rfl rfl rfl rfl rfl (Nat.le_of_ble_eq_true rfl) ⟨Nat.le_refl _, Nat.le_refl _⟩ dX3_readItem_80 rfl ?_
            obtain ⟨g83, hf⟩ := pb_grd hf
            obtain rfl := Option.some.inj hf
            exact pb_zret (pc := 83) C hr hlk hA g83 dX3_readItem_83
        · have hf := pb_neg hf hc48
          refine pb_aload_n (pc := 51) C dX3_readItem_51 rfl 0 rfl ?_
          refine pb_aload_n (pc := 52) C dX3_readItem_52 rfl 1 rfl ?_
          refine pb_get (pc := 53) C hnX3_readItem_X5 3 rfl rfl 0 (by decide) (List.mem_of_getElem? (i := 2) rfl) rfl rfl dX3_readItem_53 ?_
          refine pb_gets (pc := 56) C hE.2.2.2.2.1.1 (List.mem_of_getElem? (i := 3) rfl) rfl dX3_readItem_56 ?_
          obtain ⟨r59, hr59, hf⟩ := pb_bind hf
          refine pb_callV (pc := 59) (n0 := 10) (ws' := (wwX3_readItem cyB cyI cyJ cyZ cyS a_t a_t_bytes a_t_numbers a_p1 a_p1_laws a_p1_finds a_p1_bets a_p1_prices a_p1_stepCells a_p1_stepSizes a_p1_laws_cells a_p1_finds_cells a_p1_bets_cells c_t_size r59.2.1 r59.2.2.1 r59.2.2.2.1 c_t_bytes r59.2.2.2.2.1 c_p1_steps r59.2.2.2.2.2.1 r59.2.2.2.2.2.2 c_p1_finds_size c_p1_finds_cells c_p1_bets_size c_p1_bets_cells)) (rest := []) (st2 := [.int r59.1]) C (kcX3_readRow l dC dI cyB cyI cyJ cyZ cyS (t 0) 3 (pb_most 0) a_t a_t_bytes a_t_numbers a_p1_laws a_p1_laws_cells 3 8 24 c_t_size c_t_place c_t_behind c_t_sort c_t_bytes c_t_numbers c_p1_laws_size c_p1_laws_cells r59 hr59) pb_Y_b (pb_Y_x hX.1 hE.2.2.2.2.1.2) (cwV 2 C.1.2.2.2.2 gX3_readItem_X3_readRow rfl rfl rfl kdV_X3_readRow ⟨Nat.le_of_ble_eq_true rfl, Nat.le_of_ble_eq_true rfl⟩) 0 rfl rfl [0, 1, 2, 4, 5] [3, 6, 7, 8, 9] rfl rfl ⟨⟨_, rfl, rfl⟩, ⟨⟨_, rfl, rfl⟩, ⟨⟨_, rfl, rfl⟩, ⟨⟨_, rfl, rfl⟩, ⟨⟨_, rfl, rfl⟩, trivial⟩⟩⟩⟩⟩ rfl (by decide +kernel) (adl := [a_t, a_t_bytes, a_t_numbers, a_p1_laws, a_p1_laws_cells]) rfl rfl rfl rfl rfl (Nat.le_of_ble_eq_true rfl) ⟨Nat.le_refl _, Nat.le_refl _⟩ dX3_readItem_59 rfl ?_
          obtain ⟨g62, hf⟩ := pb_grd hf
          obtain rfl := Option.some.inj hf
          exact pb_zret (pc := 62) C hr hlk hA g62 dX3_readItem_62
      · have hf := pb_neg hf hc21
        refine pb_aload_n (pc := 24) C dX3_readItem_24 rfl 0 rfl ?_
        obtain ⟨r25, hr25, hf⟩ := pb_bind hf
        refine pb_callV (pc := 25) (n0 := 10) (ws' := (wwX3_readItem cyB cyI cyJ cyZ cyS a_t a_t_bytes a_t_numbers a_p1 a_p1_laws a_p1_finds a_p1_bets a_p1_prices a_p1_stepCells a_p1_stepSizes a_p1_laws_cells a_p1_finds_cells a_p1_bets_cells c_t_size r25.1 r25.2.1 r25.2.2 c_t_bytes c_t_numbers c_p1_steps c_p1_laws_size c_p1_laws_cells c_p1_finds_size c_p1_finds_cells c_p1_bets_size c_p1_bets_cells)) (rest := []) (st2 := []) C (kcX3_takeToken l dC dI cyB cyI cyJ cyZ cyS a_t a_t_bytes a_t_numbers c_t_size c_t_place c_t_behind c_t_sort c_t_bytes r25 hr25) pb_NW_b (pb_NW_x hX.1) (cwV 0 C.1.2.2.2.2 gX3_readItem_X3_takeToken rfl rfl rfl kdV_X3_takeToken ⟨Nat.le_of_ble_eq_true rfl, Nat.le_of_ble_eq_true rfl⟩) 0 rfl rfl [0, 1] [2, 3, 4, 5, 6, 7, 8, 9] rfl rfl ⟨⟨_, rfl, rfl⟩, ⟨⟨_, rfl, rfl⟩, ⟨⟨_, rfl, rfl⟩, ⟨⟨_, rfl, rfl⟩, ⟨⟨_, rfl, rfl⟩, ⟨⟨_, rfl, rfl⟩, ⟨⟨_, rfl, rfl⟩, ⟨⟨_, rfl, rfl⟩, trivial⟩⟩⟩⟩⟩⟩⟩⟩ rfl (by decide +kernel) (adl := [a_t, a_t_bytes]) rfl rfl rfl rfl rfl (Nat.le_of_ble_eq_true rfl) ⟨Nat.le_refl _, Nat.le_refl _⟩ dX3_readItem_25 rfl ?_
        refine pb_aload_n (pc := 28) C dX3_readItem_28 rfl 0 rfl ?_
        refine pb_get (pc := 29) C hnX3_readItem_X3 0 rfl rfl 5 (by decide) (List.mem_of_getElem? (i := 1) rfl) rfl rfl dX3_readItem_29 ?_
        refine pb_iconst (v := 3) (pc := 32) C dX3_readItem_32 pb_kI_3 ?_
        refine pb_icmp_ne (pc := 33) (tgt := 40) C dX3_readItem_33 (by decide) (fun hc33 => ?_) (fun hc33 => ?_)
        · have hf := pb_neg hf hc33
          refine pb_iconst (v := 0) (pc := 40) C dX3_readItem_40 pb_kI_0 ?_
          obtain rfl := Option.some.inj hf
          exact pb_zret (pc := 41) C hr hlk hA pb_isB0 dX3_readItem_41
        · have hf := pb_pos hf hc33
          refine pb_iconst (v := 1) (pc := 36) C dX3_readItem_36 pb_kI_1 ?_
          refine pb_goto (pc := 37) (tgt := 41) C dX3_readItem_37 (by decide) ?_
          obtain rfl := Option.some.inj hf
          exact pb_zret (pc := 41) C hr hlk hA pb_isB1 dX3_readItem_41
    · have hf := pb_neg hf hc15
      refine pb_iconst (v := 0) (pc := 18) C dX3_readItem_18 pb_kI_0 ?_
      obtain rfl := Option.some.inj hf
      exact pb_zret (pc := 19) C hr hlk hA pb_isB0 dX3_readItem_19
def rmX3_readInto : Room := { frames := 6, cells := 0, slots := 0, locals := 129 }
def wwX3_readInto (cyB cyI cyJ cyZ cyS : ClassId) (a_t a_t_bytes a_t_numbers a_p1 a_p1_laws a_p1_finds a_p1_bets a_p1_prices a_p1_stepCells a_p1_stepSizes a_p1_laws_cells a_p1_finds_cells a_p1_bets_cells a_p1_prices_cells : Nat) (c_t_size : Int32) (c_t_place : Int32) (c_t_behind : Int32) (c_t_sort : Int32) (c_t_bytes : (Nat → Int32)) (c_t_numbers : (Nat → Int32)) (c_p1_steps : Int32) (c_p1_laws_size : Int32) (c_p1_laws_cells : (Nat → Int32)) (c_p1_finds_size : Int32) (c_p1_finds_cells : (Nat → Int32)) (c_p1_bets_size : Int32) (c_p1_bets_cells : (Nat → Int32)) (c_p1_prices_size : Int32) : va_W := [(a_t, .inr (3, [.ref a_t_bytes, .ref a_t_numbers, .int c_t_size, .int c_t_place, .int c_t_behind, .int c_t_sort])), (a_t_bytes, .inl (cyB, 150, .inl c_t_bytes)), (a_t_numbers, .inl (cyI, 5, .inl c_t_numbers)), (a_p1, .inr (5, [.ref a_p1_laws, .ref a_p1_finds, .ref a_p1_bets, .ref a_p1_prices, .ref a_p1_stepCells, .ref a_p1_stepSizes, .int c_p1_steps])), (a_p1_laws, .inr (6, [.int 3, .int 8, .ref a_p1_laws_cells, .int c_p1_laws_size])), (a_p1_laws_cells, .inl (cyI, 24, .inl c_p1_laws_cells)), (a_p1_finds, .inr (6, [.int 3, .int 10, .ref a_p1_finds_cells, .int c_p1_finds_size])), (a_p1_finds_cells, .inl (cyI, 30, .inl c_p1_finds_cells)), (a_p1_bets, .inr (6, [.int 5, .int 8, .ref a_p1_bets_cells, .int c_p1_bets_size])), (a_p1_bets_cells, .inl (cyI, 40, .inl c_p1_bets_cells)), (a_p1_prices, .inr (6, [.int 5, .int 6, .ref a_p1_prices_cells, .int c_p1_prices_size]))]
theorem hnX3_readInto_X3 : ∀ w ∈ wsX30, w ∈ wsX3_readInto := fun _ h => List.mem_cons_of_mem _ (List.mem_append_left _ (List.mem_append_left _ (List.mem_append_right _ h)))
set_option maxHeartbeats 4000000 in
set_option maxRecDepth 100000 in
theorem kcX3_readInto (l : Launch) (dC : Nat → ClassId) (dI : Nat → Nat → Nat) (cyB cyI cyJ cyZ cyS : ClassId) (k v t : Nat → Nat) (a_t a_t_bytes a_t_numbers a_p1 a_p1_laws a_p1_finds a_p1_bets a_p1_prices a_p1_stepCells a_p1_stepSizes a_p1_laws_cells a_p1_finds_cells a_p1_bets_cells a_p1_prices_cells : Nat) (c_t_size : Int32) (c_t_place : Int32) (c_t_behind : Int32) (c_t_sort : Int32) (c_t_bytes : (Nat → Int32)) (c_t_numbers : (Nat → Int32)) (c_p1_steps : Int32) (c_p1_laws_size : Int32) (c_p1_laws_cells : (Nat → Int32)) (c_p1_finds_size : Int32) (c_p1_finds_cells : (Nat → Int32)) (c_p1_bets_size : Int32) (c_p1_bets_cells : (Nat → Int32)) (c_p1_prices_size : Int32) (out : (Int32 × Int32 × Int32 × Int32 × (Nat → Int32) × Int32 × Int32 × (Nat → Int32) × Int32 × (Nat → Int32) × Int32 × (Nat → Int32) × Int32)) (hf : fX3_readInto c_t_size c_t_place c_t_behind c_t_sort c_t_bytes c_t_numbers c_p1_steps c_p1_laws_size c_p1_laws_cells c_p1_finds_size c_p1_finds_cells c_p1_bets_size c_p1_bets_cells c_p1_prices_size = some out) : pb_K l yX3_readInto wsX3_readInto rmX3_readInto (dC, dI) vwCl (pb_tys cyB cyI cyJ cyZ cyS) (pb_X k v t (wwX3_readInto cyB cyI cyJ cyZ cyS a_t a_t_bytes a_t_numbers a_p1 a_p1_laws a_p1_finds a_p1_bets a_p1_prices a_p1_stepCells a_p1_stepSizes a_p1_laws_cells a_p1_finds_cells a_p1_bets_cells a_p1_prices_cells c_t_size c_t_place c_t_behind c_t_sort c_t_bytes c_t_numbers c_p1_steps c_p1_laws_size c_p1_laws_cells c_p1_finds_size c_p1_finds_cells c_p1_bets_size c_p1_bets_cells c_p1_prices_size)) [.ref a_t, .ref a_p1] (wwX3_readInto cyB cyI cyJ cyZ cyS a_t a_t_bytes a_t_numbers a_p1 a_p1_laws a_p1_finds a_p1_bets a_p1_prices a_p1_stepCells a_p1_stepSizes a_p1_laws_cells a_p1_finds_cells a_p1_bets_cells a_p1_prices_cells c_t_size c_t_place c_t_behind c_t_sort c_t_bytes c_t_numbers c_p1_steps c_p1_laws_size c_p1_laws_cells c_p1_finds_size c_p1_finds_cells c_p1_bets_size c_p1_bets_cells c_p1_prices_size) (wwX3_readInto cyB cyI cyJ cyZ cyS a_t a_t_bytes a_t_numbers a_p1 a_p1_laws a_p1_finds a_p1_bets a_p1_prices a_p1_stepCells a_p1_stepSizes a_p1_laws_cells a_p1_finds_cells a_p1_bets_cells a_p1_prices_cells c_t_size out.2.1 out.2.2.1 out.2.2.2.1 c_t_bytes out.2.2.2.2.1 out.2.2.2.2.2.1 out.2.2.2.2.2.2.1 out.2.2.2.2.2.2.2.1 out.2.2.2.2.2.2.2.2.1 out.2.2.2.2.2.2.2.2.2.1 out.2.2.2.2.2.2.2.2.2.2.1 out.2.2.2.2.2.2.2.2.2.2.2.1 out.2.2.2.2.2.2.2.2.2.2.2.2) (some (.int out.1)) := by
  unfold fX3_readInto at hf
  refine pb_K.ofV (cc := cX3_readInto) (maxL := 3) (ret := (some .int)) (lv0 := [(0, .ref a_t), (1, .ref a_p1)]) (by decide) rfl (Nat.le_of_ble_eq_true rfl) rfl ?_
  intro p e s m below meth c A C hX hr hlk hA
  have hE := hX.2
  rw [hA] at hE
  refine pb_aload_n (pc := 0) C dX3_readInto_0 rfl 1 rfl ?_
  obtain ⟨r1, hr1, hf⟩ := pb_bind hf
  refine pb_callV (pc := 1) (n0 := 11) (ws' := (wwX3_readInto cyB cyI cyJ cyZ cyS a_t a_t_bytes a_t_numbers a_p1 a_p1_laws a_p1_finds a_p1_bets a_p1_prices a_p1_stepCells a_p1_stepSizes a_p1_laws_cells a_p1_finds_cells a_p1_bets_cells a_p1_prices_cells c_t_size c_t_place c_t_behind c_t_sort c_t_bytes c_t_numbers r1.1 r1.2.1 c_p1_laws_cells r1.2.2.1 c_p1_finds_cells r1.2.2.2.1 c_p1_bets_cells r1.2.2.2.2)) (rest := []) (st2 := []) C (kcX5_empty l dC dI cyB cyI cyJ cyZ cyS a_p1 a_p1_laws a_p1_finds a_p1_bets a_p1_prices a_p1_stepCells a_p1_stepSizes a_p1_laws_cells a_p1_finds_cells a_p1_bets_cells a_p1_prices_cells c_p1_steps c_p1_laws_size c_p1_finds_size c_p1_bets_size c_p1_prices_size r1 hr1) pb_NW_b (pb_NW_x hX.1) (cwV 0 C.1.2.2.2.2 gX3_readInto_X5_empty rfl rfl rfl kdV_X5_empty ⟨Nat.le_of_ble_eq_true rfl, Nat.le_of_ble_eq_true rfl⟩) 0 rfl rfl [3, 4, 6, 8, 10] [0, 1, 2, 5, 7, 9] rfl rfl ⟨⟨_, rfl, rfl⟩, ⟨⟨_, rfl, rfl⟩, ⟨⟨_, rfl, rfl⟩, ⟨⟨_, rfl, rfl⟩, ⟨⟨_, rfl, rfl⟩, ⟨⟨_, rfl, rfl⟩, trivial⟩⟩⟩⟩⟩⟩ rfl (by decide +kernel) (adl := [a_p1, a_p1_laws, a_p1_finds, a_p1_bets, a_p1_prices]) rfl rfl rfl rfl rfl (Nat.le_of_ble_eq_true rfl) ⟨Nat.le_refl _, Nat.le_refl _⟩ dX3_readInto_1 rfl ?_
  refine pb_aload_n (pc := 4) C dX3_readInto_4 rfl 0 rfl ?_
  refine pb_iconst (v := 0) (pc := 5) C dX3_readInto_5 pb_kI_0 ?_
  refine pb_put (pc := 6) (ws' := (wwX3_readInto cyB cyI cyJ cyZ cyS a_t a_t_bytes a_t_numbers a_p1 a_p1_laws a_p1_finds a_p1_bets a_p1_prices a_p1_stepCells a_p1_stepSizes a_p1_laws_cells a_p1_finds_cells a_p1_bets_cells a_p1_prices_cells c_t_size c_t_place 0 c_t_sort c_t_bytes c_t_numbers r1.1 r1.2.1 c_p1_laws_cells r1.2.2.1 c_p1_finds_cells r1.2.2.2.1 c_p1_bets_cells r1.2.2.2.2)) C hnX3_readInto_X3 tyX3 tyX3_ok nmX3 0 rfl rfl 4 (by decide) (List.mem_of_getElem? (i := 1) rfl) rfl rfl rfl rfl (Nat.le_of_ble_eq_true rfl) rfl dX3_readInto_6 ?_
  refine pb_iconst (v := 0) (pc := 9) C dX3_readInto_9 pb_kI_0 ?_
  refine pb_istore_n (lv' := [(2, .int 0), (0, .ref a_t), (1, .ref a_p1)]) (pc := 10) C dX3_readInto_10 rfl (by decide) rfl ?_
  obtain ⟨z11, hz11, hk11⟩ := pb_bind hf
  have E11 : ∀ (e11_2 : Int32) (e11_c_t_place : Int32) (e11_c_t_behind : Int32) (e11_c_t_sort : Int32) (e11_c_t_numbers : (Nat → Int32)) (e11_c_p1_laws_size : Int32) (e11_c_p1_laws_cells : (Nat → Int32)) (e11_c_p1_finds_size : Int32) (e11_c_p1_finds_cells : (Nat → Int32)) (e11_c_p1_bets_size : Int32) (e11_c_p1_bets_cells : (Nat → Int32)), fX3_readInto_E11 r1 e11_2 e11_c_t_place e11_c_t_behind e11_c_t_sort e11_c_t_numbers e11_c_p1_laws_size e11_c_p1_laws_cells e11_c_p1_finds_size e11_c_p1_finds_cells e11_c_p1_bets_size e11_c_p1_bets_cells = some out → pb_V p l e rmX3_readInto s m (([.ref a_t, .ref a_p1] : List Value).toArray) below meth c 3 (dC, dI) vwCl A 0 0 (pb_MQ below (([.ref a_t, .ref a_p1] : List Value).toArray) s (dC, dI) vwCl (wwX3_readInto cyB cyI cyJ cyZ cyS a_t a_t_bytes a_t_numbers a_p1 a_p1_laws a_p1_finds a_p1_bets a_p1_prices a_p1_stepCells a_p1_stepSizes a_p1_laws_cells a_p1_finds_cells a_p1_bets_cells a_p1_prices_cells c_t_size c_t_place c_t_behind c_t_sort c_t_bytes c_t_numbers c_p1_steps c_p1_laws_size c_p1_laws_cells c_p1_finds_size c_p1_finds_cells c_p1_bets_size c_p1_bets_cells c_p1_prices_size) (wwX3_readInto cyB cyI cyJ cyZ cyS a_t a_t_bytes a_t_numbers a_p1 a_p1_laws a_p1_finds a_p1_bets a_p1_prices a_p1_stepCells a_p1_stepSizes a_p1_laws_cells a_p1_finds_cells a_p1_bets_cells a_p1_prices_cells c_t_size out.2.1 out.2.2.1 out.2.2.2.1 c_t_bytes out.2.2.2.2.1 out.2.2.2.2.2.1 out.2.2.2.2.2.2.1 out.2.2.2.2.2.2.2.1 out.2.2.2.2.2.2.2.2.1 out.2.2.2.2.2.2.2.2.2.1 out.2.2.2.2.2.2.2.2.2.2.1 out.2.2.2.2.2.2.2.2.2.2.2.1 out.2.2.2.2.2.2.2.2.2.2.2.2) (some (.int out.1)) A) (wwX3_readInto cyB cyI cyJ cyZ cyS a_t a_t_bytes a_t_numbers a_p1 a_p1_laws a_p1_finds a_p1_bets a_p1_prices a_p1_stepCells a_p1_stepSizes a_p1_laws_cells a_p1_finds_cells a_p1_bets_cells a_p1_prices_cells c_t_size e11_c_t_place e11_c_t_behind e11_c_t_sort c_t_bytes e11_c_t_numbers r1.1 e11_c_p1_laws_size e11_c_p1_laws_cells e11_c_p1_finds_size e11_c_p1_finds_cells e11_c_p1_bets_size e11_c_p1_bets_cells r1.2.2.2.2) [] [] 64 := by
    intro e11_2 e11_c_t_place e11_c_t_behind e11_c_t_sort e11_c_t_numbers e11_c_p1_laws_size e11_c_p1_laws_cells e11_c_p1_finds_size e11_c_p1_finds_cells e11_c_p1_bets_size e11_c_p1_bets_cells hf
    unfold fX3_readInto_E11 at hf
    refine pb_iconst (v := (-1)) (pc := 64) C dX3_readInto_64 pb_kI_m1 ?_
    obtain rfl := Option.some.inj hf
    exact pb_iret (pc := 65) C hr hlk hA dX3_readInto_65
  have L11 : ∀ (n : Nat) (l11_2 : Int32) (l11_c_t_place : Int32) (l11_c_t_behind : Int32) (l11_c_t_sort : Int32) (l11_c_t_numbers : (Nat → Int32)) (l11_c_p1_laws_size : Int32) (l11_c_p1_laws_cells : (Nat → Int32)) (l11_c_p1_finds_size : Int32) (l11_c_p1_finds_cells : (Nat → Int32)) (l11_c_p1_bets_size : Int32) (l11_c_p1_bets_cells : (Nat → Int32)), pb_lp (fun y => fX3_readInto_L11 c_t_size c_t_bytes r1 y.1 y.2.1 y.2.2.1 y.2.2.2.1 y.2.2.2.2.1 y.2.2.2.2.2.1 y.2.2.2.2.2.2.1 y.2.2.2.2.2.2.2.1 y.2.2.2.2.2.2.2.2.1 y.2.2.2.2.2.2.2.2.2.1 y.2.2.2.2.2.2.2.2.2.2) n (l11_2, l11_c_t_place, l11_c_t_behind, l11_c_t_sort, l11_c_t_numbers, l11_c_p1_laws_size, l11_c_p1_laws_cells, l11_c_p1_finds_size, l11_c_p1_finds_cells, l11_c_p1_bets_size, l11_c_p1_bets_cells) = some z11 → pb_V p l e rmX3_readInto s m (([.ref a_t, .ref a_p1] : List Value).toArray) below meth c 3 (dC, dI) vwCl A 0 0 (pb_MQ below (([.ref a_t, .ref a_p1] : List Value).toArray) s (dC, dI) vwCl (wwX3_readInto cyB cyI cyJ cyZ cyS a_t a_t_bytes a_t_numbers a_p1 a_p1_laws a_p1_finds a_p1_bets a_p1_prices a_p1_stepCells a_p1_stepSizes a_p1_laws_cells a_p1_finds_cells a_p1_bets_cells a_p1_prices_cells c_t_size c_t_place c_t_behind c_t_sort c_t_bytes c_t_numbers c_p1_steps c_p1_laws_size c_p1_laws_cells c_p1_finds_size c_p1_finds_cells c_p1_bets_size c_p1_bets_cells c_p1_prices_size) (wwX3_readInto cyB cyI cyJ cyZ cyS a_t a_t_bytes a_t_numbers a_p1 a_p1_laws a_p1_finds a_p1_bets a_p1_prices a_p1_stepCells a_p1_stepSizes a_p1_laws_cells a_p1_finds_cells a_p1_bets_cells a_p1_prices_cells c_t_size out.2.1 out.2.2.1 out.2.2.2.1 c_t_bytes out.2.2.2.2.1 out.2.2.2.2.2.1 out.2.2.2.2.2.2.1 out.2.2.2.2.2.2.2.1 out.2.2.2.2.2.2.2.2.1 out.2.2.2.2.2.2.2.2.2.1 out.2.2.2.2.2.2.2.2.2.2.1 out.2.2.2.2.2.2.2.2.2.2.2.1 out.2.2.2.2.2.2.2.2.2.2.2.2) (some (.int out.1)) A) (wwX3_readInto cyB cyI cyJ cyZ cyS a_t a_t_bytes a_t_numbers a_p1 a_p1_laws a_p1_finds a_p1_bets a_p1_prices a_p1_stepCells a_p1_stepSizes a_p1_laws_cells a_p1_finds_cells a_p1_bets_cells a_p1_prices_cells c_t_size l11_c_t_place l11_c_t_behind l11_c_t_sort c_t_bytes l11_c_t_numbers r1.1 l11_c_p1_laws_size l11_c_p1_laws_cells l11_c_p1_finds_size l11_c_p1_finds_cells l11_c_p1_bets_size l11_c_p1_bets_cells r1.2.2.2.2) [(0, .ref a_t), (1, .ref a_p1), (2, .int l11_2)] [] 11 := by
    intro n
    induction n with
    | zero => intro l11_2 l11_c_t_place l11_c_t_behind l11_c_t_sort l11_c_t_numbers l11_c_p1_laws_size l11_c_p1_laws_cells l11_c_p1_finds_size l11_c_p1_finds_cells l11_c_p1_bets_size l11_c_p1_bets_cells hf; exact (pb_lp_zero hf).elim
    | succ n ih11 =>
      intro l11_2 l11_c_t_place l11_c_t_behind l11_c_t_sort l11_c_t_numbers l11_c_p1_laws_size l11_c_p1_laws_cells l11_c_p1_finds_size l11_c_p1_finds_cells l11_c_p1_bets_size l11_c_p1_bets_cells hf
      obtain ⟨y11, hf, hl11⟩ := pb_lp_succ hf
      have hf : fX3_readInto_L11 c_t_size c_t_bytes r1 l11_2 l11_c_t_place l11_c_t_behind l11_c_t_sort l11_c_t_numbers l11_c_p1_laws_size l11_c_p1_laws_cells l11_c_p1_finds_size l11_c_p1_finds_cells l11_c_p1_bets_size l11_c_p1_bets_cells = some y11 := hf
      unfold fX3_readInto_L11 at hf
      refine pb_iload_n (pc := 11) C dX3_readInto_11 rfl 2 rfl ?_
      refine pb_sipush (v := 150) (pc := 12) C dX3_readInto_12 pb_kS_150 ?_
      refine pb_icmp_gt (pc := 15) (tgt := 64) C dX3_readInto_15 (by decide) (fun hc15 => ?_) (fun hc15 => ?_)
      · have hf := pb_pos hf hc15
        obtain rfl := Option.some.inj hf
        obtain rfl := pb_esc hl11
        refine pb_sub [] rfl ?_
        have hk11 := pb_inl hk11
        exact E11 l11_2 l11_c_t_place l11_c_t_behind l11_c_t_sort l11_c_t_numbers l11_c_p1_laws_size l11_c_p1_laws_cells l11_c_p1_finds_size l11_c_p1_finds_cells l11_c_p1_bets_size l11_c_p1_bets_cells hk11
      · have hf := pb_neg hf hc15
        refine pb_aload_n (pc := 18) C dX3_readInto_18 rfl 0 rfl ?_
        obtain ⟨r19, hr19, hf⟩ := pb_bind hf
        refine pb_callV (pc := 19) (n0 := 11) (ws' := (wwX3_readInto cyB cyI cyJ cyZ cyS a_t a_t_bytes a_t_numbers a_p1 a_p1_laws a_p1_finds a_p1_bets a_p1_prices a_p1_stepCells a_p1_stepSizes a_p1_laws_cells a_p1_finds_cells a_p1_bets_cells a_p1_prices_cells c_t_size r19.1 r19.2.1 r19.2.2 c_t_bytes l11_c_t_numbers r1.1 l11_c_p1_laws_size l11_c_p1_laws_cells l11_c_p1_finds_size l11_c_p1_finds_cells l11_c_p1_bets_size l11_c_p1_bets_cells r1.2.2.2.2)) (rest := []) (st2 := []) C (kcX3_takeToken l dC dI cyB cyI cyJ cyZ cyS a_t a_t_bytes a_t_numbers c_t_size l11_c_t_place l11_c_t_behind l11_c_t_sort c_t_bytes r19 hr19) pb_NW_b (pb_NW_x hX.1) (cwV 0 C.1.2.2.2.2 gX3_readInto_X3_takeToken rfl rfl rfl kdV_X3_takeToken ⟨Nat.le_of_ble_eq_true rfl, Nat.le_of_ble_eq_true rfl⟩) 0 rfl rfl [0, 1] [2, 3, 4, 5, 6, 7, 8, 9, 10] rfl rfl ⟨⟨_, rfl, rfl⟩, ⟨⟨_, rfl, rfl⟩, ⟨⟨_, rfl, rfl⟩, ⟨⟨_, rfl, rfl⟩, ⟨⟨_, rfl, rfl⟩, ⟨⟨_, rfl, rfl⟩, ⟨⟨_, rfl, rfl⟩, ⟨⟨_, rfl, rfl⟩, ⟨⟨_, rfl, rfl⟩, trivial⟩⟩⟩⟩⟩⟩⟩⟩⟩ rfl (by decide +kernel) (adl := [a_t, a_t_bytes]) rfl rfl rfl rfl rfl (Nat.le_of_ble_eq_true rfl) ⟨Nat.le_refl _, Nat.le_refl _⟩ dX3_readInto_19 rfl ?_
        refine pb_aload_n (pc := 22) C dX3_readInto_22 rfl 0 rfl ?_
        refine pb_get (pc := 23) C hnX3_readInto_X3 0 rfl rfl 5 (by decide) (List.mem_of_getElem? (i := 2) rfl) rfl rfl dX3_readInto_23 ?_
        refine pb_if_ne (pc := 26) (tgt := 39) C dX3_readInto_26 (by decide) (fun hc26 => ?_) (fun hc26 => ?_)
        · have hf := pb_neg hf hc26
          refine pb_aload_n (pc := 39) C dX3_readInto_39 rfl 0 rfl ?_
          refine pb_aload_n (pc := 40) C dX3_readInto_40 rfl 1 rfl ?_
          refine pb_iload_n (pc := 41) C dX3_readInto_41 rfl 2 rfl ?_
          obtain ⟨y50, hf, hk50⟩ := pb_bind hf
          have J50 : ∀ (j50_s2 : Int32), fX3_readInto_J50 c_t_size c_t_bytes l11_2 l11_c_p1_bets_cells l11_c_p1_bets_size l11_c_p1_finds_cells l11_c_p1_finds_size l11_c_p1_laws_cells l11_c_p1_laws_size l11_c_t_numbers r1 r19 j50_s2 = some y11 → pb_V p l e rmX3_readInto s m (([.ref a_t, .ref a_p1] : List Value).toArray) below meth c 3 (dC, dI) vwCl A 0 0 (pb_MQ below (([.ref a_t, .ref a_p1] : List Value).toArray) s (dC, dI) vwCl (wwX3_readInto cyB cyI cyJ cyZ cyS a_t a_t_bytes a_t_numbers a_p1 a_p1_laws a_p1_finds a_p1_bets a_p1_prices a_p1_stepCells a_p1_stepSizes a_p1_laws_cells a_p1_finds_cells a_p1_bets_cells a_p1_prices_cells c_t_size c_t_place c_t_behind c_t_sort c_t_bytes c_t_numbers c_p1_steps c_p1_laws_size c_p1_laws_cells c_p1_finds_size c_p1_finds_cells c_p1_bets_size c_p1_bets_cells c_p1_prices_size) (wwX3_readInto cyB cyI cyJ cyZ cyS a_t a_t_bytes a_t_numbers a_p1 a_p1_laws a_p1_finds a_p1_bets a_p1_prices a_p1_stepCells a_p1_stepSizes a_p1_laws_cells a_p1_finds_cells a_p1_bets_cells a_p1_prices_cells c_t_size out.2.1 out.2.2.1 out.2.2.2.1 c_t_bytes out.2.2.2.2.1 out.2.2.2.2.2.1 out.2.2.2.2.2.2.1 out.2.2.2.2.2.2.2.1 out.2.2.2.2.2.2.2.2.1 out.2.2.2.2.2.2.2.2.2.1 out.2.2.2.2.2.2.2.2.2.2.1 out.2.2.2.2.2.2.2.2.2.2.2.1 out.2.2.2.2.2.2.2.2.2.2.2.2) (some (.int out.1)) A) (wwX3_readInto cyB cyI cyJ cyZ cyS a_t a_t_bytes a_t_numbers a_p1 a_p1_laws a_p1_finds a_p1_bets a_p1_prices a_p1_stepCells a_p1_stepSizes a_p1_laws_cells a_p1_finds_cells a_p1_bets_cells a_p1_prices_cells c_t_size r19.1 r19.2.1 r19.2.2 c_t_bytes l11_c_t_numbers r1.1 l11_c_p1_laws_size l11_c_p1_laws_cells l11_c_p1_finds_size l11_c_p1_finds_cells l11_c_p1_bets_size l11_c_p1_bets_cells r1.2.2.2.2) [(0, .ref a_t), (1, .ref a_p1), (2, .int l11_2)] [.int j50_s2, .ref a_p1, .ref a_t] 50 := by
            intro j50_s2 hf
            unfold fX3_readInto_J50 at hf
            obtain ⟨r50, hr50, hf⟩ := pb_bind hf
            refine pb_callV (pc := 50) (n0 := 11) (ws' := (wwX3_readInto cyB cyI cyJ cyZ cyS a_t a_t_bytes a_t_numbers a_p1 a_p1_laws a_p1_finds a_p1_bets a_p1_prices a_p1_stepCells a_p1_stepSizes a_p1_laws_cells a_p1_finds_cells a_p1_bets_cells a_p1_prices_cells c_t_size r50.2.1 r50.2.2.1 r50.2.2.2.1 c_t_bytes r50.2.2.2.2.1 r1.1 r50.2.2.2.2.2.1 r50.2.2.2.2.2.2.1 r50.2.2.2.2.2.2.2.1 r50.2.2.2.2.2.2.2.2.1 r50.2.2.2.2.2.2.2.2.2.1 r50.2.2.2.2.2.2.2.2.2.2 r1.2.2.2.2)) (rest := []) (st2 := [.int r50.1]) C (kcX3_readItem l dC dI cyB cyI cyJ cyZ cyS k v t a_t a_t_bytes a_t_numbers a_p1 a_p1_laws a_p1_finds a_p1_bets a_p1_prices a_p1_stepCells a_p1_stepSizes a_p1_laws_cells a_p1_finds_cells a_p1_bets_cells c_t_size r19.1 r19.2.1 r19.2.2 c_t_bytes l11_c_t_numbers r1.1 l11_c_p1_laws_size l11_c_p1_laws_cells l11_c_p1_finds_size l11_c_p1_finds_cells l11_c_p1_bets_size l11_c_p1_bets_cells j50_s2 r50 hr50) pb_X_b (pb_X_x hX.1 hE) (cwV 2 C.1.2.2.2.2 gX3_readInto_X3_readItem rfl rfl rfl kdV_X3_readItem ⟨Nat.le_of_ble_eq_true rfl, Nat.le_of_ble_eq_true rfl⟩) 0 rfl rfl [0, 1, 2, 3, 4, 5, 6, 7, 8, 9] [10] rfl rfl ⟨⟨_, rfl, rfl⟩, trivial⟩ rfl (by decide +kernel) (adl := [a_t, a_t_bytes, a_t_numbers, a_p1, a_p1_laws, a_p1_laws_cells, a_p1_finds, a_p1_finds_cells, a_p1_bets, a_p1_bets_cells]) rfl rfl rfl rfl rfl (Nat.le_of_ble_eq_true rfl) ⟨Nat.le_refl _, Nat.le_refl _⟩ dX3_readInto_50 rfl ?_
            refine pb_if_ne (pc := 53) (tgt := 58) C dX3_readInto_53 (by decide) (fun hc53 => ?_) (fun hc53 => ?_)
            · have hf := pb_neg hf hc53
              refine pb_iinc (v := l11_2 + 1) (lv' := [(2, .int (l11_2 + 1)), (0, .ref a_t), (1, .ref a_p1)]) (pc := 58) C dX3_readInto_58 2 rfl (pb_inc pb_kI_1 rfl) (by decide) rfl ?_
              refine pb_goto (pc := 61) (tgt := 11) C dX3_readInto_61 (by decide) ?_
              obtain rfl := Option.some.inj hf
              refine pb_sub [1, 2, 0] rfl ?_
              have hl11 := pb_inl hl11
              exact ih11 (l11_2 + 1) r50.2.1 r50.2.2.1 r50.2.2.2.1 r50.2.2.2.2.1 r50.2.2.2.2.2.1 r50.2.2.2.2.2.2.1 r50.2.2.2.2.2.2.2.1 r50.2.2.2.2.2.2.2.2.1 r50.2.2.2.2.2.2.2.2.2.1 r50.2.2.2.2.2.2.2.2.2.2 hl11
            · have hf := pb_pos hf hc53
              refine pb_iconst (v := (-1)) (pc := 56) C dX3_readInto_56 pb_kI_m1 ?_
              obtain rfl := Option.some.inj hf
              obtain rfl := pb_esc hl11
              obtain rfl := pb_esc hk11
              exact pb_iret (pc := 57) C hr hlk hA dX3_readInto_57
          refine pb_if_ne (pc := 42) (tgt := 49) C dX3_readInto_42 (by decide) (fun hc42 => ?_) (fun hc42 => ?_)
          · have hf := pb_neg hf hc42
            refine pb_iconst (v := 0) (pc := 49) C dX3_readInto_49 pb_kI_0 ?_
            obtain rfl := Option.some.inj hf
            exact J50 0 hk50
          · have hf := pb_pos hf hc42
            refine pb_iconst (v := 1) (pc := 45) C dX3_readInto_45 pb_kI_1 ?_
            refine pb_goto (pc := 46) (tgt := 50) C dX3_readInto_46 (by decide) ?_
            obtain rfl := Option.some.inj hf
            exact J50 1 hk50
        · have hf := pb_pos hf hc26
          refine pb_iload_n (pc := 29) C dX3_readInto_29 rfl 2 rfl ?_
          refine pb_if_ne (pc := 30) (tgt := 37) C dX3_readInto_30 (by decide) (fun hc30 => ?_) (fun hc30 => ?_)
          · have hf := pb_neg hf hc30
            refine pb_iload_n (pc := 37) C dX3_readInto_37 rfl 2 rfl ?_
            obtain rfl := Option.some.inj hf
            obtain rfl := pb_esc hl11
            obtain rfl := pb_esc hk11
            exact pb_iret (pc := 38) C hr hlk hA dX3_readInto_38
          · have hf := pb_pos hf hc30
            refine pb_iconst (v := (-1)) (pc := 33) C dX3_readInto_33 pb_kI_m1 ?_
            refine pb_goto (pc := 34) (tgt := 38) C dX3_readInto_34 (by decide) ?_
            obtain rfl := Option.some.inj hf
            obtain rfl := pb_esc hl11
            obtain rfl := pb_esc hk11
            exact pb_iret (pc := 38) C hr hlk hA dX3_readInto_38
  refine pb_sub [1, 2, 0] rfl ?_
  exact L11 pb_FU 0 c_t_place 0 c_t_sort c_t_numbers r1.2.1 c_p1_laws_cells r1.2.2.1 c_p1_finds_cells r1.2.2.2.1 c_p1_bets_cells hz11
def rmX7_read : Room := { frames := 7, cells := 0, slots := 0, locals := 151 }
def wwX7_read (cyB cyI cyJ cyZ cyS : ClassId) (a_t a_t_now a_t_draft a_t_images a_t_kept a_t_pasts a_t_ledger a_t_settling a_t_reader a_t_fraction a_t_now_laws a_t_now_finds a_t_now_bets a_t_now_prices a_t_now_stepCells a_t_now_stepSizes a_t_now_laws_cells a_t_now_finds_cells a_t_now_bets_cells a_t_now_prices_cells a_t_draft_laws a_t_draft_finds a_t_draft_bets a_t_draft_prices a_t_draft_stepCells a_t_draft_stepSizes a_t_draft_laws_cells a_t_draft_finds_cells a_t_draft_bets_cells a_t_draft_prices_cells a_t_pasts_open a_t_pasts_weight a_t_reader_bytes a_t_reader_numbers : Nat) (c_t_refusedBad : Int32) (c_t_refusedNo : Int32) (c_t_refusedFull : Int32) (c_t_now_steps : Int32) (c_t_now_laws_size : Int32) (c_t_now_laws_cells : (Nat → Int32)) (c_t_now_finds_size : Int32) (c_t_now_finds_cells : (Nat → Int32)) (c_t_now_bets_size : Int32) (c_t_now_bets_cells : (Nat → Int32)) (c_t_now_prices_size : Int32) (c_t_now_prices_cells : (Nat → Int32)) (c_t_now_stepCells : (Nat → Int32)) (c_t_now_stepSizes : (Nat → Int32)) (c_t_draft_steps : Int32) (c_t_draft_laws_size : Int32) (c_t_draft_laws_cells : (Nat → Int32)) (c_t_draft_finds_size : Int32) (c_t_draft_finds_cells : (Nat → Int32)) (c_t_draft_bets_size : Int32) (c_t_draft_bets_cells : (Nat → Int32)) (c_t_draft_prices_size : Int32) (c_t_draft_prices_cells : (Nat → Int32)) (c_t_draft_stepCells : (Nat → Int32)) (c_t_draft_stepSizes : (Nat → Int32)) (c_t_pasts_total : Int64) (c_t_pasts_stale : Int32) (c_t_reader_size : Int32) (c_t_reader_place : Int32) (c_t_reader_behind : Int32) (c_t_reader_sort : Int32) (c_t_reader_bytes : (Nat → Int32)) (c_t_reader_numbers : (Nat → Int32)) : va_W := [(a_t, .inr (7, [.ref a_t_now, .ref a_t_draft, .ref a_t_images, .ref a_t_kept, .ref a_t_pasts, .ref a_t_ledger, .ref a_t_settling, .ref a_t_reader, .ref a_t_fraction, .int c_t_refusedBad, .int c_t_refusedNo, .int c_t_refusedFull])), (a_t_now, .inr (5, [.ref a_t_now_laws, .ref a_t_now_finds, .ref a_t_now_bets, .ref a_t_now_prices, .ref a_t_now_stepCells, .ref a_t_now_stepSizes, .int c_t_now_steps])), (a_t_now_laws, .inr (6, [.int 3, .int 8, .ref a_t_now_laws_cells, .int c_t_now_laws_size])), (a_t_now_laws_cells, .inl (cyI, 24, .inl c_t_now_laws_cells)), (a_t_now_finds, .inr (6, [.int 3, .int 10, .ref a_t_now_finds_cells, .int c_t_now_finds_size])), (a_t_now_finds_cells, .inl (cyI, 30, .inl c_t_now_finds_cells)), (a_t_now_bets, .inr (6, [.int 5, .int 8, .ref a_t_now_bets_cells, .int c_t_now_bets_size])), (a_t_now_bets_cells, .inl (cyI, 40, .inl c_t_now_bets_cells)), (a_t_now_prices, .inr (6, [.int 5, .int 6, .ref a_t_now_prices_cells, .int c_t_now_prices_size])), (a_t_now_prices_cells, .inl (cyI, 30, .inl c_t_now_prices_cells)), (a_t_now_stepCells, .inl (cyI, 240, .inl c_t_now_stepCells)), (a_t_now_stepSizes, .inl (cyI, 8, .inl c_t_now_stepSizes)), (a_t_draft, .inr (5, [.ref a_t_draft_laws, .ref a_t_draft_finds, .ref a_t_draft_bets, .ref a_t_draft_prices, .ref a_t_draft_stepCells, .ref a_t_draft_stepSizes, .int c_t_draft_steps])), (a_t_draft_laws, .inr (6, [.int 3, .int 8, .ref a_t_draft_laws_cells, .int c_t_draft_laws_size])), (a_t_draft_laws_cells, .inl (cyI, 24, .inl c_t_draft_laws_cells)), (a_t_draft_finds, .inr (6, [.int 3, .int 10, .ref a_t_draft_finds_cells, .int c_t_draft_finds_size])), (a_t_draft_finds_cells, .inl (cyI, 30, .inl c_t_draft_finds_cells)), (a_t_draft_bets, .inr (6, [.int 5, .int 8, .ref a_t_draft_bets_cells, .int c_t_draft_bets_size])), (a_t_draft_bets_cells, .inl (cyI, 40, .inl c_t_draft_bets_cells)), (a_t_draft_prices, .inr (6, [.int 5, .int 6, .ref a_t_draft_prices_cells, .int c_t_draft_prices_size])), (a_t_draft_prices_cells, .inl (cyI, 30, .inl c_t_draft_prices_cells)), (a_t_draft_stepCells, .inl (cyI, 240, .inl c_t_draft_stepCells)), (a_t_draft_stepSizes, .inl (cyI, 8, .inl c_t_draft_stepSizes)), (a_t_pasts, .inr (2, [.ref a_t_pasts_open, .ref a_t_pasts_weight, .long c_t_pasts_total, .int c_t_pasts_stale])), (a_t_reader, .inr (3, [.ref a_t_reader_bytes, .ref a_t_reader_numbers, .int c_t_reader_size, .int c_t_reader_place, .int c_t_reader_behind, .int c_t_reader_sort])), (a_t_reader_bytes, .inl (cyB, 150, .inl c_t_reader_bytes)), (a_t_reader_numbers, .inl (cyI, 5, .inl c_t_reader_numbers))]
theorem hnX7_read_X2 : ∀ w ∈ wsX20, w ∈ wsX7_read := fun _ h => List.mem_cons_of_mem _ (List.mem_append_left _ (List.mem_append_left _ (List.mem_append_right _ h)))
theorem hnX7_read_X3 : ∀ w ∈ wsX30, w ∈ wsX7_read := fun _ h => List.mem_cons_of_mem _ (List.mem_append_left _ (List.mem_append_left _ (List.mem_append_left _ (List.mem_append_right _ h))))
theorem hnX7_read_X7 : ∀ w ∈ wsX70, w ∈ wsX7_read := fun _ h => List.mem_cons_of_mem _ (List.mem_append_left _ (List.mem_append_left _ (List.mem_append_left _ (List.mem_append_left _ (List.mem_append_right _ h)))))
set_option maxHeartbeats 4000000 in
set_option maxRecDepth 100000 in
theorem kcX7_read (l : Launch) (dC : Nat → ClassId) (dI : Nat → Nat → Nat) (cyB cyI cyJ cyZ cyS : ClassId) (k v t : Nat → Nat) (a_t a_t_now a_t_draft a_t_images a_t_kept a_t_pasts a_t_ledger a_t_settling a_t_reader a_t_fraction a_t_now_laws a_t_now_finds a_t_now_bets a_t_now_prices a_t_now_stepCells a_t_now_stepSizes a_t_now_laws_cells a_t_now_finds_cells a_t_now_bets_cells a_t_now_prices_cells a_t_draft_laws a_t_draft_finds a_t_draft_bets a_t_draft_prices a_t_draft_stepCells a_t_draft_stepSizes a_t_draft_laws_cells a_t_draft_finds_cells a_t_draft_bets_cells a_t_draft_prices_cells a_t_pasts_open a_t_pasts_weight a_t_reader_bytes a_t_reader_numbers : Nat) (c_t_refusedBad : Int32) (c_t_refusedNo : Int32) (c_t_refusedFull : Int32) (c_t_now_steps : Int32) (c_t_now_laws_size : Int32) (c_t_now_laws_cells : (Nat → Int32)) (c_t_now_finds_size : Int32) (c_t_now_finds_cells : (Nat → Int32)) (c_t_now_bets_size : Int32) (c_t_now_bets_cells : (Nat → Int32)) (c_t_now_prices_size : Int32) (c_t_now_prices_cells : (Nat → Int32)) (c_t_now_stepCells : (Nat → Int32)) (c_t_now_stepSizes : (Nat → Int32)) (c_t_draft_steps : Int32) (c_t_draft_laws_size : Int32) (c_t_draft_laws_cells : (Nat → Int32)) (c_t_draft_finds_size : Int32) (c_t_draft_finds_cells : (Nat → Int32)) (c_t_draft_bets_size : Int32) (c_t_draft_bets_cells : (Nat → Int32)) (c_t_draft_prices_size : Int32) (c_t_draft_prices_cells : (Nat → Int32)) (c_t_draft_stepCells : (Nat → Int32)) (c_t_draft_stepSizes : (Nat → Int32)) (c_t_pasts_total : Int64) (c_t_pasts_stale : Int32) (c_t_reader_size : Int32) (c_t_reader_place : Int32) (c_t_reader_behind : Int32) (c_t_reader_sort : Int32) (c_t_reader_bytes : (Nat → Int32)) (c_t_reader_numbers : (Nat → Int32)) (out : (Int32 × Int32 × Int32 × (Nat → Int32) × Int32 × (Nat → Int32) × Int32 × (Nat → Int32) × Int32 × (Nat → Int32) × (Nat → Int32) × (Nat → Int32) × Int32 × Int32 × (Nat → Int32) × Int32 × (Nat → Int32) × Int32 × (Nat → Int32) × Int32 × Int32 × Int32 × Int32 × Int32 × (Nat → Int32))) (hf : fX7_read c_t_now_steps c_t_now_laws_size c_t_now_laws_cells c_t_now_finds_size c_t_now_finds_cells c_t_now_bets_size c_t_now_bets_cells c_t_now_prices_size c_t_now_prices_cells c_t_now_stepCells c_t_now_stepSizes c_t_draft_steps c_t_draft_laws_size c_t_draft_laws_cells c_t_draft_finds_size c_t_draft_finds_cells c_t_draft_bets_size c_t_draft_bets_cells c_t_draft_prices_size c_t_draft_prices_cells c_t_draft_stepCells c_t_draft_stepSizes c_t_pasts_stale c_t_reader_size c_t_reader_place c_t_reader_behind c_t_reader_sort c_t_reader_bytes c_t_reader_numbers = some out) : pb_K l yX7_read wsX7_read rmX7_read (dC, dI) vwCl (pb_tys cyB cyI cyJ cyZ cyS) (pb_X k v t (wwX7_read cyB cyI cyJ cyZ cyS a_t a_t_now a_t_draft a_t_images a_t_kept a_t_pasts a_t_ledger a_t_settling a_t_reader a_t_fraction a_t_now_laws a_t_now_finds a_t_now_bets a_t_now_prices a_t_now_stepCells a_t_now_stepSizes a_t_now_laws_cells a_t_now_finds_cells a_t_now_bets_cells a_t_now_prices_cells a_t_draft_laws a_t_draft_finds a_t_draft_bets a_t_draft_prices a_t_draft_stepCells a_t_draft_stepSizes a_t_draft_laws_cells a_t_draft_finds_cells a_t_draft_bets_cells a_t_draft_prices_cells a_t_pasts_open a_t_pasts_weight a_t_reader_bytes a_t_reader_numbers c_t_refusedBad c_t_refusedNo c_t_refusedFull c_t_now_steps c_t_now_laws_size c_t_now_laws_cells c_t_now_finds_size c_t_now_finds_cells c_t_now_bets_size c_t_now_bets_cells c_t_now_prices_size c_t_now_prices_cells c_t_now_stepCells c_t_now_stepSizes c_t_draft_steps c_t_draft_laws_size c_t_draft_laws_cells c_t_draft_finds_size c_t_draft_finds_cells c_t_draft_bets_size c_t_draft_bets_cells c_t_draft_prices_size c_t_draft_prices_cells c_t_draft_stepCells c_t_draft_stepSizes c_t_pasts_total c_t_pasts_stale c_t_reader_size c_t_reader_place c_t_reader_behind c_t_reader_sort c_t_reader_bytes c_t_reader_numbers)) [.ref a_t] (wwX7_read cyB cyI cyJ cyZ cyS a_t a_t_now a_t_draft a_t_images a_t_kept a_t_pasts a_t_ledger a_t_settling a_t_reader a_t_fraction a_t_now_laws a_t_now_finds a_t_now_bets a_t_now_prices a_t_now_stepCells a_t_now_stepSizes a_t_now_laws_cells a_t_now_finds_cells a_t_now_bets_cells a_t_now_prices_cells a_t_draft_laws a_t_draft_finds a_t_draft_bets a_t_draft_prices a_t_draft_stepCells a_t_draft_stepSizes a_t_draft_laws_cells a_t_draft_finds_cells a_t_draft_bets_cells a_t_draft_prices_cells a_t_pasts_open a_t_pasts_weight a_t_reader_bytes a_t_reader_numbers c_t_refusedBad c_t_refusedNo c_t_refusedFull c_t_now_steps c_t_now_laws_size c_t_now_laws_cells c_t_now_finds_size c_t_now_finds_cells c_t_now_bets_size c_t_now_bets_cells c_t_now_prices_size c_t_now_prices_cells c_t_now_stepCells c_t_now_stepSizes c_t_draft_steps c_t_draft_laws_size c_t_draft_laws_cells c_t_draft_finds_size c_t_draft_finds_cells c_t_draft_bets_size c_t_draft_bets_cells c_t_draft_prices_size c_t_draft_prices_cells c_t_draft_stepCells c_t_draft_stepSizes c_t_pasts_total c_t_pasts_stale c_t_reader_size c_t_reader_place c_t_reader_behind c_t_reader_sort c_t_reader_bytes c_t_reader_numbers) (wwX7_read cyB cyI cyJ cyZ cyS a_t a_t_now a_t_draft a_t_images a_t_kept a_t_pasts a_t_ledger a_t_settling a_t_reader a_t_fraction a_t_now_laws a_t_now_finds a_t_now_bets a_t_now_prices a_t_now_stepCells a_t_now_stepSizes a_t_now_laws_cells a_t_now_finds_cells a_t_now_bets_cells a_t_now_prices_cells a_t_draft_laws a_t_draft_finds a_t_draft_bets a_t_draft_prices a_t_draft_stepCells a_t_draft_stepSizes a_t_draft_laws_cells a_t_draft_finds_cells a_t_draft_bets_cells a_t_draft_prices_cells a_t_pasts_open a_t_pasts_weight a_t_reader_bytes a_t_reader_numbers c_t_refusedBad c_t_refusedNo c_t_refusedFull out.2.1 out.2.2.1 out.2.2.2.1 out.2.2.2.2.1 out.2.2.2.2.2.1 out.2.2.2.2.2.2.1 out.2.2.2.2.2.2.2.1 out.2.2.2.2.2.2.2.2.1 out.2.2.2.2.2.2.2.2.2.1 out.2.2.2.2.2.2.2.2.2.2.1 out.2.2.2.2.2.2.2.2.2.2.2.1 out.2.2.2.2.2.2.2.2.2.2.2.2.1 out.2.2.2.2.2.2.2.2.2.2.2.2.2.1 out.2.2.2.2.2.2.2.2.2.2.2.2.2.2.1 out.2.2.2.2.2.2.2.2.2.2.2.2.2.2.2.1 out.2.2.2.2.2.2.2.2.2.2.2.2.2.2.2.2.1 out.2.2.2.2.2.2.2.2.2.2.2.2.2.2.2.2.2.1 out.2.2.2.2.2.2.2.2.2.2.2.2.2.2.2.2.2.2.1 out.2.2.2.2.2.2.2.2.2.2.2.2.2.2.2.2.2.2.2.1 c_t_draft_prices_cells c_t_draft_stepCells c_t_draft_stepSizes c_t_pasts_total out.2.2.2.2.2.2.2.2.2.2.2.2.2.2.2.2.2.2.2.2.1 c_t_reader_size out.2.2.2.2.2.2.2.2.2.2.2.2.2.2.2.2.2.2.2.2.2.1 out.2.2.2.2.2.2.2.2.2.2.2.2.2.2.2.2.2.2.2.2.2.2.1 out.2.2.2.2.2.2.2.2.2.2.2.2.2.2.2.2.2.2.2.2.2.2.2.1 c_t_reader_bytes out.2.2.2.2.2.2.2.2.2.2.2.2.2.2.2.2.2.2.2.2.2.2.2.2) (some (.int out.1)) := by
  unfold fX7_read at hf
  refine pb_K.ofV (cc := cX7_read) (maxL := 2) (ret := (some .int)) (lv0 := [(0, .ref a_t)]) (by decide) rfl (Nat.le_of_ble_eq_true rfl) rfl ?_
  intro p e s m below meth c A C hX hr hlk hA
  have hE := hX.2
  rw [hA] at hE
  refine pb_aload_n (pc := 0) C dX7_read_0 rfl 0 rfl ?_
  refine pb_get (pc := 1) C hnX7_read_X7 0 rfl rfl 7 (by decide) (List.mem_of_getElem? (i := 1) rfl) rfl rfl dX7_read_1 ?_
  refine pb_aload_n (pc := 4) C dX7_read_4 rfl 0 rfl ?_
  refine pb_get (pc := 5) C hnX7_read_X7 0 rfl rfl 1 (by decide) (List.mem_of_getElem? (i := 2) rfl) rfl rfl dX7_read_5 ?_
  obtain ⟨r8, hr8, hf⟩ := pb_bind hf
  refine pb_callV (pc := 8) (n0 := 27) (ws' := (wwX7_read cyB cyI cyJ cyZ cyS a_t a_t_now a_t_draft a_t_images a_t_kept a_t_pasts a_t_ledger a_t_settling a_t_reader a_t_fraction a_t_now_laws a_t_now_finds a_t_now_bets a_t_now_prices a_t_now_stepCells a_t_now_stepSizes a_t_now_laws_cells a_t_now_finds_cells a_t_now_bets_cells a_t_now_prices_cells a_t_draft_laws a_t_draft_finds a_t_draft_bets a_t_draft_prices a_t_draft_stepCells a_t_draft_stepSizes a_t_draft_laws_cells a_t_draft_finds_cells a_t_draft_bets_cells a_t_draft_prices_cells a_t_pasts_open a_t_pasts_weight a_t_reader_bytes a_t_reader_numbers c_t_refusedBad c_t_refusedNo c_t_refusedFull c_t_now_steps c_t_now_laws_size c_t_now_laws_cells c_t_now_finds_size c_t_now_finds_cells c_t_now_bets_size c_t_now_bets_cells c_t_now_prices_size c_t_now_prices_cells c_t_now_stepCells c_t_now_stepSizes r8.2.2.2.2.2.1 r8.2.2.2.2.2.2.1 r8.2.2.2.2.2.2.2.1 r8.2.2.2.2.2.2.2.2.1 r8.2.2.2.2.2.2.2.2.2.1 r8.2.2.2.2.2.2.2.2.2.2.1 r8.2.2.2.2.2.2.2.2.2.2.2.1 r8.2.2.2.2.2.2.2.2.2.2.2.2 c_t_draft_prices_cells c_t_draft_stepCells c_t_draft_stepSizes c_t_pasts_total c_t_pasts_stale c_t_reader_size r8.2.1 r8.2.2.1 r8.2.2.2.1 c_t_reader_bytes r8.2.2.2.2.1)) (rest := []) (st2 := [.int r8.1]) C (kcX3_readInto l dC dI cyB cyI cyJ cyZ cyS k v t a_t_reader a_t_reader_bytes a_t_reader_numbers a_t_draft a_t_draft_laws a_t_draft_finds a_t_draft_bets a_t_draft_prices a_t_draft_stepCells a_t_draft_stepSizes a_t_draft_laws_cells a_t_draft_finds_cells a_t_draft_bets_cells a_t_draft_prices_cells c_t_reader_size c_t_reader_place c_t_reader_behind c_t_reader_sort c_t_reader_bytes c_t_reader_numbers c_t_draft_steps c_t_draft_laws_size c_t_draft_laws_cells c_t_draft_finds_size c_t_draft_finds_cells c_t_draft_bets_size c_t_draft_bets_cells c_t_draft_prices_size r8 hr8) pb_X_b (pb_X_x hX.1 hE) (cwV 1 C.1.2.2.2.2 gX7_read_X3_readInto rfl rfl rfl kdV_X3_readInto ⟨Nat.le_of_ble_eq_true rfl, Nat.le_of_ble_eq_true rfl⟩) 0 rfl rfl [24, 25, 26, 12, 13, 14, 15, 16, 17, 18, 19] [0, 1, 2, 3, 4, 5, 6, 7, 8, 9, 10, 11, 20, 21, 22, 23] rfl rfl ⟨⟨_, rfl, rfl⟩, ⟨⟨_, rfl, rfl⟩, ⟨⟨_, rfl, rfl⟩, ⟨⟨_, rfl, rfl⟩, ⟨⟨_, rfl, rfl⟩, ⟨⟨_, rfl, rfl⟩, ⟨⟨_, rfl, rfl⟩, ⟨⟨_, rfl, rfl⟩, ⟨⟨_, rfl, rfl⟩, ⟨⟨_, rfl, rfl⟩, ⟨⟨_, rfl, rfl⟩, ⟨⟨_, rfl, rfl⟩, ⟨⟨_, rfl, rfl⟩, ⟨⟨_, rfl, rfl⟩, ⟨⟨_, rfl, rfl⟩, ⟨⟨_, rfl, rfl⟩, trivial⟩⟩⟩⟩⟩⟩⟩⟩⟩⟩⟩⟩⟩⟩⟩⟩ rfl (by decide +kernel) (adl := [a_t_reader, a_t_reader_bytes, a_t_reader_numbers, a_t_draft, a_t_draft_laws, a_t_draft_laws_cells, a_t_draft_finds, a_t_draft_finds_cells, a_t_draft_bets, a_t_draft_bets_cells, a_t_draft_prices]) rfl rfl rfl rfl rfl (Nat.le_of_ble_eq_true rfl) ⟨Nat.le_refl _, Nat.le_refl _⟩ dX7_read_8 rfl ?_
  refine pb_istore_n (lv' := [(1, .int r8.1), (0, .ref a_t)]) (pc := 11) C dX7_read_11 rfl (by decide) rfl ?_
  refine pb_iload_n (pc := 12) C dX7_read_12 rfl 0 rfl ?_
  refine pb_iconst (v := (-1)) (pc := 13) C dX7_read_13 pb_kI_m1 ?_
  refine pb_icmp_ne (pc := 14) (tgt := 28) C dX7_read_14 (by decide) (fun hc14 => ?_) (fun hc14 => ?_)
  · have hf := pb_neg hf hc14
    refine pb_aload_n (pc := 28) C dX7_read_28 rfl 1 rfl ?_
    refine pb_get (pc := 29) C hnX7_read_X7 0 rfl rfl 0 (by decide) (List.mem_of_getElem? (i := 4) rfl) rfl rfl dX7_read_29 ?_
    refine pb_aload_n (pc := 32) C dX7_read_32 rfl 1 rfl ?_
    refine pb_get (pc := 33) C hnX7_read_X7 0 rfl rfl 1 (by decide) (List.mem_of_getElem? (i := 2) rfl) rfl rfl dX7_read_33 ?_
    obtain ⟨r36, hr36, hf⟩ := pb_bind hf
    refine pb_callV (pc := 36) (n0 := 27) (ws' := (wwX7_read cyB cyI cyJ cyZ cyS a_t a_t_now a_t_draft a_t_images a_t_kept a_t_pasts a_t_ledger a_t_settling a_t_reader a_t_fraction a_t_now_laws a_t_now_finds a_t_now_bets a_t_now_prices a_t_now_stepCells a_t_now_stepSizes a_t_now_laws_cells a_t_now_finds_cells a_t_now_bets_cells a_t_now_prices_cells a_t_draft_laws a_t_draft_finds a_t_draft_bets a_t_draft_prices a_t_draft_stepCells a_t_draft_stepSizes a_t_draft_laws_cells a_t_draft_finds_cells a_t_draft_bets_cells a_t_draft_prices_cells a_t_pasts_open a_t_pasts_weight a_t_reader_bytes a_t_reader_numbers c_t_refusedBad c_t_refusedNo c_t_refusedFull r36.1 r36.2.1 r36.2.2.1 r36.2.2.2.1 r36.2.2.2.2.1 r36.2.2.2.2.2.1 r36.2.2.2.2.2.2.1 r36.2.2.2.2.2.2.2.1 r36.2.2.2.2.2.2.2.2.1 r36.2.2.2.2.2.2.2.2.2.1 r36.2.2.2.2.2.2.2.2.2.2 r8.2.2.2.2.2.1 r8.2.2.2.2.2.2.1 r8.2.2.2.2.2.2.2.1 r8.2.2.2.2.2.2.2.2.1 r8.2.2.2.2.2.2.2.2.2.1 r8.2.2.2.2.2.2.2.2.2.2.1 r8.2.2.2.2.2.2.2.2.2.2.2.1 r8.2.2.2.2.2.2.2.2.2.2.2.2 c_t_draft_prices_cells c_t_draft_stepCells c_t_draft_stepSizes c_t_pasts_total c_t_pasts_stale c_t_reader_size r8.2.1 r8.2.2.1 r8.2.2.2.1 c_t_reader_bytes r8.2.2.2.2.1)) (rest := []) (st2 := []) C (kcX5_takeOver l dC dI cyB cyI cyJ cyZ cyS a_t_now a_t_now_laws a_t_now_finds a_t_now_bets a_t_now_prices a_t_now_stepCells a_t_now_stepSizes a_t_now_laws_cells a_t_now_finds_cells a_t_now_bets_cells a_t_now_prices_cells a_t_draft a_t_draft_laws a_t_draft_finds a_t_draft_bets a_t_draft_prices a_t_draft_stepCells a_t_draft_stepSizes a_t_draft_laws_cells a_t_draft_finds_cells a_t_draft_bets_cells a_t_draft_prices_cells c_t_now_steps c_t_now_laws_size c_t_now_laws_cells c_t_now_finds_size c_t_now_finds_cells c_t_now_bets_size c_t_now_bets_cells c_t_now_prices_size c_t_now_prices_cells c_t_now_stepCells c_t_now_stepSizes r8.2.2.2.2.2.1 r8.2.2.2.2.2.2.1 r8.2.2.2.2.2.2.2.1 r8.2.2.2.2.2.2.2.2.1 r8.2.2.2.2.2.2.2.2.2.1 r8.2.2.2.2.2.2.2.2.2.2.1 r8.2.2.2.2.2.2.2.2.2.2.2.1 r8.2.2.2.2.2.2.2.2.2.2.2.2 c_t_draft_prices_cells c_t_draft_stepCells c_t_draft_stepSizes r36 hr36) pb_NW_b (pb_NW_x hX.1) (cwV 1 C.1.2.2.2.2 gX7_read_X5_takeOver rfl rfl rfl kdV_X5_takeOver ⟨Nat.le_of_ble_eq_true rfl, Nat.le_of_ble_eq_true rfl⟩) 0 rfl rfl [1, 2, 3, 4, 5, 6, 7, 8, 9, 10, 11, 12, 13, 14, 15, 16, 17, 18, 19, 20, 21, 22] [0, 23, 24, 25, 26] rfl rfl ⟨⟨_, rfl, rfl⟩, ⟨⟨_, rfl, rfl⟩, ⟨⟨_, rfl, rfl⟩, ⟨⟨_, rfl, rfl⟩, ⟨⟨_, rfl, rfl⟩, trivial⟩⟩⟩⟩⟩ rfl (by decide +kernel) (adl := [a_t_now, a_t_now_laws, a_t_now_laws_cells, a_t_now_finds, a_t_now_finds_cells, a_t_now_bets, a_t_now_bets_cells, a_t_now_prices, a_t_now_prices_cells, a_t_now_stepCells, a_t_now_stepSizes, a_t_draft, a_t_draft_laws, a_t_draft_laws_cells, a_t_draft_finds, a_t_draft_finds_cells, a_t_draft_bets, a_t_draft_bets_cells, a_t_draft_prices, a_t_draft_prices_cells, a_t_draft_stepCells, a_t_draft_stepSizes]) rfl rfl rfl rfl rfl (Nat.le_of_ble_eq_true rfl) ⟨Nat.le_refl _, Nat.le_refl _⟩ dX7_read_36 rfl ?_
    refine pb_aload_n (pc := 39) C dX7_read_39 rfl 1 rfl ?_
    refine pb_get (pc := 40) C hnX7_read_X7 0 rfl rfl 4 (by decide) (List.mem_of_getElem? (i := 5) rfl) rfl rfl dX7_read_40 ?_
    refine pb_iconst (v := 1) (pc := 43) C dX7_read_43 pb_kI_1 ?_
    refine pb_put (pc := 44) (ws' := (wwX7_read cyB cyI cyJ cyZ cyS a_t a_t_now a_t_draft a_t_images a_t_kept a_t_pasts a_t_ledger a_t_settling a_t_reader a_t_fraction a_t_now_laws a_t_now_finds a_t_now_bets a_t_now_prices a_t_now_stepCells a_t_now_stepSizes a_t_now_laws_cells a_t_now_finds_cells a_t_now_bets_cells a_t_now_prices_cells a_t_draft_laws a_t_draft_finds a_t_draft_bets a_t_draft_prices a_t_draft_stepCells a_t_draft_stepSizes a_t_draft_laws_cells a_t_draft_finds_cells a_t_draft_bets_cells a_t_draft_prices_cells a_t_pasts_open a_t_pasts_weight a_t_reader_bytes a_t_reader_numbers c_t_refusedBad c_t_refusedNo c_t_refusedFull r36.1 r36.2.1 r36.2.2.1 r36.2.2.2.1 r36.2.2.2.2.1 r36.2.2.2.2.2.1 r36.2.2.2.2.2.2.1 r36.2.2.2.2.2.2.2.1 r36.2.2.2.2.2.2.2.2.1 r36.2.2.2.2.2.2.2.2.2.1 r36.2.2.2.2.2.2.2.2.2.2 r8.2.2.2.2.2.1 r8.2.2.2.2.2.2.1 r8.2.2.2.2.2.2.2.1 r8.2.2.2.2.2.2.2.2.1 r8.2.2.2.2.2.2.2.2.2.1 r8.2.2.2.2.2.2.2.2.2.2.1 r8.2.2.2.2.2.2.2.2.2.2.2.1 r8.2.2.2.2.2.2.2.2.2.2.2.2 c_t_draft_prices_cells c_t_draft_stepCells c_t_draft_stepSizes c_t_pasts_total 1 c_t_reader_size r8.2.1 r8.2.2.1 r8.2.2.2.1 c_t_reader_bytes r8.2.2.2.2.1)) C hnX7_read_X2 tyX2 tyX2_ok nmX2 23 rfl rfl 3 (by decide) (List.mem_of_getElem? (i := 6) rfl) rfl rfl rfl rfl (Nat.le_of_ble_eq_true rfl) rfl dX7_read_44 ?_
    refine pb_iload_n (pc := 47) C dX7_read_47 rfl 0 rfl ?_
    obtain rfl := Option.some.inj hf
    exact pb_iret (pc := 48) C hr hlk hA dX7_read_48
  · have hf := pb_pos hf hc14
    refine pb_bipush (v := (-10)) (pc := 17) C dX7_read_17 pb_kB_m10 ?_
    refine pb_aload_n (pc := 19) C dX7_read_19 rfl 1 rfl ?_
    refine pb_get (pc := 20) C hnX7_read_X7 0 rfl rfl 7 (by decide) (List.mem_of_getElem? (i := 1) rfl) rfl rfl dX7_read_20 ?_
    refine pb_get (pc := 23) C hnX7_read_X3 24 rfl rfl 3 (by decide) (List.mem_of_getElem? (i := 3) rfl) rfl rfl dX7_read_23 ?_
    refine pb_isub (pc := 26) C dX7_read_26 ?_
    obtain rfl := Option.some.inj hf
    exact pb_iret (pc := 27) C hr hlk hA dX7_read_27
