def rmX2_heldIf : Room := { frames := 2, cells := 0, slots := 0, locals := 46 }
def wwX2_heldIf (cyB cyI cyJ cyZ cyS : ClassId) (a_t a_t_open a_t_weight : Nat) (c_t_total : Int64) (c_t_stale : Int32) (c_t_weight : (Nat → Int64)) : va_W := [(a_t, .inr (2, [.ref a_t_open, .ref a_t_weight, .long c_t_total, .int c_t_stale])), (a_t_weight, .inl (cyJ, 128, .inr (.inl c_t_weight)))]
theorem hnX2_heldIf_X2 : ∀ w ∈ wsX20, w ∈ wsX2_heldIf := fun _ h => List.mem_cons_of_mem _ (List.mem_append_right _ h)
set_option maxHeartbeats 4000000 in
set_option maxRecDepth 100000 in
theorem kcX2_heldIf (l : Launch) (dC : Nat → ClassId) (dI : Nat → Nat → Nat) (cyB cyI cyJ cyZ cyS : ClassId) (a_t a_t_open a_t_weight : Nat) (c_t_total : Int64) (c_t_stale : Int32) (c_t_weight : (Nat → Int64)) (p1 : Int32) (p2 : Int32) (p3 : Int32) (p4 : Int32) (p5 : Int32) (p6 : Int32) (out : Int64) (hf : fX2_heldIf c_t_weight p1 p2 p3 p4 p5 p6 = some out) : pb_K l yX2_heldIf wsX2_heldIf rmX2_heldIf (dC, dI) vwCl (pb_tys cyB cyI cyJ cyZ cyS) pb_NW [.ref a_t, .int p1, .int p2, .int p3, .int p4, .int p5, .int p6] (wwX2_heldIf cyB cyI cyJ cyZ cyS a_t a_t_open a_t_weight c_t_total c_t_stale c_t_weight) (wwX2_heldIf cyB cyI cyJ cyZ cyS a_t a_t_open a_t_weight c_t_total c_t_stale c_t_weight) (some (.long out)) := by
  unfold fX2_heldIf at hf
  refine pb_K.ofV (cc := cX2_heldIf) (maxL := 10) (ret := (some .long)) (lv0 := [(0, .ref a_t), (1, .int p1), (2, .int p2), (3, .int p3), (4, .int p4), (5, .int p5), (6, .int p6)]) (by decide) rfl (Nat.le_of_ble_eq_true rfl) rfl ?_
  intro p e s m below meth c A C hX hr hlk hA
  refine pb_lconst (v := 0) (pc := 0) C dX2_heldIf_0 pb_kL_0 ?_
  refine pb_lstore (lv' := [(7, .long 0), (0, .ref a_t), (1, .int p1), (2, .int p2), (3, .int p3), (4, .int p4), (5, .int p5), (6, .int p6)]) (pc := 1) C dX2_heldIf_1 (by decide) rfl ?_
  refine pb_iconst (v := 0) (pc := 3) C dX2_heldIf_3 pb_kI_0 ?_
  refine pb_istore (lv' := [(9, .int 0), (7, .long 0), (0, .ref a_t), (1, .int p1), (2, .int p2), (3, .int p3), (4, .int p4), (5, .int p5), (6, .int p6)]) (pc := 4) C dX2_heldIf_4 (by decide) rfl ?_
  obtain ⟨z6, hz6, hk6⟩ := pb_bind hf
  have E6 : ∀ (e6_7 : Int64) (e6_9 : Int32), fX2_heldIf_E6 e6_7 e6_9 = some out → pb_V p l e rmX2_heldIf s m (([.ref a_t, .int p1, .int p2, .int p3, .int p4, .int p5, .int p6] : List Value).toArray) below meth c 10 (dC, dI) vwCl A 0 0 (pb_MQ below (([.ref a_t, .int p1, .int p2, .int p3, .int p4, .int p5, .int p6] : List Value).toArray) s (dC, dI) vwCl (wwX2_heldIf cyB cyI cyJ cyZ cyS a_t a_t_open a_t_weight c_t_total c_t_stale c_t_weight) (wwX2_heldIf cyB cyI cyJ cyZ cyS a_t a_t_open a_t_weight c_t_total c_t_stale c_t_weight) (some (.long out)) A) (wwX2_heldIf cyB cyI cyJ cyZ cyS a_t a_t_open a_t_weight c_t_total c_t_stale c_t_weight) [(7, .long e6_7)] [] 68 := by
    intro e6_7 e6_9 hf
    unfold fX2_heldIf_E6 at hf
    refine pb_lload (pc := 68) C dX2_heldIf_68 0 rfl ?_
    obtain rfl := Option.some.inj hf
    exact pb_lret (pc := 70) C hr hlk hA dX2_heldIf_70
  have L6 : ∀ (n : Nat) (l6_7 : Int64) (l6_9 : Int32), pb_lp (fun y => fX2_heldIf_L6 c_t_weight p1 p2 p3 p4 p5 p6 y.1 y.2) n (l6_7, l6_9) = some z6 → pb_V p l e rmX2_heldIf s m (([.ref a_t, .int p1, .int p2, .int p3, .int p4, .int p5, .int p6] : List Value).toArray) below meth c 10 (dC, dI) vwCl A 0 0 (pb_MQ below (([.ref a_t, .int p1, .int p2, .int p3, .int p4, .int p5, .int p6] : List Value).toArray) s (dC, dI) vwCl (wwX2_heldIf cyB cyI cyJ cyZ cyS a_t a_t_open a_t_weight c_t_total c_t_stale c_t_weight) (wwX2_heldIf cyB cyI cyJ cyZ cyS a_t a_t_open a_t_weight c_t_total c_t_stale c_t_weight) (some (.long out)) A) (wwX2_heldIf cyB cyI cyJ cyZ cyS a_t a_t_open a_t_weight c_t_total c_t_stale c_t_weight) [(0, .ref a_t), (1, .int p1), (2, .int p2), (3, .int p3), (4, .int p4), (5, .int p5), (6, .int p6), (7, .long l6_7), (9, .int l6_9)] [] 6 := by
    intro n
    induction n with
    | zero => intro l6_7 l6_9 hf; exact (pb_lp_zero hf).elim
    | succ n ih6 =>
      intro l6_7 l6_9 hf
      obtain ⟨y6, hf, hl6⟩ := pb_lp_succ hf
      have hf : fX2_heldIf_L6 c_t_weight p1 p2 p3 p4 p5 p6 l6_7 l6_9 = some y6 := hf
      unfold fX2_heldIf_L6 at hf
      refine pb_iload (pc := 6) C dX2_heldIf_6 8 rfl ?_
      refine pb_sipush (v := 128) (pc := 8) C dX2_heldIf_8 pb_kS_128 ?_
      refine pb_icmp_ge (pc := 11) (tgt := 68) C dX2_heldIf_11 (by decide) (fun hc11 => ?_) (fun hc11 => ?_)
      · have hf := pb_pos hf hc11
        obtain rfl := Option.some.inj hf
        obtain rfl := pb_esc hl6
        refine pb_sub [7] rfl ?_
        exact E6 l6_7 l6_9 hk6
      · have hf := pb_neg hf hc11
        refine pb_aload_n (pc := 14) C dX2_heldIf_14 rfl 0 rfl ?_
        refine pb_get (pc := 15) C hnX2_heldIf_X2 0 rfl rfl 1 (by decide) (List.mem_of_getElem? (i := 1) rfl) rfl rfl dX2_heldIf_15 ?_
        refine pb_iload (pc := 18) C dX2_heldIf_18 8 rfl ?_
        obtain ⟨g20, hf⟩ := pb_grd hf
        refine pb_lald (pc := 20) C 1 2 rfl rfl g20 dX2_heldIf_20 ?_
        refine pb_lconst (v := 0) (pc := 21) C dX2_heldIf_21 pb_kL_0 ?_
        refine pb_lif_le (pc := 22) (tgt := 62) C dX2_heldIf_22 dX2_heldIf_23 (by decide) (fun hc22 => ?_) (fun hc22 => ?_)
        · have hf := pb_pos hf hc22
          refine pb_iinc (v := l6_9 + 1) (lv' := [(9, .int (l6_9 + 1)), (0, .ref a_t), (1, .int p1), (2, .int p2), (3, .int p3), (4, .int p4), (5, .int p5), (6, .int p6), (7, .long l6_7)]) (pc := 62) C dX2_heldIf_62 8 rfl (pb_inc pb_kI_1 rfl) (by decide) rfl ?_
          refine pb_goto (pc := 65) (tgt := 6) C dX2_heldIf_65 (by decide) ?_
          obtain rfl := Option.some.inj hf
          refine pb_sub [1, 2, 3, 4, 5, 6, 7, 8, 0] rfl ?_
          have hl6 := pb_inl hl6
          exact ih6 l6_7 (l6_9 + 1) hl6
        · have hf := pb_neg hf hc22
          refine pb_iload_n (pc := 26) C dX2_heldIf_26 rfl 1 rfl ?_
          refine pb_iload_n (pc := 27) C dX2_heldIf_27 rfl 2 rfl ?_
          refine pb_iload_n (pc := 28) C dX2_heldIf_28 rfl 3 rfl ?_
          refine pb_iload (pc := 29) C dX2_heldIf_29 8 rfl ?_
          obtain ⟨r31, hr31, hf⟩ := pb_bind hf
          refine pb_callSN (host := "PastBets") (pc := 31) (n0 := 2) (ws' := (wwX2_heldIf cyB cyI cyJ cyZ cyS a_t a_t_open a_t_weight c_t_total c_t_stale c_t_weight)) (rest := []) (st2 := [.int r31]) C (kcX7_claimHolds l dC dI cyB cyI cyJ cyZ cyS p1 p2 p3 l6_9 r31 hr31) pb_NW_b (pb_NW_x hX) ⟨va_cnB 4 C.1.2.2.2.2 gX2_heldIf_X7_claimHolds_n57 rfl rfl rfl hX.2.2.2.2.2.2.1 (C.1.2.2.2.2 _ (List.mem_of_getElem? (i := 3) rfl)) kdS_X7_claimHolds ⟨Nat.le_of_ble_eq_true rfl, Nat.le_of_ble_eq_true rfl⟩, C.1.2.2.2.2 _ (List.mem_of_getElem? (i := 2) rfl), trivial⟩ [] [0, 1] rfl rfl ⟨⟨_, rfl, rfl⟩, ⟨⟨_, rfl, rfl⟩, trivial⟩⟩ rfl (by decide +kernel) (adl := []) rfl rfl rfl rfl rfl (Nat.le_of_ble_eq_true rfl) ⟨Nat.le_refl _, Nat.le_refl _⟩ dX2_heldIf_31 rfl ?_
          refine pb_if_eq (pc := 34) (tgt := 62) C dX2_heldIf_34 (by decide) (fun hc34 => ?_) (fun hc34 => ?_)
          · have hf := pb_pos hf hc34
            refine pb_iinc (v := l6_9 + 1) (lv' := [(9, .int (l6_9 + 1)), (0, .ref a_t), (1, .int p1), (2, .int p2), (3, .int p3), (4, .int p4), (5, .int p5), (6, .int p6), (7, .long l6_7)]) (pc := 62) C dX2_heldIf_62 8 rfl (pb_inc pb_kI_1 rfl) (by decide) rfl ?_
            refine pb_goto (pc := 65) (tgt := 6) C dX2_heldIf_65 (by decide) ?_
            obtain rfl := Option.some.inj hf
            refine pb_sub [1, 2, 3, 4, 5, 6, 7, 8, 0] rfl ?_
            have hl6 := pb_inl hl6
            exact ih6 l6_7 (l6_9 + 1) hl6
          · have hf := pb_neg hf hc34
            refine pb_lload (pc := 37) C dX2_heldIf_37 7 rfl ?_
            refine pb_aload_n (pc := 39) C dX2_heldIf_39 rfl 0 rfl ?_
            refine pb_get (pc := 40) C hnX2_heldIf_X2 0 rfl rfl 1 (by decide) (List.mem_of_getElem? (i := 1) rfl) rfl rfl dX2_heldIf_40 ?_
            refine pb_iload (pc := 43) C dX2_heldIf_43 8 rfl ?_
            obtain ⟨g45, hf⟩ := pb_grd hf
            refine pb_lald (pc := 45) C 1 2 rfl rfl g45 dX2_heldIf_45 ?_
            refine pb_iload (pc := 46) C dX2_heldIf_46 8 rfl ?_
            refine pb_iload (pc := 48) C dX2_heldIf_48 4 rfl ?_
            refine pb_iload (pc := 50) C dX2_heldIf_50 5 rfl ?_
            refine pb_iload (pc := 52) C dX2_heldIf_52 6 rfl ?_
            obtain ⟨r54, hr54, hf⟩ := pb_bind hf
            refine pb_callSN (host := "PastBets") (pc := 54) (n0 := 2) (ws' := (wwX2_heldIf cyB cyI cyJ cyZ cyS a_t a_t_open a_t_weight c_t_total c_t_stale c_t_weight)) (rest := [.long (c_t_weight (Int32.toNatClampNeg l6_9)), .long l6_7]) (st2 := [.int r54, .long (c_t_weight (Int32.toNatClampNeg l6_9)), .long l6_7]) C (kcX7_shareOfTen l dC dI cyB cyI cyJ cyZ cyS l6_9 p4 p5 p6 r54 hr54) pb_NW_b (pb_NW_x hX) ⟨va_cnB 4 C.1.2.2.2.2 gX2_heldIf_X7_shareOfTen_n61 rfl rfl rfl hX.2.2.2.2.2.2.2.1 (C.1.2.2.2.2 _ (List.mem_of_getElem? (i := 3) rfl)) kdS_X7_shareOfTen ⟨Nat.le_of_ble_eq_true rfl, Nat.le_of_ble_eq_true rfl⟩, C.1.2.2.2.2 _ (List.mem_of_getElem? (i := 8) rfl), trivial⟩ [] [0, 1] rfl rfl ⟨⟨_, rfl, rfl⟩, ⟨⟨_, rfl, rfl⟩, trivial⟩⟩ rfl (by decide +kernel) (adl := []) rfl rfl rfl rfl rfl (Nat.le_of_ble_eq_true rfl) ⟨Nat.le_refl _, Nat.le_refl _⟩ dX2_heldIf_54 rfl ?_
            refine pb_i2l (pc := 57) C dX2_heldIf_57 ?_
            refine pb_lmul (pc := 58) C dX2_heldIf_58 ?_
            refine pb_ladd (pc := 59) C dX2_heldIf_59 ?_
            obtain ⟨x60, ex60, hf⟩ := pb_bind hf
            have ex60 := Option.some.inj ex60
            refine pb_topl ex60 ?_
            refine pb_lstore (lv' := [(7, .long x60), (0, .ref a_t), (1, .int p1), (2, .int p2), (3, .int p3), (4, .int p4), (5, .int p5), (6, .int p6), (9, .int l6_9)]) (pc := 60) C dX2_heldIf_60 (by decide) rfl ?_
            refine pb_iinc (v := l6_9 + 1) (lv' := [(9, .int (l6_9 + 1)), (7, .long x60), (0, .ref a_t), (1, .int p1), (2, .int p2), (3, .int p3), (4, .int p4), (5, .int p5), (6, .int p6)]) (pc := 62) C dX2_heldIf_62 8 rfl (pb_inc pb_kI_1 rfl) (by decide) rfl ?_
            refine pb_goto (pc := 65) (tgt := 6) C dX2_heldIf_65 (by decide) ?_
            obtain rfl := Option.some.inj hf
            refine pb_sub [2, 3, 4, 5, 6, 7, 8, 1, 0] rfl ?_
            have hl6 := pb_inl hl6
            exact ih6 x60 (l6_9 + 1) hl6
  refine pb_sub [2, 3, 4, 5, 6, 7, 8, 1, 0] rfl ?_
  exact L6 pb_FU 0 0 hz6
def rmX1_seekWorst : Room := { frames := 5, cells := 0, slots := 0, locals := 114 }
def wwX1_seekWorst (cyB cyI cyJ cyZ cyS : ClassId) (a_t a_t_seenSet a_t_heldSets a_t_pays a_t_stakes a_p1 a_p1_cells a_p2 a_p2_open a_p2_weight : Nat) (w_p1 : Int32) (m_p1 : Int32) (n_p1 : Nat) (c_t_heldCount : Int32) (c_t_worstBook : Int32) (c_t_worstPast : Int32) (c_t_sureSet : Int32) (c_t_sureWin : Int32) (c_p1_size : Int32) (c_p1_cells : (Nat → Int32)) (c_p2_total : Int64) (c_p2_stale : Int32) (c_p2_weight : (Nat → Int64)) : va_W := [(a_t, .inr (1, [.ref a_t_seenSet, .ref a_t_heldSets, .ref a_t_pays, .ref a_t_stakes, .int c_t_heldCount, .int c_t_worstBook, .int c_t_worstPast, .int c_t_sureSet, .int c_t_sureWin])), (a_p1, .inr (6, [.int w_p1, .int m_p1, .ref a_p1_cells, .int c_p1_size])), (a_p1_cells, .inl (cyI, n_p1, .inl c_p1_cells)), (a_p2, .inr (2, [.ref a_p2_open, .ref a_p2_weight, .long c_p2_total, .int c_p2_stale])), (a_p2_weight, .inl (cyJ, 128, .inr (.inl c_p2_weight)))]
theorem hnX1_seekWorst_X1 : ∀ w ∈ wsX10, w ∈ wsX1_seekWorst := fun _ h => List.mem_cons_of_mem _ (List.mem_append_left _ (List.mem_append_left _ (List.mem_append_right _ h)))
theorem hnX1_seekWorst_X2 : ∀ w ∈ wsX20, w ∈ wsX1_seekWorst := fun _ h => List.mem_cons_of_mem _ (List.mem_append_left _ (List.mem_append_right _ h))
set_option maxHeartbeats 4000000 in
set_option maxRecDepth 100000 in
theorem kcX1_seekWorst (l : Launch) (dC : Nat → ClassId) (dI : Nat → Nat → Nat) (cyB cyI cyJ cyZ cyS : ClassId) (a_t a_t_seenSet a_t_heldSets a_t_pays a_t_stakes a_p1 a_p1_cells a_p2 a_p2_open a_p2_weight : Nat) (w_p1 : Int32) (m_p1 : Int32) (n_p1 : Nat) (c_t_heldCount : Int32) (c_t_worstBook : Int32) (c_t_worstPast : Int32) (c_t_sureSet : Int32) (c_t_sureWin : Int32) (c_p1_size : Int32) (c_p1_cells : (Nat → Int32)) (c_p2_total : Int64) (c_p2_stale : Int32) (c_p2_weight : (Nat → Int64)) (out : (Int32 × Int32)) (hf : fX1_seekWorst w_p1 m_p1 n_p1 c_t_worstBook c_t_worstPast c_p1_size c_p1_cells c_p2_weight = some out) : pb_K l yX1_seekWorst wsX1_seekWorst rmX1_seekWorst (dC, dI) vwCl (pb_tys cyB cyI cyJ cyZ cyS) pb_NW [.ref a_t, .ref a_p1, .ref a_p2] (wwX1_seekWorst cyB cyI cyJ cyZ cyS a_t a_t_seenSet a_t_heldSets a_t_pays a_t_stakes a_p1 a_p1_cells a_p2 a_p2_open a_p2_weight w_p1 m_p1 n_p1 c_t_heldCount c_t_worstBook c_t_worstPast c_t_sureSet c_t_sureWin c_p1_size c_p1_cells c_p2_total c_p2_stale c_p2_weight) (wwX1_seekWorst cyB cyI cyJ cyZ cyS a_t a_t_seenSet a_t_heldSets a_t_pays a_t_stakes a_p1 a_p1_cells a_p2 a_p2_open a_p2_weight w_p1 m_p1 n_p1 c_t_heldCount out.1 out.2 c_t_sureSet c_t_sureWin c_p1_size c_p1_cells c_p2_total c_p2_stale c_p2_weight) none := by
  unfold fX1_seekWorst at hf
  refine pb_K.ofV (cc := cX1_seekWorst) (maxL := 5) (ret := none) (lv0 := [(0, .ref a_t), (1, .ref a_p1), (2, .ref a_p2)]) (by decide) rfl (Nat.le_of_ble_eq_true rfl) rfl ?_
  intro p e s m below meth c A C hX hr hlk hA
  refine pb_aload_n (pc := 0) C dX1_seekWorst_0 rfl 0 rfl ?_
  refine pb_iconst (v := (-1)) (pc := 1) C dX1_seekWorst_1 pb_kI_m1 ?_
  refine pb_put (pc := 2) (ws' := (wwX1_seekWorst cyB cyI cyJ cyZ cyS a_t a_t_seenSet a_t_heldSets a_t_pays a_t_stakes a_p1 a_p1_cells a_p2 a_p2_open a_p2_weight w_p1 m_p1 n_p1 c_t_heldCount c_t_worstBook (-1) c_t_sureSet c_t_sureWin c_p1_size c_p1_cells c_p2_total c_p2_stale c_p2_weight)) C hnX1_seekWorst_X1 tyX1 tyX1_ok nmX1 0 rfl rfl 6 (by decide) (List.mem_of_getElem? (i := 1) rfl) rfl rfl rfl rfl (Nat.le_of_ble_eq_true rfl) rfl dX1_seekWorst_2 ?_
  refine pb_iconst (v := 0) (pc := 5) C dX1_seekWorst_5 pb_kI_0 ?_
  refine pb_istore_n (lv' := [(3, .int 0), (0, .ref a_t), (1, .ref a_p1), (2, .ref a_p2)]) (pc := 6) C dX1_seekWorst_6 rfl (by decide) rfl ?_
  obtain ⟨z7, hz7, hk7⟩ := pb_bind hf
  have E7 : ∀ (e7_3 : Int32) (e7_c_t_worstBook : Int32) (e7_c_t_worstPast : Int32), fX1_seekWorst_E7 e7_3 e7_c_t_worstBook e7_c_t_worstPast = some out → pb_V p l e rmX1_seekWorst s m (([.ref a_t, .ref a_p1, .ref a_p2] : List Value).toArray) below meth c 5 (dC, dI) vwCl A 0 0 (pb_MQ below (([.ref a_t, .ref a_p1, .ref a_p2] : List Value).toArray) s (dC, dI) vwCl (wwX1_seekWorst cyB cyI cyJ cyZ cyS a_t a_t_seenSet a_t_heldSets a_t_pays a_t_stakes a_p1 a_p1_cells a_p2 a_p2_open a_p2_weight w_p1 m_p1 n_p1 c_t_heldCount c_t_worstBook c_t_worstPast c_t_sureSet c_t_sureWin c_p1_size c_p1_cells c_p2_total c_p2_stale c_p2_weight) (wwX1_seekWorst cyB cyI cyJ cyZ cyS a_t a_t_seenSet a_t_heldSets a_t_pays a_t_stakes a_p1 a_p1_cells a_p2 a_p2_open a_p2_weight w_p1 m_p1 n_p1 c_t_heldCount out.1 out.2 c_t_sureSet c_t_sureWin c_p1_size c_p1_cells c_p2_total c_p2_stale c_p2_weight) none A) (wwX1_seekWorst cyB cyI cyJ cyZ cyS a_t a_t_seenSet a_t_heldSets a_t_pays a_t_stakes a_p1 a_p1_cells a_p2 a_p2_open a_p2_weight w_p1 m_p1 n_p1 c_t_heldCount e7_c_t_worstBook e7_c_t_worstPast c_t_sureSet c_t_sureWin c_p1_size c_p1_cells c_p2_total c_p2_stale c_p2_weight) [] [] 66 := by
    intro e7_3 e7_c_t_worstBook e7_c_t_worstPast hf
    unfold fX1_seekWorst_E7 at hf
    obtain rfl := Option.some.inj hf
    exact pb_vret (pc := 66) C hr hlk hA dX1_seekWorst_66
  have L7 : ∀ (n : Nat) (l7_3 : Int32) (l7_c_t_worstBook : Int32) (l7_c_t_worstPast : Int32), pb_lp (fun y => fX1_seekWorst_L7 w_p1 m_p1 n_p1 c_p1_size c_p1_cells c_p2_weight y.1 y.2.1 y.2.2) n (l7_3, l7_c_t_worstBook, l7_c_t_worstPast) = some z7 → pb_V p l e rmX1_seekWorst s m (([.ref a_t, .ref a_p1, .ref a_p2] : List Value).toArray) below meth c 5 (dC, dI) vwCl A 0 0 (pb_MQ below (([.ref a_t, .ref a_p1, .ref a_p2] : List Value).toArray) s (dC, dI) vwCl (wwX1_seekWorst cyB cyI cyJ cyZ cyS a_t a_t_seenSet a_t_heldSets a_t_pays a_t_stakes a_p1 a_p1_cells a_p2 a_p2_open a_p2_weight w_p1 m_p1 n_p1 c_t_heldCount c_t_worstBook c_t_worstPast c_t_sureSet c_t_sureWin c_p1_size c_p1_cells c_p2_total c_p2_stale c_p2_weight) (wwX1_seekWorst cyB cyI cyJ cyZ cyS a_t a_t_seenSet a_t_heldSets a_t_pays a_t_stakes a_p1 a_p1_cells a_p2 a_p2_open a_p2_weight w_p1 m_p1 n_p1 c_t_heldCount out.1 out.2 c_t_sureSet c_t_sureWin c_p1_size c_p1_cells c_p2_total c_p2_stale c_p2_weight) none A) (wwX1_seekWorst cyB cyI cyJ cyZ cyS a_t a_t_seenSet a_t_heldSets a_t_pays a_t_stakes a_p1 a_p1_cells a_p2 a_p2_open a_p2_weight w_p1 m_p1 n_p1 c_t_heldCount l7_c_t_worstBook l7_c_t_worstPast c_t_sureSet c_t_sureWin c_p1_size c_p1_cells c_p2_total c_p2_stale c_p2_weight) [(0, .ref a_t), (1, .ref a_p1), (2, .ref a_p2), (3, .int l7_3)] [] 7 := by
    intro n
    induction n with
    | zero => intro l7_3 l7_c_t_worstBook l7_c_t_worstPast hf; exact (pb_lp_zero hf).elim
    | succ n ih7 =>
      intro l7_3 l7_c_t_worstBook l7_c_t_worstPast hf
      obtain ⟨y7, hf, hl7⟩ := pb_lp_succ hf
      have hf : fX1_seekWorst_L7 w_p1 m_p1 n_p1 c_p1_size c_p1_cells c_p2_weight l7_3 l7_c_t_worstBook l7_c_t_worstPast = some y7 := hf
      unfold fX1_seekWorst_L7 at hf
      refine pb_iload_n (pc := 7) C dX1_seekWorst_7 rfl 3 rfl ?_
      refine pb_sipush (v := 128) (pc := 8) C dX1_seekWorst_8 pb_kS_128 ?_
      refine pb_icmp_ge (pc := 11) (tgt := 66) C dX1_seekWorst_11 (by decide) (fun hc11 => ?_) (fun hc11 => ?_)
      · have hf := pb_pos hf hc11
        obtain rfl := Option.some.inj hf
        obtain rfl := pb_esc hl7
        refine pb_sub [] rfl ?_
        exact E7 l7_3 l7_c_t_worstBook l7_c_t_worstPast hk7
      · have hf := pb_neg hf hc11
        refine pb_aload_n (pc := 14) C dX1_seekWorst_14 rfl 2 rfl ?_
        refine pb_get (pc := 15) C hnX1_seekWorst_X2 3 rfl rfl 1 (by decide) (List.mem_of_getElem? (i := 2) rfl) rfl rfl dX1_seekWorst_15 ?_
        refine pb_iload_n (pc := 18) C dX1_seekWorst_18 rfl 3 rfl ?_
        obtain ⟨g19, hf⟩ := pb_grd hf
        refine pb_lald (pc := 19) C 4 2 rfl rfl g19 dX1_seekWorst_19 ?_
        refine pb_lconst (v := 0) (pc := 20) C dX1_seekWorst_20 pb_kL_0 ?_
        refine pb_lif_le (pc := 21) (tgt := 60) C dX1_seekWorst_21 dX1_seekWorst_22 (by decide) (fun hc21 => ?_) (fun hc21 => ?_)
        · have hf := pb_pos hf hc21
          refine pb_iinc (v := l7_3 + 1) (lv' := [(3, .int (l7_3 + 1)), (0, .ref a_t), (1, .ref a_p1), (2, .ref a_p2)]) (pc := 60) C dX1_seekWorst_60 3 rfl (pb_inc pb_kI_1 rfl) (by decide) rfl ?_
          refine pb_goto (pc := 63) (tgt := 7) C dX1_seekWorst_63 (by decide) ?_
          obtain rfl := Option.some.inj hf
          refine pb_sub [1, 2, 3, 0] rfl ?_
          have hl7 := pb_inl hl7
          exact ih7 (l7_3 + 1) l7_c_t_worstBook l7_c_t_worstPast hl7
        · have hf := pb_neg hf hc21
          refine pb_aload_n (pc := 25) C dX1_seekWorst_25 rfl 1 rfl ?_
          refine pb_iload_n (pc := 26) C dX1_seekWorst_26 rfl 3 rfl ?_
          obtain ⟨r27, hr27, hf⟩ := pb_bind hf
          refine pb_callSN (host := "PastBets") (pc := 27) (n0 := 5) (ws' := (wwX1_seekWorst cyB cyI cyJ cyZ cyS a_t a_t_seenSet a_t_heldSets a_t_pays a_t_stakes a_p1 a_p1_cells a_p2 a_p2_open a_p2_weight w_p1 m_p1 n_p1 c_t_heldCount l7_c_t_worstBook l7_c_t_worstPast c_t_sureSet c_t_sureWin c_p1_size c_p1_cells c_p2_total c_p2_stale c_p2_weight)) (rest := []) (st2 := [.int r27]) C (kcX7_bookIn l dC dI cyB cyI cyJ cyZ cyS a_p1 a_p1_cells w_p1 m_p1 n_p1 c_p1_size c_p1_cells l7_3 r27 hr27) pb_NW_b (pb_NW_x hX) ⟨va_cnB 2 C.1.2.2.2.2 gX1_seekWorst_X7_bookIn_n35 rfl rfl rfl hX.1 (C.1.2.2.2.2 _ (List.mem_of_getElem? (i := 5) rfl)) kdS_X7_bookIn ⟨Nat.le_of_ble_eq_true rfl, Nat.le_of_ble_eq_true rfl⟩, C.1.2.2.2.2 _ (List.mem_of_getElem? (i := 4) rfl), trivial⟩ [1, 2] [0, 3, 4] rfl rfl ⟨⟨_, rfl, rfl⟩, ⟨⟨_, rfl, rfl⟩, ⟨⟨_, rfl, rfl⟩, trivial⟩⟩⟩ rfl (by decide +kernel) (adl := [a_p1, a_p1_cells]) rfl rfl rfl rfl rfl (Nat.le_of_ble_eq_true rfl) ⟨Nat.le_refl _, Nat.le_refl _⟩ dX1_seekWorst_27 rfl ?_
          refine pb_istore (lv' := [(4, .int r27), (0, .ref a_t), (1, .ref a_p1), (2, .ref a_p2), (3, .int l7_3)]) (pc := 30) C dX1_seekWorst_30 (by decide) rfl ?_
          refine pb_aload_n (pc := 32) C dX1_seekWorst_32 rfl 1 rfl ?_
          refine pb_get (pc := 33) C hnX1_seekWorst_X1 0 rfl rfl 6 (by decide) (List.mem_of_getElem? (i := 1) rfl) rfl rfl dX1_seekWorst_33 ?_
          refine pb_iconst (v := (-1)) (pc := 36) C dX1_seekWorst_36 pb_kI_m1 ?_
          refine pb_icmp_eq (pc := 37) (tgt := 49) C dX1_seekWorst_37 (by decide) (fun hc37 => ?_) (fun hc37 => ?_)
          · have hf := pb_pos hf hc37
            refine pb_aload_n (pc := 49) C dX1_seekWorst_49 rfl 1 rfl ?_
            refine pb_iload (pc := 50) C dX1_seekWorst_50 0 rfl ?_
            refine pb_put (pc := 52) (ws' := (wwX1_seekWorst cyB cyI cyJ cyZ cyS a_t a_t_seenSet a_t_heldSets a_t_pays a_t_stakes a_p1 a_p1_cells a_p2 a_p2_open a_p2_weight w_p1 m_p1 n_p1 c_t_heldCount r27 l7_c_t_worstPast c_t_sureSet c_t_sureWin c_p1_size c_p1_cells c_p2_total c_p2_stale c_p2_weight)) C hnX1_seekWorst_X1 tyX1 tyX1_ok nmX1 0 rfl rfl 5 (by decide) (List.mem_of_getElem? (i := 3) rfl) rfl rfl rfl rfl (Nat.le_of_ble_eq_true rfl) rfl dX1_seekWorst_52 ?_
            refine pb_aload_n (pc := 55) C dX1_seekWorst_55 rfl 1 rfl ?_
            refine pb_iload_n (pc := 56) C dX1_seekWorst_56 rfl 4 rfl ?_
            refine pb_put (pc := 57) (ws' := (wwX1_seekWorst cyB cyI cyJ cyZ cyS a_t a_t_seenSet a_t_heldSets a_t_pays a_t_stakes a_p1 a_p1_cells a_p2 a_p2_open a_p2_weight w_p1 m_p1 n_p1 c_t_heldCount r27 l7_3 c_t_sureSet c_t_sureWin c_p1_size c_p1_cells c_p2_total c_p2_stale c_p2_weight)) C hnX1_seekWorst_X1 tyX1 tyX1_ok nmX1 0 rfl rfl 6 (by decide) (List.mem_of_getElem? (i := 1) rfl) rfl rfl rfl rfl (Nat.le_of_ble_eq_true rfl) rfl dX1_seekWorst_57 ?_
            refine pb_iinc (v := l7_3 + 1) (lv' := [(3, .int (l7_3 + 1)), (4, .int r27), (0, .ref a_t), (1, .ref a_p1), (2, .ref a_p2)]) (pc := 60) C dX1_seekWorst_60 4 rfl (pb_inc pb_kI_1 rfl) (by decide) rfl ?_
            refine pb_goto (pc := 63) (tgt := 7) C dX1_seekWorst_63 (by decide) ?_
            obtain rfl := Option.some.inj hf
            refine pb_sub [2, 3, 4, 0] rfl ?_
            have hl7 := pb_inl hl7
            exact ih7 (l7_3 + 1) r27 l7_3 hl7
          · have hf := pb_neg hf hc37
            refine pb_iload (pc := 40) C dX1_seekWorst_40 0 rfl ?_
            refine pb_aload_n (pc := 42) C dX1_seekWorst_42 rfl 1 rfl ?_
            refine pb_get (pc := 43) C hnX1_seekWorst_X1 0 rfl rfl 5 (by decide) (List.mem_of_getElem? (i := 3) rfl) rfl rfl dX1_seekWorst_43 ?_
            refine pb_icmp_ge (pc := 46) (tgt := 60) C dX1_seekWorst_46 (by decide) (fun hc46 => ?_) (fun hc46 => ?_)
            · have hf := pb_pos hf hc46
              refine pb_iinc (v := l7_3 + 1) (lv' := [(3, .int (l7_3 + 1)), (4, .int r27), (0, .ref a_t), (1, .ref a_p1), (2, .ref a_p2)]) (pc := 60) C dX1_seekWorst_60 4 rfl (pb_inc pb_kI_1 rfl) (by decide) rfl ?_
              refine pb_goto (pc := 63) (tgt := 7) C dX1_seekWorst_63 (by decide) ?_
              obtain rfl := Option.some.inj hf
              refine pb_sub [2, 3, 4, 0] rfl ?_
              have hl7 := pb_inl hl7
              exact ih7 (l7_3 + 1) l7_c_t_worstBook l7_c_t_worstPast hl7
            · have hf := pb_neg hf hc46
              refine pb_aload_n (pc := 49) C dX1_seekWorst_49 rfl 1 rfl ?_
              refine pb_iload (pc := 50) C dX1_seekWorst_50 0 rfl ?_
              refine pb_put (pc := 52) (ws' := (wwX1_seekWorst cyB cyI cyJ cyZ cyS a_t a_t_seenSet a_t_heldSets a_t_pays a_t_stakes a_p1 a_p1_cells a_p2 a_p2_open a_p2_weight w_p1 m_p1 n_p1 c_t_heldCount r27 l7_c_t_worstPast c_t_sureSet c_t_sureWin c_p1_size c_p1_cells c_p2_total c_p2_stale c_p2_weight)) C hnX1_seekWorst_X1 tyX1 tyX1_ok nmX1 0 rfl rfl 5 (by decide) (List.mem_of_getElem? (i := 3) rfl) rfl rfl rfl rfl (Nat.le_of_ble_eq_true rfl) rfl dX1_seekWorst_52 ?_
              refine pb_aload_n (pc := 55) C dX1_seekWorst_55 rfl 1 rfl ?_
              refine pb_iload_n (pc := 56) C dX1_seekWorst_56 rfl 4 rfl ?_
              refine pb_put (pc := 57) (ws' := (wwX1_seekWorst cyB cyI cyJ cyZ cyS a_t a_t_seenSet a_t_heldSets a_t_pays a_t_stakes a_p1 a_p1_cells a_p2 a_p2_open a_p2_weight w_p1 m_p1 n_p1 c_t_heldCount r27 l7_3 c_t_sureSet c_t_sureWin c_p1_size c_p1_cells c_p2_total c_p2_stale c_p2_weight)) C hnX1_seekWorst_X1 tyX1 tyX1_ok nmX1 0 rfl rfl 6 (by decide) (List.mem_of_getElem? (i := 1) rfl) rfl rfl rfl rfl (Nat.le_of_ble_eq_true rfl) rfl dX1_seekWorst_57 ?_
              refine pb_iinc (v := l7_3 + 1) (lv' := [(3, .int (l7_3 + 1)), (4, .int r27), (0, .ref a_t), (1, .ref a_p1), (2, .ref a_p2)]) (pc := 60) C dX1_seekWorst_60 4 rfl (pb_inc pb_kI_1 rfl) (by decide) rfl ?_
              refine pb_goto (pc := 63) (tgt := 7) C dX1_seekWorst_63 (by decide) ?_
              obtain rfl := Option.some.inj hf
              refine pb_sub [2, 3, 4, 0] rfl ?_
              have hl7 := pb_inl hl7
              exact ih7 (l7_3 + 1) r27 l7_3 hl7
  refine pb_sub [1, 2, 3, 0] rfl ?_
  exact L7 pb_FU 0 c_t_worstBook (-1) hz7
def rmX1_weighedBook : Room := { frames := 5, cells := 0, slots := 0, locals := 114 }
def wwX1_weighedBook (cyB cyI cyJ cyZ cyS : ClassId) (a_p1 a_p1_cells a_p2 a_p2_open a_p2_weight : Nat) (w_p1 : Int32) (m_p1 : Int32) (n_p1 : Nat) (c_p1_size : Int32) (c_p1_cells : (Nat → Int32)) (c_p2_total : Int64) (c_p2_stale : Int32) (c_p2_weight : (Nat → Int64)) : va_W := [(a_p1, .inr (6, [.int w_p1, .int m_p1, .ref a_p1_cells, .int c_p1_size])), (a_p1_cells, .inl (cyI, n_p1, .inl c_p1_cells)), (a_p2, .inr (2, [.ref a_p2_open, .ref a_p2_weight, .long c_p2_total, .int c_p2_stale])), (a_p2_weight, .inl (cyJ, 128, .inr (.inl c_p2_weight)))]
theorem hnX1_weighedBook_X2 : ∀ w ∈ wsX20, w ∈ wsX1_weighedBook := fun _ h => List.mem_cons_of_mem _ (List.mem_append_left _ (List.mem_append_right _ h))
set_option maxHeartbeats 4000000 in
set_option maxRecDepth 100000 in
theorem kcX1_weighedBook (l : Launch) (dC : Nat → ClassId) (dI : Nat → Nat → Nat) (cyB cyI cyJ cyZ cyS : ClassId) (a_p1 a_p1_cells a_p2 a_p2_open a_p2_weight : Nat) (w_p1 : Int32) (m_p1 : Int32) (n_p1 : Nat) (c_p1_size : Int32) (c_p1_cells : (Nat → Int32)) (c_p2_total : Int64) (c_p2_stale : Int32) (c_p2_weight : (Nat → Int64)) (out : Int64) (hf : fX1_weighedBook w_p1 m_p1 n_p1 c_p1_size c_p1_cells c_p2_weight = some out) : pb_K l yX1_weighedBook wsX1_weighedBook rmX1_weighedBook (dC, dI) vwCl (pb_tys cyB cyI cyJ cyZ cyS) pb_NW [.ref a_p1, .ref a_p2] (wwX1_weighedBook cyB cyI cyJ cyZ cyS a_p1 a_p1_cells a_p2 a_p2_open a_p2_weight w_p1 m_p1 n_p1 c_p1_size c_p1_cells c_p2_total c_p2_stale c_p2_weight) (wwX1_weighedBook cyB cyI cyJ cyZ cyS a_p1 a_p1_cells a_p2 a_p2_open a_p2_weight w_p1 m_p1 n_p1 c_p1_size c_p1_cells c_p2_total c_p2_stale c_p2_weight) (some (.long out)) := by
  unfold fX1_weighedBook at hf
  refine pb_K.ofV (cc := cX1_weighedBook) (maxL := 5) (ret := (some .long)) (lv0 := [(0, .ref a_p1), (1, .ref a_p2)]) (by decide) rfl (Nat.le_of_ble_eq_true rfl) rfl ?_
  intro p e s m below meth c A C hX hr hlk hA
  refine pb_lconst (v := 0) (pc := 0) C dX1_weighedBook_0 pb_kL_0 ?_
  refine pb_lstore_n (lv' := [(2, .long 0), (0, .ref a_p1), (1, .ref a_p2)]) (pc := 1) C dX1_weighedBook_1 rfl (by decide) rfl ?_
  refine pb_iconst (v := 0) (pc := 2) C dX1_weighedBook_2 pb_kI_0 ?_
  refine pb_istore (lv' := [(4, .int 0), (2, .long 0), (0, .ref a_p1), (1, .ref a_p2)]) (pc := 3) C dX1_weighedBook_3 (by decide) rfl ?_
  obtain ⟨z5, hz5, hk5⟩ := pb_bind hf
  have E5 : ∀ (e5_2 : Int64) (e5_4 : Int32), fX1_weighedBook_E5 e5_2 e5_4 = some out → pb_V p l e rmX1_weighedBook s m (([.ref a_p1, .ref a_p2] : List Value).toArray) below meth c 5 (dC, dI) vwCl A 0 0 (pb_MQ below (([.ref a_p1, .ref a_p2] : List Value).toArray) s (dC, dI) vwCl (wwX1_weighedBook cyB cyI cyJ cyZ cyS a_p1 a_p1_cells a_p2 a_p2_open a_p2_weight w_p1 m_p1 n_p1 c_p1_size c_p1_cells c_p2_total c_p2_stale c_p2_weight) (wwX1_weighedBook cyB cyI cyJ cyZ cyS a_p1 a_p1_cells a_p2 a_p2_open a_p2_weight w_p1 m_p1 n_p1 c_p1_size c_p1_cells c_p2_total c_p2_stale c_p2_weight) (some (.long out)) A) (wwX1_weighedBook cyB cyI cyJ cyZ cyS a_p1 a_p1_cells a_p2 a_p2_open a_p2_weight w_p1 m_p1 n_p1 c_p1_size c_p1_cells c_p2_total c_p2_stale c_p2_weight) [(2, .long e5_2)] [] 49 := by
    intro e5_2 e5_4 hf
    unfold fX1_weighedBook_E5 at hf
    refine pb_lload_n (pc := 49) C dX1_weighedBook_49 rfl 0 rfl ?_
    obtain rfl := Option.some.inj hf
    exact pb_lret (pc := 50) C hr hlk hA dX1_weighedBook_50
  have L5 : ∀ (n : Nat) (l5_2 : Int64) (l5_4 : Int32), pb_lp (fun y => fX1_weighedBook_L5 w_p1 m_p1 n_p1 c_p1_size c_p1_cells c_p2_weight y.1 y.2) n (l5_2, l5_4) = some z5 → pb_V p l e rmX1_weighedBook s m (([.ref a_p1, .ref a_p2] : List Value).toArray) below meth c 5 (dC, dI) vwCl A 0 0 (pb_MQ below (([.ref a_p1, .ref a_p2] : List Value).toArray) s (dC, dI) vwCl (wwX1_weighedBook cyB cyI cyJ cyZ cyS a_p1 a_p1_cells a_p2 a_p2_open a_p2_weight w_p1 m_p1 n_p1 c_p1_size c_p1_cells c_p2_total c_p2_stale c_p2_weight) (wwX1_weighedBook cyB cyI cyJ cyZ cyS a_p1 a_p1_cells a_p2 a_p2_open a_p2_weight w_p1 m_p1 n_p1 c_p1_size c_p1_cells c_p2_total c_p2_stale c_p2_weight) (some (.long out)) A) (wwX1_weighedBook cyB cyI cyJ cyZ cyS a_p1 a_p1_cells a_p2 a_p2_open a_p2_weight w_p1 m_p1 n_p1 c_p1_size c_p1_cells c_p2_total c_p2_stale c_p2_weight) [(0, .ref a_p1), (1, .ref a_p2), (2, .long l5_2), (4, .int l5_4)] [] 5 := by
    intro n
    induction n with
    | zero => intro l5_2 l5_4 hf; exact (pb_lp_zero hf).elim
    | succ n ih5 =>
      intro l5_2 l5_4 hf
      obtain ⟨y5, hf, hl5⟩ := pb_lp_succ hf
      have hf : fX1_weighedBook_L5 w_p1 m_p1 n_p1 c_p1_size c_p1_cells c_p2_weight l5_2 l5_4 = some y5 := hf
      unfold fX1_weighedBook_L5 at hf
      refine pb_iload (pc := 5) C dX1_weighedBook_5 3 rfl ?_
      refine pb_sipush (v := 128) (pc := 7) C dX1_weighedBook_7 pb_kS_128 ?_
      refine pb_icmp_ge (pc := 10) (tgt := 49) C dX1_weighedBook_10 (by decide) (fun hc10 => ?_) (fun hc10 => ?_)
      · have hf := pb_pos hf hc10
        obtain rfl := Option.some.inj hf
        obtain rfl := pb_esc hl5
        refine pb_sub [2] rfl ?_
        exact E5 l5_2 l5_4 hk5
      · have hf := pb_neg hf hc10
        refine pb_aload_n (pc := 13) C dX1_weighedBook_13 rfl 1 rfl ?_
        refine pb_get (pc := 14) C hnX1_weighedBook_X2 2 rfl rfl 1 (by decide) (List.mem_of_getElem? (i := 1) rfl) rfl rfl dX1_weighedBook_14 ?_
        refine pb_iload (pc := 17) C dX1_weighedBook_17 3 rfl ?_
        obtain ⟨g19, hf⟩ := pb_grd hf
        refine pb_lald (pc := 19) C 3 2 rfl rfl g19 dX1_weighedBook_19 ?_
        refine pb_lconst (v := 0) (pc := 20) C dX1_weighedBook_20 pb_kL_0 ?_
        refine pb_lif_le (pc := 21) (tgt := 43) C dX1_weighedBook_21 dX1_weighedBook_22 (by decide) (fun hc21 => ?_) (fun hc21 => ?_)
        · have hf := pb_pos hf hc21
          refine pb_iinc (v := l5_4 + 1) (lv' := [(4, .int (l5_4 + 1)), (0, .ref a_p1), (1, .ref a_p2), (2, .long l5_2)]) (pc := 43) C dX1_weighedBook_43 3 rfl (pb_inc pb_kI_1 rfl) (by decide) rfl ?_
          refine pb_goto (pc := 46) (tgt := 5) C dX1_weighedBook_46 (by decide) ?_
          obtain rfl := Option.some.inj hf
          refine pb_sub [1, 2, 3, 0] rfl ?_
          have hl5 := pb_inl hl5
          exact ih5 l5_2 (l5_4 + 1) hl5
        · have hf := pb_neg hf hc21
          refine pb_lload_n (pc := 25) C dX1_weighedBook_25 rfl 2 rfl ?_
          refine pb_aload_n (pc := 26) C dX1_weighedBook_26 rfl 1 rfl ?_
          refine pb_get (pc := 27) C hnX1_weighedBook_X2 2 rfl rfl 1 (by decide) (List.mem_of_getElem? (i := 1) rfl) rfl rfl dX1_weighedBook_27 ?_
          refine pb_iload (pc := 30) C dX1_weighedBook_30 3 rfl ?_
          obtain ⟨g32, hf⟩ := pb_grd hf
          refine pb_lald (pc := 32) C 3 2 rfl rfl g32 dX1_weighedBook_32 ?_
          refine pb_aload_n (pc := 33) C dX1_weighedBook_33 rfl 0 rfl ?_
          refine pb_iload (pc := 34) C dX1_weighedBook_34 3 rfl ?_
          obtain ⟨r36, hr36, hf⟩ := pb_bind hf
          refine pb_callSN (host := "PastBets") (pc := 36) (n0 := 4) (ws' := (wwX1_weighedBook cyB cyI cyJ cyZ cyS a_p1 a_p1_cells a_p2 a_p2_open a_p2_weight w_p1 m_p1 n_p1 c_p1_size c_p1_cells c_p2_total c_p2_stale c_p2_weight)) (rest := [.long (c_p2_weight (Int32.toNatClampNeg l5_4)), .long l5_2]) (st2 := [.int r36, .long (c_p2_weight (Int32.toNatClampNeg l5_4)), .long l5_2]) C (kcX7_bookIn l dC dI cyB cyI cyJ cyZ cyS a_p1 a_p1_cells w_p1 m_p1 n_p1 c_p1_size c_p1_cells l5_4 r36 hr36) pb_NW_b (pb_NW_x hX) ⟨va_cnB 2 C.1.2.2.2.2 gX1_weighedBook_X7_bookIn_n35 rfl rfl rfl hX.1 (C.1.2.2.2.2 _ (List.mem_of_getElem? (i := 3) rfl)) kdS_X7_bookIn ⟨Nat.le_of_ble_eq_true rfl, Nat.le_of_ble_eq_true rfl⟩, C.1.2.2.2.2 _ (List.mem_of_getElem? (i := 2) rfl), trivial⟩ [0, 1] [2, 3] rfl rfl ⟨⟨_, rfl, rfl⟩, ⟨⟨_, rfl, rfl⟩, trivial⟩⟩ rfl (by decide +kernel) (adl := [a_p1, a_p1_cells]) rfl rfl rfl rfl rfl (Nat.le_of_ble_eq_true rfl) ⟨Nat.le_refl _, Nat.le_refl _⟩ dX1_weighedBook_36 rfl ?_
          refine pb_i2l (pc := 39) C dX1_weighedBook_39 ?_
          refine pb_lmul (pc := 40) C dX1_weighedBook_40 ?_
          refine pb_ladd (pc := 41) C dX1_weighedBook_41 ?_
          obtain ⟨x42, ex42, hf⟩ := pb_bind hf
          have ex42 := Option.some.inj ex42
          refine pb_topl ex42 ?_
          refine pb_lstore_n (lv' := [(2, .long x42), (0, .ref a_p1), (1, .ref a_p2), (4, .int l5_4)]) (pc := 42) C dX1_weighedBook_42 rfl (by decide) rfl ?_
          refine pb_iinc (v := l5_4 + 1) (lv' := [(4, .int (l5_4 + 1)), (2, .long x42), (0, .ref a_p1), (1, .ref a_p2)]) (pc := 43) C dX1_weighedBook_43 3 rfl (pb_inc pb_kI_1 rfl) (by decide) rfl ?_
          refine pb_goto (pc := 46) (tgt := 5) C dX1_weighedBook_46 (by decide) ?_
          obtain rfl := Option.some.inj hf
          refine pb_sub [2, 3, 1, 0] rfl ?_
          have hl5 := pb_inl hl5
          exact ih5 x42 (l5_4 + 1) hl5
  refine pb_sub [2, 3, 1, 0] rfl ?_
  exact L5 pb_FU 0 0 hz5
def rmX1_heldSet : Room := { frames := 3, cells := 0, slots := 0, locals := 68 }
def wwX1_heldSet (cyB cyI cyJ cyZ cyS : ClassId) (a_p1 a_p1_cells : Nat) (w_p1 : Int32) (m_p1 : Int32) (n_p1 : Nat) (c_p1_size : Int32) (c_p1_cells : (Nat → Int32)) : va_W := [(a_p1, .inr (6, [.int w_p1, .int m_p1, .ref a_p1_cells, .int c_p1_size])), (a_p1_cells, .inl (cyI, n_p1, .inl c_p1_cells))]
theorem hnX1_heldSet_X6 : ∀ w ∈ wsX60, w ∈ wsX1_heldSet := fun _ h => List.mem_cons_of_mem _ (List.mem_append_right _ h)
set_option maxHeartbeats 4000000 in
set_option maxRecDepth 100000 in
theorem kcX1_heldSet (l : Launch) (dC : Nat → ClassId) (dI : Nat → Nat → Nat) (cyB cyI cyJ cyZ cyS : ClassId) (a_p1 a_p1_cells : Nat) (w_p1 : Int32) (m_p1 : Int32) (n_p1 : Nat) (c_p1_size : Int32) (c_p1_cells : (Nat → Int32)) (p2 : Int32) (out : Int32) (hf : fX1_heldSet w_p1 m_p1 n_p1 c_p1_size c_p1_cells p2 = some out) : pb_K l yX1_heldSet wsX1_heldSet rmX1_heldSet (dC, dI) vwCl (pb_tys cyB cyI cyJ cyZ cyS) pb_NW [.ref a_p1, .int p2] (wwX1_heldSet cyB cyI cyJ cyZ cyS a_p1 a_p1_cells w_p1 m_p1 n_p1 c_p1_size c_p1_cells) (wwX1_heldSet cyB cyI cyJ cyZ cyS a_p1 a_p1_cells w_p1 m_p1 n_p1 c_p1_size c_p1_cells) (some (.int out)) := by
  unfold fX1_heldSet at hf
  refine pb_K.ofV (cc := cX1_heldSet) (maxL := 4) (ret := (some .int)) (lv0 := [(0, .ref a_p1), (1, .int p2)]) (by decide) rfl (Nat.le_of_ble_eq_true rfl) rfl ?_
  intro p e s m below meth c A C hX hr hlk hA
  refine pb_iconst (v := 0) (pc := 0) C dX1_heldSet_0 pb_kI_0 ?_
  refine pb_istore_n (lv' := [(2, .int 0), (0, .ref a_p1), (1, .int p2)]) (pc := 1) C dX1_heldSet_1 rfl (by decide) rfl ?_
  refine pb_iconst (v := 0) (pc := 2) C dX1_heldSet_2 pb_kI_0 ?_
  refine pb_istore_n (lv' := [(3, .int 0), (2, .int 0), (0, .ref a_p1), (1, .int p2)]) (pc := 3) C dX1_heldSet_3 rfl (by decide) rfl ?_
  obtain ⟨z4, hz4, hk4⟩ := pb_bind hf
  have E4 : ∀ (e4_2 : Int32) (e4_3 : Int32), fX1_heldSet_E4 e4_2 e4_3 = some out → pb_V p l e rmX1_heldSet s m (([.ref a_p1, .int p2] : List Value).toArray) below meth c 4 (dC, dI) vwCl A 0 0 (pb_MQ below (([.ref a_p1, .int p2] : List Value).toArray) s (dC, dI) vwCl (wwX1_heldSet cyB cyI cyJ cyZ cyS a_p1 a_p1_cells w_p1 m_p1 n_p1 c_p1_size c_p1_cells) (wwX1_heldSet cyB cyI cyJ cyZ cyS a_p1 a_p1_cells w_p1 m_p1 n_p1 c_p1_size c_p1_cells) (some (.int out)) A) (wwX1_heldSet cyB cyI cyJ cyZ cyS a_p1 a_p1_cells w_p1 m_p1 n_p1 c_p1_size c_p1_cells) [(2, .int e4_2)] [] 39 := by
    intro e4_2 e4_3 hf
    unfold fX1_heldSet_E4 at hf
    refine pb_iload_n (pc := 39) C dX1_heldSet_39 rfl 0 rfl ?_
    obtain rfl := Option.some.inj hf
    exact pb_iret (pc := 40) C hr hlk hA dX1_heldSet_40
  have L4 : ∀ (n : Nat) (l4_2 : Int32) (l4_3 : Int32), pb_lp (fun y => fX1_heldSet_L4 w_p1 m_p1 n_p1 c_p1_size c_p1_cells p2 y.1 y.2) n (l4_2, l4_3) = some z4 → pb_V p l e rmX1_heldSet s m (([.ref a_p1, .int p2] : List Value).toArray) below meth c 4 (dC, dI) vwCl A 0 0 (pb_MQ below (([.ref a_p1, .int p2] : List Value).toArray) s (dC, dI) vwCl (wwX1_heldSet cyB cyI cyJ cyZ cyS a_p1 a_p1_cells w_p1 m_p1 n_p1 c_p1_size c_p1_cells) (wwX1_heldSet cyB cyI cyJ cyZ cyS a_p1 a_p1_cells w_p1 m_p1 n_p1 c_p1_size c_p1_cells) (some (.int out)) A) (wwX1_heldSet cyB cyI cyJ cyZ cyS a_p1 a_p1_cells w_p1 m_p1 n_p1 c_p1_size c_p1_cells) [(0, .ref a_p1), (1, .int p2), (2, .int l4_2), (3, .int l4_3)] [] 4 := by
    intro n
    induction n with
    | zero => intro l4_2 l4_3 hf; exact (pb_lp_zero hf).elim
    | succ n ih4 =>
      intro l4_2 l4_3 hf
      obtain ⟨y4, hf, hl4⟩ := pb_lp_succ hf
      have hf : fX1_heldSet_L4 w_p1 m_p1 n_p1 c_p1_size c_p1_cells p2 l4_2 l4_3 = some y4 := hf
      unfold fX1_heldSet_L4 at hf
      refine pb_iload_n (pc := 4) C dX1_heldSet_4 rfl 3 rfl ?_
      refine pb_aload_n (pc := 5) C dX1_heldSet_5 rfl 0 rfl ?_
      refine pb_get (pc := 6) C hnX1_heldSet_X6 0 rfl rfl 3 (by decide) (List.mem_of_getElem? (i := 1) rfl) rfl rfl dX1_heldSet_6 ?_
      refine pb_icmp_ge (pc := 9) (tgt := 39) C dX1_heldSet_9 (by decide) (fun hc9 => ?_) (fun hc9 => ?_)
      · have hf := pb_pos hf hc9
        obtain rfl := Option.some.inj hf
        obtain rfl := pb_esc hl4
        refine pb_sub [2] rfl ?_
        exact E4 l4_2 l4_3 hk4
      · have hf := pb_neg hf hc9
        refine pb_iload_n (pc := 12) C dX1_heldSet_12 rfl 3 rfl ?_
        refine pb_bipush (v := 8) (pc := 13) C dX1_heldSet_13 pb_kB_8 ?_
        refine pb_icmp_ge (pc := 15) (tgt := 39) C dX1_heldSet_15 (by decide) (fun hc15 => ?_) (fun hc15 => ?_)
        · have hf := pb_pos hf hc15
          obtain rfl := Option.some.inj hf
          obtain rfl := pb_esc hl4
          refine pb_sub [2] rfl ?_
          exact E4 l4_2 l4_3 hk4
        · have hf := pb_neg hf hc15
          refine pb_aload_n (pc := 18) C dX1_heldSet_18 rfl 0 rfl ?_
          refine pb_iload_n (pc := 19) C dX1_heldSet_19 rfl 3 rfl ?_
          refine pb_iload_n (pc := 20) C dX1_heldSet_20 rfl 1 rfl ?_
          obtain ⟨r21, hr21, hf⟩ := pb_bind hf
          refine pb_callSN (host := "PastBets") (pc := 21) (n0 := 2) (ws' := (wwX1_heldSet cyB cyI cyJ cyZ cyS a_p1 a_p1_cells w_p1 m_p1 n_p1 c_p1_size c_p1_cells)) (rest := []) (st2 := [.int r21]) C (kcX7_betHolds l dC dI cyB cyI cyJ cyZ cyS a_p1 a_p1_cells w_p1 m_p1 n_p1 c_p1_size c_p1_cells l4_3 p2 r21 hr21) pb_NW_b (pb_NW_x hX) ⟨va_cnB 3 C.1.2.2.2.2 gX1_heldSet_X7_betHolds_n100 rfl rfl rfl hX.2.2.2.1 (C.1.2.2.2.2 _ (List.mem_of_getElem? (i := 3) rfl)) kdS_X7_betHolds ⟨Nat.le_of_ble_eq_true rfl, Nat.le_of_ble_eq_true rfl⟩, C.1.2.2.2.2 _ (List.mem_of_getElem? (i := 2) rfl), trivial⟩ [0, 1] [] rfl rfl trivial rfl (by decide +kernel) (adl := [a_p1, a_p1_cells]) rfl rfl rfl rfl rfl (Nat.le_of_ble_eq_true rfl) ⟨Nat.le_refl _, Nat.le_refl _⟩ dX1_heldSet_21 rfl ?_
          refine pb_if_eq (pc := 24) (tgt := 33) C dX1_heldSet_24 (by decide) (fun hc24 => ?_) (fun hc24 => ?_)
          · have hf := pb_pos hf hc24
            refine pb_iinc (v := l4_3 + 1) (lv' := [(3, .int (l4_3 + 1)), (0, .ref a_p1), (1, .int p2), (2, .int l4_2)]) (pc := 33) C dX1_heldSet_33 3 rfl (pb_inc pb_kI_1 rfl) (by decide) rfl ?_
            refine pb_goto (pc := 36) (tgt := 4) C dX1_heldSet_36 (by decide) ?_
            obtain rfl := Option.some.inj hf
            refine pb_sub [1, 2, 3, 0] rfl ?_
            have hl4 := pb_inl hl4
            exact ih4 l4_2 (l4_3 + 1) hl4
          · have hf := pb_neg hf hc24
            refine pb_iload_n (pc := 27) C dX1_heldSet_27 rfl 2 rfl ?_
            refine pb_iconst (v := 1) (pc := 28) C dX1_heldSet_28 pb_kI_1 ?_
            refine pb_iload_n (pc := 29) C dX1_heldSet_29 rfl 3 rfl ?_
            refine pb_ishl (pc := 30) C dX1_heldSet_30 ?_
            refine pb_ior (pc := 31) C dX1_heldSet_31 ?_
            obtain ⟨x32, ex32, hf⟩ := pb_bind hf
            have ex32 := Option.some.inj ex32
            refine pb_topi ex32 ?_
            refine pb_istore_n (lv' := [(2, .int x32), (0, .ref a_p1), (1, .int p2), (3, .int l4_3)]) (pc := 32) C dX1_heldSet_32 rfl (by decide) rfl ?_
            refine pb_iinc (v := l4_3 + 1) (lv' := [(3, .int (l4_3 + 1)), (2, .int x32), (0, .ref a_p1), (1, .int p2)]) (pc := 33) C dX1_heldSet_33 3 rfl (pb_inc pb_kI_1 rfl) (by decide) rfl ?_
            refine pb_goto (pc := 36) (tgt := 4) C dX1_heldSet_36 (by decide) ?_
            obtain rfl := Option.some.inj hf
            refine pb_sub [2, 3, 1, 0] rfl ?_
            have hl4 := pb_inl hl4
            exact ih4 x32 (l4_3 + 1) hl4
  refine pb_sub [2, 3, 1, 0] rfl ?_
  exact L4 pb_FU 0 0 hz4
def rmX1_listHeldSets : Room := { frames := 4, cells := 0, slots := 0, locals := 91 }
def wwX1_listHeldSets (cyB cyI cyJ cyZ cyS : ClassId) (a_t a_t_seenSet a_t_heldSets a_t_pays a_t_stakes a_p1 a_p1_cells a_p2 a_p2_open a_p2_weight : Nat) (w_p1 : Int32) (m_p1 : Int32) (n_p1 : Nat) (c_t_heldCount : Int32) (c_t_worstBook : Int32) (c_t_worstPast : Int32) (c_t_sureSet : Int32) (c_t_sureWin : Int32) (c_t_seenSet : (Nat → Int32)) (c_t_heldSets : (Nat → Int32)) (c_p1_size : Int32) (c_p1_cells : (Nat → Int32)) (c_p2_total : Int64) (c_p2_stale : Int32) (c_p2_weight : (Nat → Int64)) : va_W := [(a_t, .inr (1, [.ref a_t_seenSet, .ref a_t_heldSets, .ref a_t_pays, .ref a_t_stakes, .int c_t_heldCount, .int c_t_worstBook, .int c_t_worstPast, .int c_t_sureSet, .int c_t_sureWin])), (a_t_seenSet, .inl (cyZ, 256, .inl c_t_seenSet)), (a_t_heldSets, .inl (cyI, 128, .inl c_t_heldSets)), (a_p1, .inr (6, [.int w_p1, .int m_p1, .ref a_p1_cells, .int c_p1_size])), (a_p1_cells, .inl (cyI, n_p1, .inl c_p1_cells)), (a_p2, .inr (2, [.ref a_p2_open, .ref a_p2_weight, .long c_p2_total, .int c_p2_stale])), (a_p2_weight, .inl (cyJ, 128, .inr (.inl c_p2_weight)))]
theorem hnX1_listHeldSets_X1 : ∀ w ∈ wsX10, w ∈ wsX1_listHeldSets := fun _ h => List.mem_cons_of_mem _ (List.mem_append_left _ (List.mem_append_left _ (List.mem_append_right _ h)))
theorem hnX1_listHeldSets_X2 : ∀ w ∈ wsX20, w ∈ wsX1_listHeldSets := fun _ h => List.mem_cons_of_mem _ (List.mem_append_left _ (List.mem_append_right _ h))
set_option maxHeartbeats 4000000 in
set_option maxRecDepth 100000 in
theorem kcX1_listHeldSets (l : Launch) (dC : Nat → ClassId) (dI : Nat → Nat → Nat) (cyB cyI cyJ cyZ cyS : ClassId) (a_t a_t_seenSet a_t_heldSets a_t_pays a_t_stakes a_p1 a_p1_cells a_p2 a_p2_open a_p2_weight : Nat) (w_p1 : Int32) (m_p1 : Int32) (n_p1 : Nat) (c_t_heldCount : Int32) (c_t_worstBook : Int32) (c_t_worstPast : Int32) (c_t_sureSet : Int32) (c_t_sureWin : Int32) (c_t_seenSet : (Nat → Int32)) (c_t_heldSets : (Nat → Int32)) (c_p1_size : Int32) (c_p1_cells : (Nat → Int32)) (c_p2_total : Int64) (c_p2_stale : Int32) (c_p2_weight : (Nat → Int64)) (out : (Int32 × (Nat → Int32) × (Nat → Int32))) (hf : fX1_listHeldSets w_p1 m_p1 n_p1 c_t_heldCount c_t_seenSet c_t_heldSets c_p1_size c_p1_cells c_p2_weight = some out) : pb_K l yX1_listHeldSets wsX1_listHeldSets rmX1_listHeldSets (dC, dI) vwCl (pb_tys cyB cyI cyJ cyZ cyS) pb_NW [.ref a_t, .ref a_p1, .ref a_p2] (wwX1_listHeldSets cyB cyI cyJ cyZ cyS a_t a_t_seenSet a_t_heldSets a_t_pays a_t_stakes a_p1 a_p1_cells a_p2 a_p2_open a_p2_weight w_p1 m_p1 n_p1 c_t_heldCount c_t_worstBook c_t_worstPast c_t_sureSet c_t_sureWin c_t_seenSet c_t_heldSets c_p1_size c_p1_cells c_p2_total c_p2_stale c_p2_weight) (wwX1_listHeldSets cyB cyI cyJ cyZ cyS a_t a_t_seenSet a_t_heldSets a_t_pays a_t_stakes a_p1 a_p1_cells a_p2 a_p2_open a_p2_weight w_p1 m_p1 n_p1 out.1 c_t_worstBook c_t_worstPast c_t_sureSet c_t_sureWin out.2.1 out.2.2 c_p1_size c_p1_cells c_p2_total c_p2_stale c_p2_weight) none := by
  unfold fX1_listHeldSets at hf
  refine pb_K.ofV (cc := cX1_listHeldSets) (maxL := 5) (ret := none) (lv0 := [(0, .ref a_t), (1, .ref a_p1), (2, .ref a_p2)]) (by decide) rfl (Nat.le_of_ble_eq_true rfl) rfl ?_
  intro p e s m below meth c A C hX hr hlk hA
  refine pb_iconst (v := 0) (pc := 0) C dX1_listHeldSets_0 pb_kI_0 ?_
  refine pb_istore_n (lv' := [(3, .int 0), (0, .ref a_t), (1, .ref a_p1), (2, .ref a_p2)]) (pc := 1) C dX1_listHeldSets_1 rfl (by decide) rfl ?_
  obtain ⟨z2, hz2, hk2⟩ := pb_bind hf
  have E2 : ∀ (e2_3 : Int32) (e2_c_t_seenSet : (Nat → Int32)), fX1_listHeldSets_E2 w_p1 m_p1 n_p1 c_t_heldSets c_p1_size c_p1_cells c_p2_weight e2_3 e2_c_t_seenSet = some out → pb_V p l e rmX1_listHeldSets s m (([.ref a_t, .ref a_p1, .ref a_p2] : List Value).toArray) below meth c 5 (dC, dI) vwCl A 0 0 (pb_MQ below (([.ref a_t, .ref a_p1, .ref a_p2] : List Value).toArray) s (dC, dI) vwCl (wwX1_listHeldSets cyB cyI cyJ cyZ cyS a_t a_t_seenSet a_t_heldSets a_t_pays a_t_stakes a_p1 a_p1_cells a_p2 a_p2_open a_p2_weight w_p1 m_p1 n_p1 c_t_heldCount c_t_worstBook c_t_worstPast c_t_sureSet c_t_sureWin c_t_seenSet c_t_heldSets c_p1_size c_p1_cells c_p2_total c_p2_stale c_p2_weight) (wwX1_listHeldSets cyB cyI cyJ cyZ cyS a_t a_t_seenSet a_t_heldSets a_t_pays a_t_stakes a_p1 a_p1_cells a_p2 a_p2_open a_p2_weight w_p1 m_p1 n_p1 out.1 c_t_worstBook c_t_worstPast c_t_sureSet c_t_sureWin out.2.1 out.2.2 c_p1_size c_p1_cells c_p2_total c_p2_stale c_p2_weight) none A) (wwX1_listHeldSets cyB cyI cyJ cyZ cyS a_t a_t_seenSet a_t_heldSets a_t_pays a_t_stakes a_p1 a_p1_cells a_p2 a_p2_open a_p2_weight w_p1 m_p1 n_p1 c_t_heldCount c_t_worstBook c_t_worstPast c_t_sureSet c_t_sureWin e2_c_t_seenSet c_t_heldSets c_p1_size c_p1_cells c_p2_total c_p2_stale c_p2_weight) [(0, .ref a_t), (1, .ref a_p1), (2, .ref a_p2)] [] 22 := by
    intro e2_3 e2_c_t_seenSet hf
    unfold fX1_listHeldSets_E2 at hf
    refine pb_aload_n (pc := 22) C dX1_listHeldSets_22 rfl 0 rfl ?_
    refine pb_iconst (v := 0) (pc := 23) C dX1_listHeldSets_23 pb_kI_0 ?_
    refine pb_put (pc := 24) (ws' := (wwX1_listHeldSets cyB cyI cyJ cyZ cyS a_t a_t_seenSet a_t_heldSets a_t_pays a_t_stakes a_p1 a_p1_cells a_p2 a_p2_open a_p2_weight w_p1 m_p1 n_p1 0 c_t_worstBook c_t_worstPast c_t_sureSet c_t_sureWin e2_c_t_seenSet c_t_heldSets c_p1_size c_p1_cells c_p2_total c_p2_stale c_p2_weight)) C hnX1_listHeldSets_X1 tyX1 tyX1_ok nmX1 0 rfl rfl 4 (by decide) (List.mem_of_getElem? (i := 2) rfl) rfl rfl rfl rfl (Nat.le_of_ble_eq_true rfl) rfl dX1_listHeldSets_24 ?_
    refine pb_iconst (v := 0) (pc := 27) C dX1_listHeldSets_27 pb_kI_0 ?_
    refine pb_istore_n (lv' := [(3, .int 0), (0, .ref a_t), (1, .ref a_p1), (2, .ref a_p2)]) (pc := 28) C dX1_listHeldSets_28 rfl (by decide) rfl ?_
    obtain ⟨z29, hz29, hk29⟩ := pb_bind hf
    have E29 : ∀ (e29_3 : Int32) (e29_c_t_heldCount : Int32) (e29_c_t_seenSet : (Nat → Int32)) (e29_c_t_heldSets : (Nat → Int32)), fX1_listHeldSets_E29 e29_3 e29_c_t_heldCount e29_c_t_seenSet e29_c_t_heldSets = some out → pb_V p l e rmX1_listHeldSets s m (([.ref a_t, .ref a_p1, .ref a_p2] : List Value).toArray) below meth c 5 (dC, dI) vwCl A 0 0 (pb_MQ below (([.ref a_t, .ref a_p1, .ref a_p2] : List Value).toArray) s (dC, dI) vwCl (wwX1_listHeldSets cyB cyI cyJ cyZ cyS a_t a_t_seenSet a_t_heldSets a_t_pays a_t_stakes a_p1 a_p1_cells a_p2 a_p2_open a_p2_weight w_p1 m_p1 n_p1 c_t_heldCount c_t_worstBook c_t_worstPast c_t_sureSet c_t_sureWin c_t_seenSet c_t_heldSets c_p1_size c_p1_cells c_p2_total c_p2_stale c_p2_weight) (wwX1_listHeldSets cyB cyI cyJ cyZ cyS a_t a_t_seenSet a_t_heldSets a_t_pays a_t_stakes a_p1 a_p1_cells a_p2 a_p2_open a_p2_weight w_p1 m_p1 n_p1 out.1 c_t_worstBook c_t_worstPast c_t_sureSet c_t_sureWin out.2.1 out.2.2 c_p1_size c_p1_cells c_p2_total c_p2_stale c_p2_weight) none A) (wwX1_listHeldSets cyB cyI cyJ cyZ cyS a_t a_t_seenSet a_t_heldSets a_t_pays a_t_stakes a_p1 a_p1_cells a_p2 a_p2_open a_p2_weight w_p1 m_p1 n_p1 e29_c_t_heldCount c_t_worstBook c_t_worstPast c_t_sureSet c_t_sureWin e29_c_t_seenSet e29_c_t_heldSets c_p1_size c_p1_cells c_p2_total c_p2_stale c_p2_weight) [] [] 99 := by
      intro e29_3 e29_c_t_heldCount e29_c_t_seenSet e29_c_t_heldSets hf
      unfold fX1_listHeldSets_E29 at hf
      obtain rfl := Option.some.inj hf
      exact pb_vret (pc := 99) C hr hlk hA dX1_listHeldSets_99
    have L29 : ∀ (n : Nat) (l29_3 : Int32) (l29_c_t_heldCount : Int32) (l29_c_t_seenSet : (Nat → Int32)) (l29_c_t_heldSets : (Nat → Int32)), pb_lp (fun y => fX1_listHeldSets_L29 w_p1 m_p1 n_p1 c_p1_size c_p1_cells c_p2_weight y.1 y.2.1 y.2.2.1 y.2.2.2) n (l29_3, l29_c_t_heldCount, l29_c_t_seenSet, l29_c_t_heldSets) = some z29 → pb_V p l e rmX1_listHeldSets s m (([.ref a_t, .ref a_p1, .ref a_p2] : List Value).toArray) below meth c 5 (dC, dI) vwCl A 0 0 (pb_MQ below (([.ref a_t, .ref a_p1, .ref a_p2] : List Value).toArray) s (dC, dI) vwCl (wwX1_listHeldSets cyB cyI cyJ cyZ cyS a_t a_t_seenSet a_t_heldSets a_t_pays a_t_stakes a_p1 a_p1_cells a_p2 a_p2_open a_p2_weight w_p1 m_p1 n_p1 c_t_heldCount c_t_worstBook c_t_worstPast c_t_sureSet c_t_sureWin c_t_seenSet c_t_heldSets c_p1_size c_p1_cells c_p2_total c_p2_stale c_p2_weight) (wwX1_listHeldSets cyB cyI cyJ cyZ cyS a_t a_t_seenSet a_t_heldSets a_t_pays a_t_stakes a_p1 a_p1_cells a_p2 a_p2_open a_p2_weight w_p1 m_p1 n_p1 out.1 c_t_worstBook c_t_worstPast c_t_sureSet c_t_sureWin out.2.1 out.2.2 c_p1_size c_p1_cells c_p2_total c_p2_stale c_p2_weight) none A) (wwX1_listHeldSets cyB cyI cyJ cyZ cyS a_t a_t_seenSet a_t_heldSets a_t_pays a_t_stakes a_p1 a_p1_cells a_p2 a_p2_open a_p2_weight w_p1 m_p1 n_p1 l29_c_t_heldCount c_t_worstBook c_t_worstPast c_t_sureSet c_t_sureWin l29_c_t_seenSet l29_c_t_heldSets c_p1_size c_p1_cells c_p2_total c_p2_stale c_p2_weight) [(0, .ref a_t), (1, .ref a_p1), (2, .ref a_p2), (3, .int l29_3)] [] 29 := by
      intro n
      induction n with
      | zero => intro l29_3 l29_c_t_heldCount l29_c_t_seenSet l29_c_t_heldSets hf; exact (pb_lp_zero hf).elim
      | succ n ih29 =>
        intro l29_3 l29_c_t_heldCount l29_c_t_seenSet l29_c_t_heldSets hf
        obtain ⟨y29, hf, hl29⟩ := pb_lp_succ hf
        have hf : fX1_listHeldSets_L29 w_p1 m_p1 n_p1 c_p1_size c_p1_cells c_p2_weight l29_3 l29_c_t_heldCount l29_c_t_seenSet l29_c_t_heldSets = some y29 := hf
        unfold fX1_listHeldSets_L29 at hf
        refine pb_iload_n (pc := 29) C dX1_listHeldSets_29 rfl 3 rfl ?_
        refine pb_sipush (v := 128) (pc := 30) C dX1_listHeldSets_30 pb_kS_128 ?_
        refine pb_icmp_ge (pc := 33) (tgt := 99) C dX1_listHeldSets_33 (by decide) (fun hc33 => ?_) (fun hc33 => ?_)
        · have hf := pb_pos hf hc33
          obtain rfl := Option.some.inj hf
          obtain rfl := pb_esc hl29
          refine pb_sub [] rfl ?_
          exact E29 l29_3 l29_c_t_heldCount l29_c_t_seenSet l29_c_t_heldSets hk29
        · have hf := pb_neg hf hc33
          refine pb_aload_n (pc := 36) C dX1_listHeldSets_36 rfl 2 rfl ?_
          refine pb_get (pc := 37) C hnX1_listHeldSets_X2 5 rfl rfl 1 (by decide) (List.mem_of_getElem? (i := 3) rfl) rfl rfl dX1_listHeldSets_37 ?_
          refine pb_iload_n (pc := 40) C dX1_listHeldSets_40 rfl 3 rfl ?_
          obtain ⟨g41, hf⟩ := pb_grd hf
          refine pb_lald (pc := 41) C 6 2 rfl rfl g41 dX1_listHeldSets_41 ?_
          refine pb_lconst (v := 0) (pc := 42) C dX1_listHeldSets_42 pb_kL_0 ?_
          refine pb_lif_le (pc := 43) (tgt := 93) C dX1_listHeldSets_43 dX1_listHeldSets_44 (by decide) (fun hc43 => ?_) (fun hc43 => ?_)
          · have hf := pb_pos hf hc43
            refine pb_iinc (v := l29_3 + 1) (lv' := [(3, .int (l29_3 + 1)), (0, .ref a_t), (1, .ref a_p1), (2, .ref a_p2)]) (pc := 93) C dX1_listHeldSets_93 3 rfl (pb_inc pb_kI_1 rfl) (by decide) rfl ?_
            refine pb_goto (pc := 96) (tgt := 29) C dX1_listHeldSets_96 (by decide) ?_
            obtain rfl := Option.some.inj hf
            refine pb_sub [1, 2, 3, 0] rfl ?_
            have hl29 := pb_inl hl29
            exact ih29 (l29_3 + 1) l29_c_t_heldCount l29_c_t_seenSet l29_c_t_heldSets hl29
          · have hf := pb_neg hf hc43
            refine pb_aload_n (pc := 47) C dX1_listHeldSets_47 rfl 1 rfl ?_
            refine pb_iload_n (pc := 48) C dX1_listHeldSets_48 rfl 3 rfl ?_
            obtain ⟨r49, hr49, hf⟩ := pb_bind hf
            refine pb_callS (pc := 49) (n0 := 7) (ws' := (wwX1_listHeldSets cyB cyI cyJ cyZ cyS a_t a_t_seenSet a_t_heldSets a_t_pays a_t_stakes a_p1 a_p1_cells a_p2 a_p2_open a_p2_weight w_p1 m_p1 n_p1 l29_c_t_heldCount c_t_worstBook c_t_worstPast c_t_sureSet c_t_sureWin l29_c_t_seenSet l29_c_t_heldSets c_p1_size c_p1_cells c_p2_total c_p2_stale c_p2_weight)) (rest := []) (st2 := [.int r49]) C (kcX1_heldSet l dC dI cyB cyI cyJ cyZ cyS a_p1 a_p1_cells w_p1 m_p1 n_p1 c_p1_size c_p1_cells l29_3 r49 hr49) pb_NW_b (pb_NW_x hX) (va_cwS 2 C.1.2.2.2.2 gX1_listHeldSets_X1_heldSet rfl rfl rfl kdS_X1_heldSet ⟨Nat.le_of_ble_eq_true rfl, Nat.le_of_ble_eq_true rfl⟩) [3, 4] [0, 1, 2, 5, 6] rfl rfl ⟨⟨_, rfl, rfl⟩, ⟨⟨_, rfl, rfl⟩, ⟨⟨_, rfl, rfl⟩, ⟨⟨_, rfl, rfl⟩, ⟨⟨_, rfl, rfl⟩, trivial⟩⟩⟩⟩⟩ rfl (by decide +kernel) (adl := [a_p1, a_p1_cells]) rfl rfl rfl rfl rfl (Nat.le_of_ble_eq_true rfl) ⟨Nat.le_refl _, Nat.le_refl _⟩ dX1_listHeldSets_49 rfl ?_
            refine pb_istore (lv' := [(4, .int r49), (0, .ref a_t), (1, .ref a_p1), (2, .ref a_p2), (3, .int l29_3)]) (pc := 52) C dX1_listHeldSets_52 (by decide) rfl ?_
            refine pb_aload_n (pc := 54) C dX1_listHeldSets_54 rfl 1 rfl ?_
            refine pb_get (pc := 55) C hnX1_listHeldSets_X1 0 rfl rfl 0 (by decide) (List.mem_of_getElem? (i := 1) rfl) rfl rfl dX1_listHeldSets_55 ?_
            refine pb_iload (pc := 58) C dX1_listHeldSets_58 0 rfl ?_
            obtain ⟨g60, hf⟩ := pb_grd hf
            refine pb_zald (pc := 60) C 1 3 rfl rfl g60 dX1_listHeldSets_60 ?_
            refine pb_if_ne (pc := 61) (tgt := 93) C dX1_listHeldSets_61 (by decide) (fun hc61 => ?_) (fun hc61 => ?_)
            · have hf := pb_neg hf hc61
              refine pb_iinc (v := l29_3 + 1) (lv' := [(3, .int (l29_3 + 1)), (4, .int r49), (0, .ref a_t), (1, .ref a_p1), (2, .ref a_p2)]) (pc := 93) C dX1_listHeldSets_93 4 rfl (pb_inc pb_kI_1 rfl) (by decide) rfl ?_
              refine pb_goto (pc := 96) (tgt := 29) C dX1_listHeldSets_96 (by decide) ?_
              obtain rfl := Option.some.inj hf
              refine pb_sub [2, 3, 4, 0] rfl ?_
              have hl29 := pb_inl hl29
              exact ih29 (l29_3 + 1) l29_c_t_heldCount l29_c_t_seenSet l29_c_t_heldSets hl29
            · have hf := pb_pos hf hc61
              refine pb_aload_n (pc := 64) C dX1_listHeldSets_64 rfl 1 rfl ?_
              refine pb_get (pc := 65) C hnX1_listHeldSets_X1 0 rfl rfl 0 (by decide) (List.mem_of_getElem? (i := 1) rfl) rfl rfl dX1_listHeldSets_65 ?_
              refine pb_iload (pc := 68) C dX1_listHeldSets_68 0 rfl ?_
              refine pb_iconst (v := 1) (pc := 70) C dX1_listHeldSets_70 pb_kI_1 ?_
              obtain ⟨g71, hf⟩ := pb_grd hf
              obtain ⟨u71, eu71, hf⟩ := pb_bind hf
              have eu71 := Option.some.inj eu71
              refine pb_zast (pc := 71) (ws' := (wwX1_listHeldSets cyB cyI cyJ cyZ cyS a_t a_t_seenSet a_t_heldSets a_t_pays a_t_stakes a_p1 a_p1_cells a_p2 a_p2_open a_p2_weight w_p1 m_p1 n_p1 l29_c_t_heldCount c_t_worstBook c_t_worstPast c_t_sureSet c_t_sureWin u71 l29_c_t_heldSets c_p1_size c_p1_cells c_p2_total c_p2_stale c_p2_weight)) C 1 3 rfl rfl g71 eu71 rfl dX1_listHeldSets_71 ?_
              refine pb_aload_n (pc := 72) C dX1_listHeldSets_72 rfl 1 rfl ?_
              refine pb_get (pc := 73) C hnX1_listHeldSets_X1 0 rfl rfl 1 (by decide) (List.mem_of_getElem? (i := 4) rfl) rfl rfl dX1_listHeldSets_73 ?_
              refine pb_aload_n (pc := 76) C dX1_listHeldSets_76 rfl 1 rfl ?_
              refine pb_get (pc := 77) C hnX1_listHeldSets_X1 0 rfl rfl 4 (by decide) (List.mem_of_getElem? (i := 2) rfl) rfl rfl dX1_listHeldSets_77 ?_
              refine pb_iload (pc := 80) C dX1_listHeldSets_80 0 rfl ?_
              obtain ⟨g82, hf⟩ := pb_grd hf
              obtain ⟨u82, eu82, hf⟩ := pb_bind hf
              have eu82 := Option.some.inj eu82
              refine pb_iast (pc := 82) (ws' := (wwX1_listHeldSets cyB cyI cyJ cyZ cyS a_t a_t_seenSet a_t_heldSets a_t_pays a_t_stakes a_p1 a_p1_cells a_p2 a_p2_open a_p2_weight w_p1 m_p1 n_p1 l29_c_t_heldCount c_t_worstBook c_t_worstPast c_t_sureSet c_t_sureWin u71 u82 c_p1_size c_p1_cells c_p2_total c_p2_stale c_p2_weight)) C 2 1 rfl rfl g82 eu82 rfl dX1_listHeldSets_82 ?_
              refine pb_aload_n (pc := 83) C dX1_listHeldSets_83 rfl 1 rfl ?_
              refine pb_dup (pc := 84) C dX1_listHeldSets_84 rfl ?_
              refine pb_get (pc := 85) C hnX1_listHeldSets_X1 0 rfl rfl 4 (by decide) (List.mem_of_getElem? (i := 2) rfl) rfl rfl dX1_listHeldSets_85 ?_
              refine pb_iconst (v := 1) (pc := 88) C dX1_listHeldSets_88 pb_kI_1 ?_
              refine pb_iadd (pc := 89) C dX1_listHeldSets_89 ?_
              obtain ⟨x90, ex90, hf⟩ := pb_bind hf
              have ex90 := Option.some.inj ex90
              refine pb_topi ex90 ?_
              refine pb_put (pc := 90) (ws' := (wwX1_listHeldSets cyB cyI cyJ cyZ cyS a_t a_t_seenSet a_t_heldSets a_t_pays a_t_stakes a_p1 a_p1_cells a_p2 a_p2_open a_p2_weight w_p1 m_p1 n_p1 x90 c_t_worstBook c_t_worstPast c_t_sureSet c_t_sureWin u71 u82 c_p1_size c_p1_cells c_p2_total c_p2_stale c_p2_weight)) C hnX1_listHeldSets_X1 tyX1 tyX1_ok nmX1 0 rfl rfl 4 (by decide) (List.mem_of_getElem? (i := 2) rfl) rfl rfl rfl rfl (Nat.le_of_ble_eq_true rfl) rfl dX1_listHeldSets_90 ?_
              refine pb_iinc (v := l29_3 + 1) (lv' := [(3, .int (l29_3 + 1)), (4, .int r49), (0, .ref a_t), (1, .ref a_p1), (2, .ref a_p2)]) (pc := 93) C dX1_listHeldSets_93 4 rfl (pb_inc pb_kI_1 rfl) (by decide) rfl ?_
              refine pb_goto (pc := 96) (tgt := 29) C dX1_listHeldSets_96 (by decide) ?_
              obtain rfl := Option.some.inj hf
              refine pb_sub [2, 3, 4, 0] rfl ?_
              have hl29 := pb_inl hl29
              exact ih29 (l29_3 + 1) x90 u71 u82 hl29
    refine pb_sub [1, 2, 3, 0] rfl ?_
    exact L29 pb_FU 0 0 e2_c_t_seenSet c_t_heldSets hz29
  have L2 : ∀ (n : Nat) (l2_3 : Int32) (l2_c_t_seenSet : (Nat → Int32)), pb_lp (fun y => fX1_listHeldSets_L2 y.1 y.2) n (l2_3, l2_c_t_seenSet) = some z2 → pb_V p l e rmX1_listHeldSets s m (([.ref a_t, .ref a_p1, .ref a_p2] : List Value).toArray) below meth c 5 (dC, dI) vwCl A 0 0 (pb_MQ below (([.ref a_t, .ref a_p1, .ref a_p2] : List Value).toArray) s (dC, dI) vwCl (wwX1_listHeldSets cyB cyI cyJ cyZ cyS a_t a_t_seenSet a_t_heldSets a_t_pays a_t_stakes a_p1 a_p1_cells a_p2 a_p2_open a_p2_weight w_p1 m_p1 n_p1 c_t_heldCount c_t_worstBook c_t_worstPast c_t_sureSet c_t_sureWin c_t_seenSet c_t_heldSets c_p1_size c_p1_cells c_p2_total c_p2_stale c_p2_weight) (wwX1_listHeldSets cyB cyI cyJ cyZ cyS a_t a_t_seenSet a_t_heldSets a_t_pays a_t_stakes a_p1 a_p1_cells a_p2 a_p2_open a_p2_weight w_p1 m_p1 n_p1 out.1 c_t_worstBook c_t_worstPast c_t_sureSet c_t_sureWin out.2.1 out.2.2 c_p1_size c_p1_cells c_p2_total c_p2_stale c_p2_weight) none A) (wwX1_listHeldSets cyB cyI cyJ cyZ cyS a_t a_t_seenSet a_t_heldSets a_t_pays a_t_stakes a_p1 a_p1_cells a_p2 a_p2_open a_p2_weight w_p1 m_p1 n_p1 c_t_heldCount c_t_worstBook c_t_worstPast c_t_sureSet c_t_sureWin l2_c_t_seenSet c_t_heldSets c_p1_size c_p1_cells c_p2_total c_p2_stale c_p2_weight) [(0, .ref a_t), (1, .ref a_p1), (2, .ref a_p2), (3, .int l2_3)] [] 2 := by
    intro n
    induction n with
    | zero => intro l2_3 l2_c_t_seenSet hf; exact (pb_lp_zero hf).elim
    | succ n ih2 =>
      intro l2_3 l2_c_t_seenSet hf
      obtain ⟨y2, hf, hl2⟩ := pb_lp_succ hf
      have hf : fX1_listHeldSets_L2 l2_3 l2_c_t_seenSet = some y2 := hf
      unfold fX1_listHeldSets_L2 at hf
      refine pb_iload_n (pc := 2) C dX1_listHeldSets_2 rfl 3 rfl ?_
      refine pb_sipush (v := 256) (pc := 3) C dX1_listHeldSets_3 pb_kS_256 ?_
      refine pb_icmp_ge (pc := 6) (tgt := 22) C dX1_listHeldSets_6 (by decide) (fun hc6 => ?_) (fun hc6 => ?_)
      · have hf := pb_pos hf hc6
        obtain rfl := Option.some.inj hf
        obtain rfl := pb_esc hl2
        refine pb_sub [0, 1, 2] rfl ?_
        exact E2 l2_3 l2_c_t_seenSet hk2
      · have hf := pb_neg hf hc6
        refine pb_aload_n (pc := 9) C dX1_listHeldSets_9 rfl 0 rfl ?_
        refine pb_get (pc := 10) C hnX1_listHeldSets_X1 0 rfl rfl 0 (by decide) (List.mem_of_getElem? (i := 1) rfl) rfl rfl dX1_listHeldSets_10 ?_
        refine pb_iload_n (pc := 13) C dX1_listHeldSets_13 rfl 3 rfl ?_
        refine pb_iconst (v := 0) (pc := 14) C dX1_listHeldSets_14 pb_kI_0 ?_
        obtain ⟨g15, hf⟩ := pb_grd hf
        obtain ⟨u15, eu15, hf⟩ := pb_bind hf
        have eu15 := Option.some.inj eu15
        refine pb_zast (pc := 15) (ws' := (wwX1_listHeldSets cyB cyI cyJ cyZ cyS a_t a_t_seenSet a_t_heldSets a_t_pays a_t_stakes a_p1 a_p1_cells a_p2 a_p2_open a_p2_weight w_p1 m_p1 n_p1 c_t_heldCount c_t_worstBook c_t_worstPast c_t_sureSet c_t_sureWin u15 c_t_heldSets c_p1_size c_p1_cells c_p2_total c_p2_stale c_p2_weight)) C 1 3 rfl rfl g15 eu15 rfl dX1_listHeldSets_15 ?_
        refine pb_iinc (v := l2_3 + 1) (lv' := [(3, .int (l2_3 + 1)), (0, .ref a_t), (1, .ref a_p1), (2, .ref a_p2)]) (pc := 16) C dX1_listHeldSets_16 3 rfl (pb_inc pb_kI_1 rfl) (by decide) rfl ?_
        refine pb_goto (pc := 19) (tgt := 2) C dX1_listHeldSets_19 (by decide) ?_
        obtain rfl := Option.some.inj hf
        refine pb_sub [1, 2, 3, 0] rfl ?_
        have hl2 := pb_inl hl2
        exact ih2 (l2_3 + 1) u15 hl2
  refine pb_sub [1, 2, 3, 0] rfl ?_
  exact L2 pb_FU 0 c_t_seenSet hz2
def rmX1_sumSets : Room := { frames := 1, cells := 0, slots := 0, locals := 22 }
def wwX1_sumSets (cyB cyI cyJ cyZ cyS : ClassId) (a_t a_t_seenSet a_t_heldSets a_t_pays a_t_stakes a_p1 a_p1_cells : Nat) (w_p1 : Int32) (m_p1 : Int32) (n_p1 : Nat) (c_t_heldCount : Int32) (c_t_worstBook : Int32) (c_t_worstPast : Int32) (c_t_sureSet : Int32) (c_t_sureWin : Int32) (c_t_pays : (Nat → Int32)) (c_t_stakes : (Nat → Int32)) (c_p1_size : Int32) (c_p1_cells : (Nat → Int32)) : va_W := [(a_t, .inr (1, [.ref a_t_seenSet, .ref a_t_heldSets, .ref a_t_pays, .ref a_t_stakes, .int c_t_heldCount, .int c_t_worstBook, .int c_t_worstPast, .int c_t_sureSet, .int c_t_sureWin])), (a_t_pays, .inl (cyI, 256, .inl c_t_pays)), (a_t_stakes, .inl (cyI, 256, .inl c_t_stakes)), (a_p1, .inr (6, [.int w_p1, .int m_p1, .ref a_p1_cells, .int c_p1_size])), (a_p1_cells, .inl (cyI, n_p1, .inl c_p1_cells))]
theorem hnX1_sumSets_X1 : ∀ w ∈ wsX10, w ∈ wsX1_sumSets := fun _ h => List.mem_cons_of_mem _ (List.mem_append_left _ (List.mem_append_right _ h))
theorem hnX1_sumSets_X6 : ∀ w ∈ wsX60, w ∈ wsX1_sumSets := fun _ h => List.mem_cons_of_mem _ (List.mem_append_right _ h)
set_option maxHeartbeats 4000000 in
set_option maxRecDepth 100000 in
theorem kcX1_sumSets (l : Launch) (dC : Nat → ClassId) (dI : Nat → Nat → Nat) (cyB cyI cyJ cyZ cyS : ClassId) (a_t a_t_seenSet a_t_heldSets a_t_pays a_t_stakes a_p1 a_p1_cells : Nat) (w_p1 : Int32) (m_p1 : Int32) (n_p1 : Nat) (c_t_heldCount : Int32) (c_t_worstBook : Int32) (c_t_worstPast : Int32) (c_t_sureSet : Int32) (c_t_sureWin : Int32) (c_t_pays : (Nat → Int32)) (c_t_stakes : (Nat → Int32)) (c_p1_size : Int32) (c_p1_cells : (Nat → Int32)) (out : ((Nat → Int32) × (Nat → Int32))) (hf : fX1_sumSets w_p1 m_p1 n_p1 c_t_pays c_t_stakes c_p1_size c_p1_cells = some out) : pb_K l yX1_sumSets wsX1_sumSets rmX1_sumSets (dC, dI) vwCl (pb_tys cyB cyI cyJ cyZ cyS) pb_NW [.ref a_t, .ref a_p1] (wwX1_sumSets cyB cyI cyJ cyZ cyS a_t a_t_seenSet a_t_heldSets a_t_pays a_t_stakes a_p1 a_p1_cells w_p1 m_p1 n_p1 c_t_heldCount c_t_worstBook c_t_worstPast c_t_sureSet c_t_sureWin c_t_pays c_t_stakes c_p1_size c_p1_cells) (wwX1_sumSets cyB cyI cyJ cyZ cyS a_t a_t_seenSet a_t_heldSets a_t_pays a_t_stakes a_p1 a_p1_cells w_p1 m_p1 n_p1 c_t_heldCount c_t_worstBook c_t_worstPast c_t_sureSet c_t_sureWin out.1 out.2 c_p1_size c_p1_cells) none := by
  unfold fX1_sumSets at hf
  refine pb_K.ofV (cc := cX1_sumSets) (maxL := 7) (ret := none) (lv0 := [(0, .ref a_t), (1, .ref a_p1)]) (by decide) rfl (Nat.le_of_ble_eq_true rfl) rfl ?_
  intro p e s m below meth c A C hX hr hlk hA
  refine pb_aload_n (pc := 0) C dX1_sumSets_0 rfl 0 rfl ?_
  refine pb_get (pc := 1) C hnX1_sumSets_X1 0 rfl rfl 2 (by decide) (List.mem_of_getElem? (i := 1) rfl) rfl rfl dX1_sumSets_1 ?_
  refine pb_iconst (v := 0) (pc := 4) C dX1_sumSets_4 pb_kI_0 ?_
  refine pb_iconst (v := 0) (pc := 5) C dX1_sumSets_5 pb_kI_0 ?_
  obtain ⟨u6, eu6, hf⟩ := pb_bind hf
  have eu6 := Option.some.inj eu6
  refine pb_iast (pc := 6) (ws' := (wwX1_sumSets cyB cyI cyJ cyZ cyS a_t a_t_seenSet a_t_heldSets a_t_pays a_t_stakes a_p1 a_p1_cells w_p1 m_p1 n_p1 c_t_heldCount c_t_worstBook c_t_worstPast c_t_sureSet c_t_sureWin u6 c_t_stakes c_p1_size c_p1_cells)) C 1 1 rfl rfl pb_ok_0_256 ((congrArg (fun k => upd c_t_pays k 0) pb_kN_0).trans eu6) rfl dX1_sumSets_6 ?_
  refine pb_aload_n (pc := 7) C dX1_sumSets_7 rfl 0 rfl ?_
  refine pb_get (pc := 8) C hnX1_sumSets_X1 0 rfl rfl 3 (by decide) (List.mem_of_getElem? (i := 2) rfl) rfl rfl dX1_sumSets_8 ?_
  refine pb_iconst (v := 0) (pc := 11) C dX1_sumSets_11 pb_kI_0 ?_
  refine pb_iconst (v := 0) (pc := 12) C dX1_sumSets_12 pb_kI_0 ?_
  obtain ⟨u13, eu13, hf⟩ := pb_bind hf
  have eu13 := Option.some.inj eu13
  refine pb_iast (pc := 13) (ws' := (wwX1_sumSets cyB cyI cyJ cyZ cyS a_t a_t_seenSet a_t_heldSets a_t_pays a_t_stakes a_p1 a_p1_cells w_p1 m_p1 n_p1 c_t_heldCount c_t_worstBook c_t_worstPast c_t_sureSet c_t_sureWin u6 u13 c_p1_size c_p1_cells)) C 2 1 rfl rfl pb_ok_0_256 ((congrArg (fun k => upd c_t_stakes k 0) pb_kN_0).trans eu13) rfl dX1_sumSets_13 ?_
  refine pb_iconst (v := 0) (pc := 14) C dX1_sumSets_14 pb_kI_0 ?_
  refine pb_istore_n (lv' := [(2, .int 0), (0, .ref a_t), (1, .ref a_p1)]) (pc := 15) C dX1_sumSets_15 rfl (by decide) rfl ?_
  obtain ⟨z16, hz16, hk16⟩ := pb_bind hf
  have E16 : ∀ (e16_2 : Int32) (e16_c_t_pays : (Nat → Int32)) (e16_c_t_stakes : (Nat → Int32)), fX1_sumSets_E16 e16_2 e16_c_t_pays e16_c_t_stakes = some out → pb_V p l e rmX1_sumSets s m (([.ref a_t, .ref a_p1] : List Value).toArray) below meth c 7 (dC, dI) vwCl A 0 0 (pb_MQ below (([.ref a_t, .ref a_p1] : List Value).toArray) s (dC, dI) vwCl (wwX1_sumSets cyB cyI cyJ cyZ cyS a_t a_t_seenSet a_t_heldSets a_t_pays a_t_stakes a_p1 a_p1_cells w_p1 m_p1 n_p1 c_t_heldCount c_t_worstBook c_t_worstPast c_t_sureSet c_t_sureWin c_t_pays c_t_stakes c_p1_size c_p1_cells) (wwX1_sumSets cyB cyI cyJ cyZ cyS a_t a_t_seenSet a_t_heldSets a_t_pays a_t_stakes a_p1 a_p1_cells w_p1 m_p1 n_p1 c_t_heldCount c_t_worstBook c_t_worstPast c_t_sureSet c_t_sureWin out.1 out.2 c_p1_size c_p1_cells) none A) (wwX1_sumSets cyB cyI cyJ cyZ cyS a_t a_t_seenSet a_t_heldSets a_t_pays a_t_stakes a_p1 a_p1_cells w_p1 m_p1 n_p1 c_t_heldCount c_t_worstBook c_t_worstPast c_t_sureSet c_t_sureWin e16_c_t_pays e16_c_t_stakes c_p1_size c_p1_cells) [] [] 113 := by
    intro e16_2 e16_c_t_pays e16_c_t_stakes hf
    unfold fX1_sumSets_E16 at hf
    obtain rfl := Option.some.inj hf
    exact pb_vret (pc := 113) C hr hlk hA dX1_sumSets_113
  have L16 : ∀ (n : Nat) (l16_2 : Int32) (l16_c_t_pays : (Nat → Int32)) (l16_c_t_stakes : (Nat → Int32)), pb_lp (fun y => fX1_sumSets_L16 w_p1 m_p1 n_p1 c_p1_size c_p1_cells y.1 y.2.1 y.2.2) n (l16_2, l16_c_t_pays, l16_c_t_stakes) = some z16 → pb_V p l e rmX1_sumSets s m (([.ref a_t, .ref a_p1] : List Value).toArray) below meth c 7 (dC, dI) vwCl A 0 0 (pb_MQ below (([.ref a_t, .ref a_p1] : List Value).toArray) s (dC, dI) vwCl (wwX1_sumSets cyB cyI cyJ cyZ cyS a_t a_t_seenSet a_t_heldSets a_t_pays a_t_stakes a_p1 a_p1_cells w_p1 m_p1 n_p1 c_t_heldCount c_t_worstBook c_t_worstPast c_t_sureSet c_t_sureWin c_t_pays c_t_stakes c_p1_size c_p1_cells) (wwX1_sumSets cyB cyI cyJ cyZ cyS a_t a_t_seenSet a_t_heldSets a_t_pays a_t_stakes a_p1 a_p1_cells w_p1 m_p1 n_p1 c_t_heldCount c_t_worstBook c_t_worstPast c_t_sureSet c_t_sureWin out.1 out.2 c_p1_size c_p1_cells) none A) (wwX1_sumSets cyB cyI cyJ cyZ cyS a_t a_t_seenSet a_t_heldSets a_t_pays a_t_stakes a_p1 a_p1_cells w_p1 m_p1 n_p1 c_t_heldCount c_t_worstBook c_t_worstPast c_t_sureSet c_t_sureWin l16_c_t_pays l16_c_t_stakes c_p1_size c_p1_cells) [(0, .ref a_t), (1, .ref a_p1), (2, .int l16_2)] [] 16 := by
    intro n
    induction n with
    | zero => intro l16_2 l16_c_t_pays l16_c_t_stakes hf; exact (pb_lp_zero hf).elim
    | succ n ih16 =>
      intro l16_2 l16_c_t_pays l16_c_t_stakes hf
      obtain ⟨y16, hf, hl16⟩ := pb_lp_succ hf
      have hf : fX1_sumSets_L16 w_p1 m_p1 n_p1 c_p1_size c_p1_cells l16_2 l16_c_t_pays l16_c_t_stakes = some y16 := hf
      unfold fX1_sumSets_L16 at hf
      refine pb_iload_n (pc := 16) C dX1_sumSets_16 rfl 2 rfl ?_
      refine pb_aload_n (pc := 17) C dX1_sumSets_17 rfl 1 rfl ?_
      refine pb_get (pc := 18) C hnX1_sumSets_X6 3 rfl rfl 3 (by decide) (List.mem_of_getElem? (i := 3) rfl) rfl rfl dX1_sumSets_18 ?_
      refine pb_icmp_ge (pc := 21) (tgt := 113) C dX1_sumSets_21 (by decide) (fun hc21 => ?_) (fun hc21 => ?_)
      · have hf := pb_pos hf hc21
        obtain rfl := Option.some.inj hf
        obtain rfl := pb_esc hl16
        refine pb_sub [] rfl ?_
        exact E16 l16_2 l16_c_t_pays l16_c_t_stakes hk16
      · have hf := pb_neg hf hc21
        refine pb_iload_n (pc := 24) C dX1_sumSets_24 rfl 2 rfl ?_
        refine pb_bipush (v := 8) (pc := 25) C dX1_sumSets_25 pb_kB_8 ?_
        refine pb_icmp_ge (pc := 27) (tgt := 113) C dX1_sumSets_27 (by decide) (fun hc27 => ?_) (fun hc27 => ?_)
        · have hf := pb_pos hf hc27
          obtain rfl := Option.some.inj hf
          obtain rfl := pb_esc hl16
          refine pb_sub [] rfl ?_
          exact E16 l16_2 l16_c_t_pays l16_c_t_stakes hk16
        · have hf := pb_neg hf hc27
          refine pb_aload_n (pc := 30) C dX1_sumSets_30 rfl 1 rfl ?_
          refine pb_iload_n (pc := 31) C dX1_sumSets_31 rfl 2 rfl ?_
          refine pb_iconst (v := 3) (pc := 32) C dX1_sumSets_32 pb_kI_3 ?_
          obtain ⟨r33, hr33, hf⟩ := pb_bind hf
          refine pb_callV (pc := 33) (n0 := 5) (ws' := (wwX1_sumSets cyB cyI cyJ cyZ cyS a_t a_t_seenSet a_t_heldSets a_t_pays a_t_stakes a_p1 a_p1_cells w_p1 m_p1 n_p1 c_t_heldCount c_t_worstBook c_t_worstPast c_t_sureSet c_t_sureWin l16_c_t_pays l16_c_t_stakes c_p1_size c_p1_cells)) (rest := []) (st2 := [.int r33]) C (kcX6_cell l dC dI cyB cyI cyJ cyZ cyS a_p1 a_p1_cells w_p1 m_p1 n_p1 c_p1_size c_p1_cells l16_2 3 r33 hr33) pb_NW_b (pb_NW_x hX) (cwV 2 C.1.2.2.2.2 gX1_sumSets_X6_cell rfl rfl rfl kdV_X6_cell ⟨Nat.le_of_ble_eq_true rfl, Nat.le_of_ble_eq_true rfl⟩) 0 rfl rfl [3, 4] [0, 1, 2] rfl rfl ⟨⟨_, rfl, rfl⟩, ⟨⟨_, rfl, rfl⟩, ⟨⟨_, rfl, rfl⟩, trivial⟩⟩⟩ rfl (by decide +kernel) (adl := [a_p1, a_p1_cells]) rfl rfl rfl rfl rfl (Nat.le_of_ble_eq_true rfl) ⟨Nat.le_refl _, Nat.le_refl _⟩ dX1_sumSets_33 rfl ?_
          refine pb_istore_n (lv' := [(3, .int r33), (0, .ref a_t), (1, .ref a_p1), (2, .int l16_2)]) (pc := 36) C dX1_sumSets_36 rfl (by decide) rfl ?_
          refine pb_iload_n (pc := 37) C dX1_sumSets_37 rfl 0 rfl ?_
          refine pb_aload_n (pc := 38) C dX1_sumSets_38 rfl 2 rfl ?_
          refine pb_iload_n (pc := 39) C dX1_sumSets_39 rfl 3 rfl ?_
          refine pb_iconst (v := 4) (pc := 40) C dX1_sumSets_40 pb_kI_4 ?_
          obtain ⟨r41, hr41, hf⟩ := pb_bind hf
          refine pb_callV (pc := 41) (n0 := 5) (ws' := (wwX1_sumSets cyB cyI cyJ cyZ cyS a_t a_t_seenSet a_t_heldSets a_t_pays a_t_stakes a_p1 a_p1_cells w_p1 m_p1 n_p1 c_t_heldCount c_t_worstBook c_t_worstPast c_t_sureSet c_t_sureWin l16_c_t_pays l16_c_t_stakes c_p1_size c_p1_cells)) (rest := [.int r33]) (st2 := [.int r41, .int r33]) C (kcX6_cell l dC dI cyB cyI cyJ cyZ cyS a_p1 a_p1_cells w_p1 m_p1 n_p1 c_p1_size c_p1_cells l16_2 4 r41 hr41) pb_NW_b (pb_NW_x hX) (cwV 2 C.1.2.2.2.2 gX1_sumSets_X6_cell rfl rfl rfl kdV_X6_cell ⟨Nat.le_of_ble_eq_true rfl, Nat.le_of_ble_eq_true rfl⟩) 0 rfl rfl [3, 4] [0, 1, 2] rfl rfl ⟨⟨_, rfl, rfl⟩, ⟨⟨_, rfl, rfl⟩, ⟨⟨_, rfl, rfl⟩, trivial⟩⟩⟩ rfl (by decide +kernel) (adl := [a_p1, a_p1_cells]) rfl rfl rfl rfl rfl (Nat.le_of_ble_eq_true rfl) ⟨Nat.le_refl _, Nat.le_refl _⟩ dX1_sumSets_41 rfl ?_
          refine pb_imul (pc := 44) C dX1_sumSets_44 ?_
          obtain ⟨x45, ex45, hf⟩ := pb_bind hf
          have ex45 := Option.some.inj ex45
          refine pb_topi ex45 ?_
          refine pb_istore (lv' := [(4, .int x45), (3, .int r33), (0, .ref a_t), (1, .ref a_p1), (2, .int l16_2)]) (pc := 45) C dX1_sumSets_45 (by decide) rfl ?_
          refine pb_iconst (v := 1) (pc := 47) C dX1_sumSets_47 pb_kI_1 ?_
          refine pb_iload_n (pc := 48) C dX1_sumSets_48 rfl 4 rfl ?_
          refine pb_ishl (pc := 49) C dX1_sumSets_49 ?_
          obtain ⟨x50, ex50, hf⟩ := pb_bind hf
          have ex50 := Option.some.inj ex50
          refine pb_topi ex50 ?_
          refine pb_istore (lv' := [(5, .int x50), (4, .int x45), (3, .int r33), (0, .ref a_t), (1, .ref a_p1), (2, .int l16_2)]) (pc := 50) C dX1_sumSets_50 (by decide) rfl ?_
          refine pb_iconst (v := 0) (pc := 52) C dX1_sumSets_52 pb_kI_0 ?_
          refine pb_istore (lv' := [(6, .int 0), (5, .int x50), (4, .int x45), (3, .int r33), (0, .ref a_t), (1, .ref a_p1), (2, .int l16_2)]) (pc := 53) C dX1_sumSets_53 (by decide) rfl ?_
          obtain ⟨z55, hz55, hk55⟩ := pb_bind hf
          have E55 : ∀ (e55_6 : Int32) (e55_c_t_pays : (Nat → Int32)) (e55_c_t_stakes : (Nat → Int32)), fX1_sumSets_E55 l16_2 e55_6 e55_c_t_pays e55_c_t_stakes = some y16 → pb_V p l e rmX1_sumSets s m (([.ref a_t, .ref a_p1] : List Value).toArray) below meth c 7 (dC, dI) vwCl A 0 0 (pb_MQ below (([.ref a_t, .ref a_p1] : List Value).toArray) s (dC, dI) vwCl (wwX1_sumSets cyB cyI cyJ cyZ cyS a_t a_t_seenSet a_t_heldSets a_t_pays a_t_stakes a_p1 a_p1_cells w_p1 m_p1 n_p1 c_t_heldCount c_t_worstBook c_t_worstPast c_t_sureSet c_t_sureWin c_t_pays c_t_stakes c_p1_size c_p1_cells) (wwX1_sumSets cyB cyI cyJ cyZ cyS a_t a_t_seenSet a_t_heldSets a_t_pays a_t_stakes a_p1 a_p1_cells w_p1 m_p1 n_p1 c_t_heldCount c_t_worstBook c_t_worstPast c_t_sureSet c_t_sureWin out.1 out.2 c_p1_size c_p1_cells) none A) (wwX1_sumSets cyB cyI cyJ cyZ cyS a_t a_t_seenSet a_t_heldSets a_t_pays a_t_stakes a_p1 a_p1_cells w_p1 m_p1 n_p1 c_t_heldCount c_t_worstBook c_t_worstPast c_t_sureSet c_t_sureWin e55_c_t_pays e55_c_t_stakes c_p1_size c_p1_cells) [(0, .ref a_t), (1, .ref a_p1), (2, .int l16_2)] [] 107 := by
            intro e55_6 e55_c_t_pays e55_c_t_stakes hf
            unfold fX1_sumSets_E55 at hf
            refine pb_iinc (v := l16_2 + 1) (lv' := [(2, .int (l16_2 + 1)), (0, .ref a_t), (1, .ref a_p1)]) (pc := 107) C dX1_sumSets_107 2 rfl (pb_inc pb_kI_1 rfl) (by decide) rfl ?_
            refine pb_goto (pc := 110) (tgt := 16) C dX1_sumSets_110 (by decide) ?_
            obtain rfl := Option.some.inj hf
            refine pb_sub [1, 2, 0] rfl ?_
            have hl16 := pb_inl hl16
            exact ih16 (l16_2 + 1) e55_c_t_pays e55_c_t_stakes hl16
          have L55 : ∀ (n : Nat) (l55_6 : Int32) (l55_c_t_pays : (Nat → Int32)) (l55_c_t_stakes : (Nat → Int32)), pb_lp (fun y => fX1_sumSets_L55 r33 x45 x50 y.1 y.2.1 y.2.2) n (l55_6, l55_c_t_pays, l55_c_t_stakes) = some z55 → pb_V p l e rmX1_sumSets s m (([.ref a_t, .ref a_p1] : List Value).toArray) below meth c 7 (dC, dI) vwCl A 0 0 (pb_MQ below (([.ref a_t, .ref a_p1] : List Value).toArray) s (dC, dI) vwCl (wwX1_sumSets cyB cyI cyJ cyZ cyS a_t a_t_seenSet a_t_heldSets a_t_pays a_t_stakes a_p1 a_p1_cells w_p1 m_p1 n_p1 c_t_heldCount c_t_worstBook c_t_worstPast c_t_sureSet c_t_sureWin c_t_pays c_t_stakes c_p1_size c_p1_cells) (wwX1_sumSets cyB cyI cyJ cyZ cyS a_t a_t_seenSet a_t_heldSets a_t_pays a_t_stakes a_p1 a_p1_cells w_p1 m_p1 n_p1 c_t_heldCount c_t_worstBook c_t_worstPast c_t_sureSet c_t_sureWin out.1 out.2 c_p1_size c_p1_cells) none A) (wwX1_sumSets cyB cyI cyJ cyZ cyS a_t a_t_seenSet a_t_heldSets a_t_pays a_t_stakes a_p1 a_p1_cells w_p1 m_p1 n_p1 c_t_heldCount c_t_worstBook c_t_worstPast c_t_sureSet c_t_sureWin l55_c_t_pays l55_c_t_stakes c_p1_size c_p1_cells) [(0, .ref a_t), (1, .ref a_p1), (2, .int l16_2), (3, .int r33), (4, .int x45), (5, .int x50), (6, .int l55_6)] [] 55 := by
            intro n
            induction n with
            | zero => intro l55_6 l55_c_t_pays l55_c_t_stakes hf; exact (pb_lp_zero hf).elim
            | succ n ih55 =>
              intro l55_6 l55_c_t_pays l55_c_t_stakes hf
              obtain ⟨y55, hf, hl55⟩ := pb_lp_succ hf
              have hf : fX1_sumSets_L55 r33 x45 x50 l55_6 l55_c_t_pays l55_c_t_stakes = some y55 := hf
              unfold fX1_sumSets_L55 at hf
              refine pb_iload (pc := 55) C dX1_sumSets_55 6 rfl ?_
              refine pb_iload (pc := 57) C dX1_sumSets_57 5 rfl ?_
              refine pb_icmp_ge (pc := 59) (tgt := 107) C dX1_sumSets_59 (by decide) (fun hc59 => ?_) (fun hc59 => ?_)
              · have hf := pb_pos hf hc59
                obtain rfl := Option.some.inj hf
                obtain rfl := pb_esc hl55
                refine pb_sub [0, 1, 2] rfl ?_
                exact E55 l55_6 l55_c_t_pays l55_c_t_stakes hk55
              · have hf := pb_neg hf hc59
                refine pb_aload_n (pc := 62) C dX1_sumSets_62 rfl 0 rfl ?_
                refine pb_get (pc := 63) C hnX1_sumSets_X1 0 rfl rfl 2 (by decide) (List.mem_of_getElem? (i := 1) rfl) rfl rfl dX1_sumSets_63 ?_
                refine pb_iload (pc := 66) C dX1_sumSets_66 6 rfl ?_
                refine pb_iload (pc := 68) C dX1_sumSets_68 5 rfl ?_
                refine pb_iadd (pc := 70) C dX1_sumSets_70 ?_
                refine pb_aload_n (pc := 71) C dX1_sumSets_71 rfl 0 rfl ?_
                refine pb_get (pc := 72) C hnX1_sumSets_X1 0 rfl rfl 2 (by decide) (List.mem_of_getElem? (i := 1) rfl) rfl rfl dX1_sumSets_72 ?_
                refine pb_iload (pc := 75) C dX1_sumSets_75 6 rfl ?_
                obtain ⟨g77, hf⟩ := pb_grd hf
                refine pb_iald (pc := 77) C 1 1 rfl rfl g77 dX1_sumSets_77 ?_
                refine pb_iload (pc := 78) C dX1_sumSets_78 4 rfl ?_
                refine pb_iadd (pc := 80) C dX1_sumSets_80 ?_
                obtain ⟨g81, hf⟩ := pb_grd hf
                obtain ⟨u81, eu81, hf⟩ := pb_bind hf
                have eu81 := Option.some.inj eu81
                refine pb_iast (pc := 81) (ws' := (wwX1_sumSets cyB cyI cyJ cyZ cyS a_t a_t_seenSet a_t_heldSets a_t_pays a_t_stakes a_p1 a_p1_cells w_p1 m_p1 n_p1 c_t_heldCount c_t_worstBook c_t_worstPast c_t_sureSet c_t_sureWin u81 l55_c_t_stakes c_p1_size c_p1_cells)) C 1 1 rfl rfl g81 eu81 rfl dX1_sumSets_81 ?_
                refine pb_aload_n (pc := 82) C dX1_sumSets_82 rfl 0 rfl ?_
                refine pb_get (pc := 83) C hnX1_sumSets_X1 0 rfl rfl 3 (by decide) (List.mem_of_getElem? (i := 2) rfl) rfl rfl dX1_sumSets_83 ?_
                refine pb_iload (pc := 86) C dX1_sumSets_86 6 rfl ?_
                refine pb_iload (pc := 88) C dX1_sumSets_88 5 rfl ?_
                refine pb_iadd (pc := 90) C dX1_sumSets_90 ?_
                refine pb_aload_n (pc := 91) C dX1_sumSets_91 rfl 0 rfl ?_
                refine pb_get (pc := 92) C hnX1_sumSets_X1 0 rfl rfl 3 (by decide) (List.mem_of_getElem? (i := 2) rfl) rfl rfl dX1_sumSets_92 ?_
                refine pb_iload (pc := 95) C dX1_sumSets_95 6 rfl ?_
                obtain ⟨g97, hf⟩ := pb_grd hf
                refine pb_iald (pc := 97) C 2 1 rfl rfl g97 dX1_sumSets_97 ?_
                refine pb_iload_n (pc := 98) C dX1_sumSets_98 rfl 3 rfl ?_
                refine pb_iadd (pc := 99) C dX1_sumSets_99 ?_
                obtain ⟨g100, hf⟩ := pb_grd hf
                obtain ⟨u100, eu100, hf⟩ := pb_bind hf
                have eu100 := Option.some.inj eu100
                refine pb_iast (pc := 100) (ws' := (wwX1_sumSets cyB cyI cyJ cyZ cyS a_t a_t_seenSet a_t_heldSets a_t_pays a_t_stakes a_p1 a_p1_cells w_p1 m_p1 n_p1 c_t_heldCount c_t_worstBook c_t_worstPast c_t_sureSet c_t_sureWin u81 u100 c_p1_size c_p1_cells)) C 2 1 rfl rfl g100 eu100 rfl dX1_sumSets_100 ?_
                refine pb_iinc (v := l55_6 + 1) (lv' := [(6, .int (l55_6 + 1)), (0, .ref a_t), (1, .ref a_p1), (2, .int l16_2), (3, .int r33), (4, .int x45), (5, .int x50)]) (pc := 101) C dX1_sumSets_101 6 rfl (pb_inc pb_kI_1 rfl) (by decide) rfl ?_
                refine pb_goto (pc := 104) (tgt := 55) C dX1_sumSets_104 (by decide) ?_
                obtain rfl := Option.some.inj hf
                refine pb_sub [1, 2, 3, 4, 5, 6, 0] rfl ?_
                have hl55 := pb_inl hl55
                exact ih55 (l55_6 + 1) u81 u100 hl55
          refine pb_sub [4, 5, 6, 3, 2, 1, 0] rfl ?_
          exact L55 pb_FU 0 l16_c_t_pays l16_c_t_stakes hz55
  refine pb_sub [1, 2, 0] rfl ?_
  exact L16 pb_FU 0 u6 u13 hz16
def rmX1_leastWin : Room := { frames := 1, cells := 0, slots := 0, locals := 60 }
def wwX1_leastWin (cyB cyI cyJ cyZ cyS : ClassId) (a_t a_t_seenSet a_t_heldSets a_t_pays a_t_stakes : Nat) (c_t_heldCount : Int32) (c_t_worstBook : Int32) (c_t_worstPast : Int32) (c_t_sureSet : Int32) (c_t_sureWin : Int32) (c_t_heldSets : (Nat → Int32)) (c_t_pays : (Nat → Int32)) (c_t_stakes : (Nat → Int32)) : va_W := [(a_t, .inr (1, [.ref a_t_seenSet, .ref a_t_heldSets, .ref a_t_pays, .ref a_t_stakes, .int c_t_heldCount, .int c_t_worstBook, .int c_t_worstPast, .int c_t_sureSet, .int c_t_sureWin])), (a_t_heldSets, .inl (cyI, 128, .inl c_t_heldSets)), (a_t_pays, .inl (cyI, 256, .inl c_t_pays)), (a_t_stakes, .inl (cyI, 256, .inl c_t_stakes))]
theorem hnX1_leastWin_X1 : ∀ w ∈ wsX10, w ∈ wsX1_leastWin := fun _ h => List.mem_cons_of_mem _ (List.mem_append_right _ h)
set_option maxHeartbeats 4000000 in
set_option maxRecDepth 100000 in
theorem kcX1_leastWin (l : Launch) (dC : Nat → ClassId) (dI : Nat → Nat → Nat) (cyB cyI cyJ cyZ cyS : ClassId) (a_t a_t_seenSet a_t_heldSets a_t_pays a_t_stakes : Nat) (c_t_heldCount : Int32) (c_t_worstBook : Int32) (c_t_worstPast : Int32) (c_t_sureSet : Int32) (c_t_sureWin : Int32) (c_t_heldSets : (Nat → Int32)) (c_t_pays : (Nat → Int32)) (c_t_stakes : (Nat → Int32)) (p1 : Int32) (p2 : Int32) (out : Int32) (hf : fX1_leastWin c_t_heldCount c_t_heldSets c_t_pays c_t_stakes p1 p2 = some out) : pb_K l yX1_leastWin wsX1_leastWin rmX1_leastWin (dC, dI) vwCl (pb_tys cyB cyI cyJ cyZ cyS) pb_NW [.ref a_t, .int p1, .int p2] (wwX1_leastWin cyB cyI cyJ cyZ cyS a_t a_t_seenSet a_t_heldSets a_t_pays a_t_stakes c_t_heldCount c_t_worstBook c_t_worstPast c_t_sureSet c_t_sureWin c_t_heldSets c_t_pays c_t_stakes) (wwX1_leastWin cyB cyI cyJ cyZ cyS a_t a_t_seenSet a_t_heldSets a_t_pays a_t_stakes c_t_heldCount c_t_worstBook c_t_worstPast c_t_sureSet c_t_sureWin c_t_heldSets c_t_pays c_t_stakes) (some (.int out)) := by
  unfold fX1_leastWin at hf
  refine pb_K.ofV (cc := cX1_leastWin) (maxL := 7) (ret := (some .int)) (lv0 := [(0, .ref a_t), (1, .int p1), (2, .int p2)]) (by decide) rfl (Nat.le_of_ble_eq_true rfl) rfl ?_
  intro p e s m below meth c A C hX hr hlk hA
  refine pb_ldc (v := 78409) (pc := 0) C dX1_leastWin_0 (List.mem_of_getElem? (i := 1) rfl) ?_
  refine pb_istore_n (lv' := [(3, .int 78409), (0, .ref a_t), (1, .int p1), (2, .int p2)]) (pc := 2) C dX1_leastWin_2 rfl (by decide) rfl ?_
  refine pb_iconst (v := 0) (pc := 3) C dX1_leastWin_3 pb_kI_0 ?_
  refine pb_istore (lv' := [(4, .int 0), (3, .int 78409), (0, .ref a_t), (1, .int p1), (2, .int p2)]) (pc := 4) C dX1_leastWin_4 (by decide) rfl ?_
  obtain ⟨z6, hz6, hk6⟩ := pb_bind hf
  have E6 : ∀ (e6_3 : Int32) (e6_4 : Int32), fX1_leastWin_E6 e6_3 e6_4 = some out → pb_V p l e rmX1_leastWin s m (([.ref a_t, .int p1, .int p2] : List Value).toArray) below meth c 7 (dC, dI) vwCl A 0 0 (pb_MQ below (([.ref a_t, .int p1, .int p2] : List Value).toArray) s (dC, dI) vwCl (wwX1_leastWin cyB cyI cyJ cyZ cyS a_t a_t_seenSet a_t_heldSets a_t_pays a_t_stakes c_t_heldCount c_t_worstBook c_t_worstPast c_t_sureSet c_t_sureWin c_t_heldSets c_t_pays c_t_stakes) (wwX1_leastWin cyB cyI cyJ cyZ cyS a_t a_t_seenSet a_t_heldSets a_t_pays a_t_stakes c_t_heldCount c_t_worstBook c_t_worstPast c_t_sureSet c_t_sureWin c_t_heldSets c_t_pays c_t_stakes) (some (.int out)) A) (wwX1_leastWin cyB cyI cyJ cyZ cyS a_t a_t_seenSet a_t_heldSets a_t_pays a_t_stakes c_t_heldCount c_t_worstBook c_t_worstPast c_t_sureSet c_t_sureWin c_t_heldSets c_t_pays c_t_stakes) [(3, .int e6_3)] [] 66 := by
    intro e6_3 e6_4 hf
    unfold fX1_leastWin_E6 at hf
    refine pb_iload_n (pc := 66) C dX1_leastWin_66 rfl 0 rfl ?_
    obtain rfl := Option.some.inj hf
    exact pb_iret (pc := 67) C hr hlk hA dX1_leastWin_67
  have L6 : ∀ (n : Nat) (l6_3 : Int32) (l6_4 : Int32), pb_lp (fun y => fX1_leastWin_L6 c_t_heldCount c_t_heldSets c_t_pays c_t_stakes p1 p2 y.1 y.2) n (l6_3, l6_4) = some z6 → pb_V p l e rmX1_leastWin s m (([.ref a_t, .int p1, .int p2] : List Value).toArray) below meth c 7 (dC, dI) vwCl A 0 0 (pb_MQ below (([.ref a_t, .int p1, .int p2] : List Value).toArray) s (dC, dI) vwCl (wwX1_leastWin cyB cyI cyJ cyZ cyS a_t a_t_seenSet a_t_heldSets a_t_pays a_t_stakes c_t_heldCount c_t_worstBook c_t_worstPast c_t_sureSet c_t_sureWin c_t_heldSets c_t_pays c_t_stakes) (wwX1_leastWin cyB cyI cyJ cyZ cyS a_t a_t_seenSet a_t_heldSets a_t_pays a_t_stakes c_t_heldCount c_t_worstBook c_t_worstPast c_t_sureSet c_t_sureWin c_t_heldSets c_t_pays c_t_stakes) (some (.int out)) A) (wwX1_leastWin cyB cyI cyJ cyZ cyS a_t a_t_seenSet a_t_heldSets a_t_pays a_t_stakes c_t_heldCount c_t_worstBook c_t_worstPast c_t_sureSet c_t_sureWin c_t_heldSets c_t_pays c_t_stakes) [(0, .ref a_t), (1, .int p1), (2, .int p2), (3, .int l6_3), (4, .int l6_4)] [] 6 := by
    intro n
    induction n with
    | zero => intro l6_3 l6_4 hf; exact (pb_lp_zero hf).elim
    | succ n ih6 =>
      intro l6_3 l6_4 hf
      obtain ⟨y6, hf, hl6⟩ := pb_lp_succ hf
      have hf : fX1_leastWin_L6 c_t_heldCount c_t_heldSets c_t_pays c_t_stakes p1 p2 l6_3 l6_4 = some y6 := hf
      unfold fX1_leastWin_L6 at hf
      refine pb_iload (pc := 6) C dX1_leastWin_6 4 rfl ?_
      refine pb_aload_n (pc := 8) C dX1_leastWin_8 rfl 0 rfl ?_
      refine pb_get (pc := 9) C hnX1_leastWin_X1 0 rfl rfl 4 (by decide) (List.mem_of_getElem? (i := 2) rfl) rfl rfl dX1_leastWin_9 ?_
      refine pb_icmp_ge (pc := 12) (tgt := 66) C dX1_leastWin_12 (by decide) (fun hc12 => ?_) (fun hc12 => ?_)
      · have hf := pb_pos hf hc12
        obtain rfl := Option.some.inj hf
        obtain rfl := pb_esc hl6
        refine pb_sub [3] rfl ?_
        have hk6 := pb_inl hk6
        exact E6 l6_3 l6_4 hk6
      · have hf := pb_neg hf hc12
        refine pb_aload_n (pc := 15) C dX1_leastWin_15 rfl 0 rfl ?_
        refine pb_get (pc := 16) C hnX1_leastWin_X1 0 rfl rfl 1 (by decide) (List.mem_of_getElem? (i := 3) rfl) rfl rfl dX1_leastWin_16 ?_
        refine pb_iload (pc := 19) C dX1_leastWin_19 4 rfl ?_
        obtain ⟨g21, hf⟩ := pb_grd hf
        refine pb_iald (pc := 21) C 1 1 rfl rfl g21 dX1_leastWin_21 ?_
        refine pb_iload_n (pc := 22) C dX1_leastWin_22 rfl 1 rfl ?_
        refine pb_iand (pc := 23) C dX1_leastWin_23 ?_
        obtain ⟨x24, ex24, hf⟩ := pb_bind hf
        have ex24 := Option.some.inj ex24
        refine pb_topi ex24 ?_
        refine pb_istore (lv' := [(5, .int x24), (0, .ref a_t), (1, .int p1), (2, .int p2), (3, .int l6_3), (4, .int l6_4)]) (pc := 24) C dX1_leastWin_24 (by decide) rfl ?_
        refine pb_aload_n (pc := 26) C dX1_leastWin_26 rfl 1 rfl ?_
        refine pb_get (pc := 27) C hnX1_leastWin_X1 0 rfl rfl 2 (by decide) (List.mem_of_getElem? (i := 4) rfl) rfl rfl dX1_leastWin_27 ?_
        refine pb_iload (pc := 30) C dX1_leastWin_30 0 rfl ?_
        obtain ⟨g32, hf⟩ := pb_grd hf
        refine pb_iald (pc := 32) C 2 1 rfl rfl g32 dX1_leastWin_32 ?_
        refine pb_aload_n (pc := 33) C dX1_leastWin_33 rfl 1 rfl ?_
        refine pb_get (pc := 34) C hnX1_leastWin_X1 0 rfl rfl 3 (by decide) (List.mem_of_getElem? (i := 5) rfl) rfl rfl dX1_leastWin_34 ?_
        refine pb_iload_n (pc := 37) C dX1_leastWin_37 rfl 2 rfl ?_
        refine pb_iload (pc := 38) C dX1_leastWin_38 0 rfl ?_
        refine pb_isub (pc := 40) C dX1_leastWin_40 ?_
        obtain ⟨g41, hf⟩ := pb_grd hf
        refine pb_iald (pc := 41) C 3 1 rfl rfl g41 dX1_leastWin_41 ?_
        refine pb_isub (pc := 42) C dX1_leastWin_42 ?_
        obtain ⟨x43, ex43, hf⟩ := pb_bind hf
        have ex43 := Option.some.inj ex43
        refine pb_topi ex43 ?_
        refine pb_istore (lv' := [(6, .int x43), (5, .int x24), (0, .ref a_t), (1, .int p1), (2, .int p2), (3, .int l6_3), (4, .int l6_4)]) (pc := 43) C dX1_leastWin_43 (by decide) rfl ?_
        refine pb_iload (pc := 45) C dX1_leastWin_45 0 rfl ?_
        refine pb_iload_n (pc := 47) C dX1_leastWin_47 rfl 4 rfl ?_
        refine pb_icmp_ge (pc := 48) (tgt := 53) C dX1_leastWin_48 (by decide) (fun hc48 => ?_) (fun hc48 => ?_)
        · have hf := pb_pos hf hc48
          refine pb_iload_n (pc := 53) C dX1_leastWin_53 rfl 5 rfl ?_
          refine pb_iload (pc := 54) C dX1_leastWin_54 0 rfl ?_
          refine pb_mmin (pc := 56) C (List.mem_of_getElem? (i := 6) rfl) (List.mem_of_getElem? (i := 7) rfl) (List.mem_of_getElem? (i := 8) rfl) (List.mem_of_getElem? (i := 9) rfl) (Nat.le_of_ble_eq_true rfl) (Nat.le_of_ble_eq_true rfl) (Nat.le_refl _) (Nat.le_refl _) dX1_leastWin_56 ?_
          obtain ⟨x56, ex56, hf⟩ := pb_bind hf
          have ex56 := Option.some.inj ex56
          refine pb_topi ex56 ?_
          refine pb_istore_n (lv' := [(3, .int x56), (6, .int x43), (5, .int x24), (0, .ref a_t), (1, .int p1), (2, .int p2), (4, .int l6_4)]) (pc := 59) C dX1_leastWin_59 rfl (by decide) rfl ?_
          refine pb_iinc (v := l6_4 + 1) (lv' := [(4, .int (l6_4 + 1)), (3, .int x56), (6, .int x43), (5, .int x24), (0, .ref a_t), (1, .int p1), (2, .int p2)]) (pc := 60) C dX1_leastWin_60 6 rfl (pb_inc pb_kI_1 rfl) (by decide) rfl ?_
          refine pb_goto (pc := 63) (tgt := 6) C dX1_leastWin_63 (by decide) ?_
          obtain rfl := Option.some.inj hf
          refine pb_sub [4, 5, 6, 1, 0] rfl ?_
          have hl6 := pb_inl hl6
          exact ih6 x56 (l6_4 + 1) hl6
        · have hf := pb_neg hf hc48
          refine pb_iconst (v := 0) (pc := 51) C dX1_leastWin_51 pb_kI_0 ?_
          obtain rfl := Option.some.inj hf
          obtain rfl := pb_esc hl6
          obtain rfl := pb_esc hk6
          exact pb_iret (pc := 52) C hr hlk hA dX1_leastWin_52
  refine pb_sub [2, 3, 4, 1, 0] rfl ?_
  exact L6 pb_FU 78409 0 hz6
def rmX1_seekSure : Room := { frames := 5, cells := 0, slots := 0, locals := 115 }
def wwX1_seekSure (cyB cyI cyJ cyZ cyS : ClassId) (a_t a_t_seenSet a_t_heldSets a_t_pays a_t_stakes a_p1 a_p1_cells a_p2 a_p2_open a_p2_weight : Nat) (w_p1 : Int32) (m_p1 : Int32) (n_p1 : Nat) (c_t_heldCount : Int32) (c_t_worstBook : Int32) (c_t_worstPast : Int32) (c_t_sureSet : Int32) (c_t_sureWin : Int32) (c_t_seenSet : (Nat → Int32)) (c_t_heldSets : (Nat → Int32)) (c_t_pays : (Nat → Int32)) (c_t_stakes : (Nat → Int32)) (c_p1_size : Int32) (c_p1_cells : (Nat → Int32)) (c_p2_total : Int64) (c_p2_stale : Int32) (c_p2_weight : (Nat → Int64)) : va_W := [(a_t, .inr (1, [.ref a_t_seenSet, .ref a_t_heldSets, .ref a_t_pays, .ref a_t_stakes, .int c_t_heldCount, .int c_t_worstBook, .int c_t_worstPast, .int c_t_sureSet, .int c_t_sureWin])), (a_t_seenSet, .inl (cyZ, 256, .inl c_t_seenSet)), (a_t_heldSets, .inl (cyI, 128, .inl c_t_heldSets)), (a_t_pays, .inl (cyI, 256, .inl c_t_pays)), (a_t_stakes, .inl (cyI, 256, .inl c_t_stakes)), (a_p1, .inr (6, [.int w_p1, .int m_p1, .ref a_p1_cells, .int c_p1_size])), (a_p1_cells, .inl (cyI, n_p1, .inl c_p1_cells)), (a_p2, .inr (2, [.ref a_p2_open, .ref a_p2_weight, .long c_p2_total, .int c_p2_stale])), (a_p2_weight, .inl (cyJ, 128, .inr (.inl c_p2_weight)))]
theorem hnX1_seekSure_X1 : ∀ w ∈ wsX10, w ∈ wsX1_seekSure := fun _ h => List.mem_cons_of_mem _ (List.mem_append_left _ (List.mem_append_left _ (List.mem_append_right _ h)))
theorem hnX1_seekSure_X6 : ∀ w ∈ wsX60, w ∈ wsX1_seekSure := fun _ h => List.mem_cons_of_mem _ (List.mem_append_left _ (List.mem_append_right _ h))
set_option maxHeartbeats 4000000 in
set_option maxRecDepth 100000 in
theorem kcX1_seekSure (l : Launch) (dC : Nat → ClassId) (dI : Nat → Nat → Nat) (cyB cyI cyJ cyZ cyS : ClassId) (a_t a_t_seenSet a_t_heldSets a_t_pays a_t_stakes a_p1 a_p1_cells a_p2 a_p2_open a_p2_weight : Nat) (w_p1 : Int32) (m_p1 : Int32) (n_p1 : Nat) (c_t_heldCount : Int32) (c_t_worstBook : Int32) (c_t_worstPast : Int32) (c_t_sureSet : Int32) (c_t_sureWin : Int32) (c_t_seenSet : (Nat → Int32)) (c_t_heldSets : (Nat → Int32)) (c_t_pays : (Nat → Int32)) (c_t_stakes : (Nat → Int32)) (c_p1_size : Int32) (c_p1_cells : (Nat → Int32)) (c_p2_total : Int64) (c_p2_stale : Int32) (c_p2_weight : (Nat → Int64)) (out : (Int32 × Int32 × Int32 × (Nat → Int32) × (Nat → Int32) × (Nat → Int32) × (Nat → Int32))) (hf : fX1_seekSure w_p1 m_p1 n_p1 c_t_heldCount c_t_sureSet c_t_sureWin c_t_seenSet c_t_heldSets c_t_pays c_t_stakes c_p1_size c_p1_cells c_p2_weight = some out) : pb_K l yX1_seekSure wsX1_seekSure rmX1_seekSure (dC, dI) vwCl (pb_tys cyB cyI cyJ cyZ cyS) pb_NW [.ref a_t, .ref a_p1, .ref a_p2] (wwX1_seekSure cyB cyI cyJ cyZ cyS a_t a_t_seenSet a_t_heldSets a_t_pays a_t_stakes a_p1 a_p1_cells a_p2 a_p2_open a_p2_weight w_p1 m_p1 n_p1 c_t_heldCount c_t_worstBook c_t_worstPast c_t_sureSet c_t_sureWin c_t_seenSet c_t_heldSets c_t_pays c_t_stakes c_p1_size c_p1_cells c_p2_total c_p2_stale c_p2_weight) (wwX1_seekSure cyB cyI cyJ cyZ cyS a_t a_t_seenSet a_t_heldSets a_t_pays a_t_stakes a_p1 a_p1_cells a_p2 a_p2_open a_p2_weight w_p1 m_p1 n_p1 out.1 c_t_worstBook c_t_worstPast out.2.1 out.2.2.1 out.2.2.2.1 out.2.2.2.2.1 out.2.2.2.2.2.1 out.2.2.2.2.2.2 c_p1_size c_p1_cells c_p2_total c_p2_stale c_p2_weight) none := by
  unfold fX1_seekSure at hf
  refine pb_K.ofV (cc := cX1_seekSure) (maxL := 7) (ret := none) (lv0 := [(0, .ref a_t), (1, .ref a_p1), (2, .ref a_p2)]) (by decide) rfl (Nat.le_of_ble_eq_true rfl) rfl ?_
  intro p e s m below meth c A C hX hr hlk hA
  refine pb_aload_n (pc := 0) C dX1_seekSure_0 rfl 0 rfl ?_
  refine pb_iconst (v := 0) (pc := 1) C dX1_seekSure_1 pb_kI_0 ?_
  refine pb_put (pc := 2) (ws' := (wwX1_seekSure cyB cyI cyJ cyZ cyS a_t a_t_seenSet a_t_heldSets a_t_pays a_t_stakes a_p1 a_p1_cells a_p2 a_p2_open a_p2_weight w_p1 m_p1 n_p1 c_t_heldCount c_t_worstBook c_t_worstPast 0 c_t_sureWin c_t_seenSet c_t_heldSets c_t_pays c_t_stakes c_p1_size c_p1_cells c_p2_total c_p2_stale c_p2_weight)) C hnX1_seekSure_X1 tyX1 tyX1_ok nmX1 0 rfl rfl 7 (by decide) (List.mem_of_getElem? (i := 1) rfl) rfl rfl rfl rfl (Nat.le_of_ble_eq_true rfl) rfl dX1_seekSure_2 ?_
  refine pb_aload_n (pc := 5) C dX1_seekSure_5 rfl 0 rfl ?_
  refine pb_iconst (v := 0) (pc := 6) C dX1_seekSure_6 pb_kI_0 ?_
  refine pb_put (pc := 7) (ws' := (wwX1_seekSure cyB cyI cyJ cyZ cyS a_t a_t_seenSet a_t_heldSets a_t_pays a_t_stakes a_p1 a_p1_cells a_p2 a_p2_open a_p2_weight w_p1 m_p1 n_p1 c_t_heldCount c_t_worstBook c_t_worstPast 0 0 c_t_seenSet c_t_heldSets c_t_pays c_t_stakes c_p1_size c_p1_cells c_p2_total c_p2_stale c_p2_weight)) C hnX1_seekSure_X1 tyX1 tyX1_ok nmX1 0 rfl rfl 8 (by decide) (List.mem_of_getElem? (i := 2) rfl) rfl rfl rfl rfl (Nat.le_of_ble_eq_true rfl) rfl dX1_seekSure_7 ?_
  refine pb_aload_n (pc := 10) C dX1_seekSure_10 rfl 0 rfl ?_
  refine pb_aload_n (pc := 11) C dX1_seekSure_11 rfl 1 rfl ?_
  refine pb_aload_n (pc := 12) C dX1_seekSure_12 rfl 2 rfl ?_
  obtain ⟨r13, hr13, hf⟩ := pb_bind hf
  refine pb_callV (pc := 13) (n0 := 9) (ws' := (wwX1_seekSure cyB cyI cyJ cyZ cyS a_t a_t_seenSet a_t_heldSets a_t_pays a_t_stakes a_p1 a_p1_cells a_p2 a_p2_open a_p2_weight w_p1 m_p1 n_p1 r13.1 c_t_worstBook c_t_worstPast 0 0 r13.2.1 r13.2.2 c_t_pays c_t_stakes c_p1_size c_p1_cells c_p2_total c_p2_stale c_p2_weight)) (rest := []) (st2 := []) C (kcX1_listHeldSets l dC dI cyB cyI cyJ cyZ cyS a_t a_t_seenSet a_t_heldSets a_t_pays a_t_stakes a_p1 a_p1_cells a_p2 a_p2_open a_p2_weight w_p1 m_p1 n_p1 c_t_heldCount c_t_worstBook c_t_worstPast 0 0 c_t_seenSet c_t_heldSets c_p1_size c_p1_cells c_p2_total c_p2_stale c_p2_weight r13 hr13) pb_NW_b (pb_NW_x hX) (cwV 2 C.1.2.2.2.2 gX1_seekSure_X1_listHeldSets rfl rfl rfl kdV_X1_listHeldSets ⟨Nat.le_of_ble_eq_true rfl, Nat.le_of_ble_eq_true rfl⟩) 0 rfl rfl [0, 1, 2, 5, 6, 7, 8] [3, 4] rfl rfl ⟨⟨_, rfl, rfl⟩, ⟨⟨_, rfl, rfl⟩, trivial⟩⟩ rfl (by decide +kernel) (adl := [a_t, a_t_seenSet, a_t_heldSets, a_p1, a_p1_cells, a_p2, a_p2_weight]) rfl rfl rfl rfl rfl (Nat.le_of_ble_eq_true rfl) ⟨Nat.le_refl _, Nat.le_refl _⟩ dX1_seekSure_13 rfl ?_
  refine pb_aload_n (pc := 16) C dX1_seekSure_16 rfl 0 rfl ?_
  refine pb_get (pc := 17) C hnX1_seekSure_X1 0 rfl rfl 4 (by decide) (List.mem_of_getElem? (i := 3) rfl) rfl rfl dX1_seekSure_17 ?_
  refine pb_if_ne (pc := 20) (tgt := 24) C dX1_seekSure_20 (by decide) (fun hc20 => ?_) (fun hc20 => ?_)
  · have hf := pb_neg hf hc20
    refine pb_aload_n (pc := 24) C dX1_seekSure_24 rfl 0 rfl ?_
    refine pb_aload_n (pc := 25) C dX1_seekSure_25 rfl 1 rfl ?_
    obtain ⟨r26, hr26, hf⟩ := pb_bind hf
    refine pb_callV (pc := 26) (n0 := 9) (ws' := (wwX1_seekSure cyB cyI cyJ cyZ cyS a_t a_t_seenSet a_t_heldSets a_t_pays a_t_stakes a_p1 a_p1_cells a_p2 a_p2_open a_p2_weight w_p1 m_p1 n_p1 r13.1 c_t_worstBook c_t_worstPast 0 0 r13.2.1 r13.2.2 r26.1 r26.2 c_p1_size c_p1_cells c_p2_total c_p2_stale c_p2_weight)) (rest := []) (st2 := []) C (kcX1_sumSets l dC dI cyB cyI cyJ cyZ cyS a_t a_t_seenSet a_t_heldSets a_t_pays a_t_stakes a_p1 a_p1_cells w_p1 m_p1 n_p1 r13.1 c_t_worstBook c_t_worstPast 0 0 c_t_pays c_t_stakes c_p1_size c_p1_cells r26 hr26) pb_NW_b (pb_NW_x hX) (cwV 1 C.1.2.2.2.2 gX1_seekSure_X1_sumSets rfl rfl rfl kdV_X1_sumSets ⟨Nat.le_of_ble_eq_true rfl, Nat.le_of_ble_eq_true rfl⟩) 0 rfl rfl [0, 3, 4, 5, 6] [1, 2, 7, 8] rfl rfl ⟨⟨_, rfl, rfl⟩, ⟨⟨_, rfl, rfl⟩, ⟨⟨_, rfl, rfl⟩, ⟨⟨_, rfl, rfl⟩, trivial⟩⟩⟩⟩ rfl (by decide +kernel) (adl := [a_t, a_t_pays, a_t_stakes, a_p1, a_p1_cells]) rfl rfl rfl rfl rfl (Nat.le_of_ble_eq_true rfl) ⟨Nat.le_refl _, Nat.le_refl _⟩ dX1_seekSure_26 rfl ?_
    refine pb_sipush (v := 256) (pc := 29) C dX1_seekSure_29 pb_kS_256 ?_
    refine pb_iconst (v := 1) (pc := 32) C dX1_seekSure_32 pb_kI_1 ?_
    refine pb_aload_n (pc := 33) C dX1_seekSure_33 rfl 1 rfl ?_
    refine pb_get (pc := 34) C hnX1_seekSure_X6 5 rfl rfl 3 (by decide) (List.mem_of_getElem? (i := 4) rfl) rfl rfl dX1_seekSure_34 ?_
    refine pb_ishl (pc := 37) C dX1_seekSure_37 ?_
    refine pb_mmin (pc := 38) C (List.mem_of_getElem? (i := 5) rfl) (List.mem_of_getElem? (i := 6) rfl) (List.mem_of_getElem? (i := 7) rfl) (List.mem_of_getElem? (i := 8) rfl) (Nat.le_of_ble_eq_true rfl) (Nat.le_of_ble_eq_true rfl) (Nat.le_refl _) (Nat.le_refl _) dX1_seekSure_38 ?_
    obtain ⟨x38, ex38, hf⟩ := pb_bind hf
    have ex38 := Option.some.inj ex38
    refine pb_topi ex38 ?_
    refine pb_istore_n (lv' := [(3, .int x38), (0, .ref a_t), (1, .ref a_p1), (2, .ref a_p2)]) (pc := 41) C dX1_seekSure_41 rfl (by decide) rfl ?_
    refine pb_iconst (v := 1) (pc := 42) C dX1_seekSure_42 pb_kI_1 ?_
    refine pb_istore (lv' := [(4, .int 1), (3, .int x38), (0, .ref a_t), (1, .ref a_p1), (2, .ref a_p2)]) (pc := 43) C dX1_seekSure_43 (by decide) rfl ?_
    obtain ⟨z45, hz45, hk45⟩ := pb_bind hf
    have E45 : ∀ (e45_4 : Int32) (e45_c_t_sureSet : Int32) (e45_c_t_sureWin : Int32), fX1_seekSure_E45 r13 r26 e45_4 e45_c_t_sureSet e45_c_t_sureWin = some out → pb_V p l e rmX1_seekSure s m (([.ref a_t, .ref a_p1, .ref a_p2] : List Value).toArray) below meth c 7 (dC, dI) vwCl A 0 0 (pb_MQ below (([.ref a_t, .ref a_p1, .ref a_p2] : List Value).toArray) s (dC, dI) vwCl (wwX1_seekSure cyB cyI cyJ cyZ cyS a_t a_t_seenSet a_t_heldSets a_t_pays a_t_stakes a_p1 a_p1_cells a_p2 a_p2_open a_p2_weight w_p1 m_p1 n_p1 c_t_heldCount c_t_worstBook c_t_worstPast c_t_sureSet c_t_sureWin c_t_seenSet c_t_heldSets c_t_pays c_t_stakes c_p1_size c_p1_cells c_p2_total c_p2_stale c_p2_weight) (wwX1_seekSure cyB cyI cyJ cyZ cyS a_t a_t_seenSet a_t_heldSets a_t_pays a_t_stakes a_p1 a_p1_cells a_p2 a_p2_open a_p2_weight w_p1 m_p1 n_p1 out.1 c_t_worstBook c_t_worstPast out.2.1 out.2.2.1 out.2.2.2.1 out.2.2.2.2.1 out.2.2.2.2.2.1 out.2.2.2.2.2.2 c_p1_size c_p1_cells c_p2_total c_p2_stale c_p2_weight) none A) (wwX1_seekSure cyB cyI cyJ cyZ cyS a_t a_t_seenSet a_t_heldSets a_t_pays a_t_stakes a_p1 a_p1_cells a_p2 a_p2_open a_p2_weight w_p1 m_p1 n_p1 r13.1 c_t_worstBook c_t_worstPast e45_c_t_sureSet e45_c_t_sureWin r13.2.1 r13.2.2 r26.1 r26.2 c_p1_size c_p1_cells c_p2_total c_p2_stale c_p2_weight) [] [] 130 := by
      intro e45_4 e45_c_t_sureSet e45_c_t_sureWin hf
      unfold fX1_seekSure_E45 at hf
      obtain rfl := Option.some.inj hf
      exact pb_vret (pc := 130) C hr hlk hA dX1_seekSure_130
    have L45 : ∀ (n : Nat) (l45_4 : Int32) (l45_c_t_sureSet : Int32) (l45_c_t_sureWin : Int32), pb_lp (fun y => fX1_seekSure_L45 r13 r26 x38 y.1 y.2.1 y.2.2) n (l45_4, l45_c_t_sureSet, l45_c_t_sureWin) = some z45 → pb_V p l e rmX1_seekSure s m (([.ref a_t, .ref a_p1, .ref a_p2] : List Value).toArray) below meth c 7 (dC, dI) vwCl A 0 0 (pb_MQ below (([.ref a_t, .ref a_p1, .ref a_p2] : List Value).toArray) s (dC, dI) vwCl (wwX1_seekSure cyB cyI cyJ cyZ cyS a_t a_t_seenSet a_t_heldSets a_t_pays a_t_stakes a_p1 a_p1_cells a_p2 a_p2_open a_p2_weight w_p1 m_p1 n_p1 c_t_heldCount c_t_worstBook c_t_worstPast c_t_sureSet c_t_sureWin c_t_seenSet c_t_heldSets c_t_pays c_t_stakes c_p1_size c_p1_cells c_p2_total c_p2_stale c_p2_weight) (wwX1_seekSure cyB cyI cyJ cyZ cyS a_t a_t_seenSet a_t_heldSets a_t_pays a_t_stakes a_p1 a_p1_cells a_p2 a_p2_open a_p2_weight w_p1 m_p1 n_p1 out.1 c_t_worstBook c_t_worstPast out.2.1 out.2.2.1 out.2.2.2.1 out.2.2.2.2.1 out.2.2.2.2.2.1 out.2.2.2.2.2.2 c_p1_size c_p1_cells c_p2_total c_p2_stale c_p2_weight) none A) (wwX1_seekSure cyB cyI cyJ cyZ cyS a_t a_t_seenSet a_t_heldSets a_t_pays a_t_stakes a_p1 a_p1_cells a_p2 a_p2_open a_p2_weight w_p1 m_p1 n_p1 r13.1 c_t_worstBook c_t_worstPast l45_c_t_sureSet l45_c_t_sureWin r13.2.1 r13.2.2 r26.1 r26.2 c_p1_size c_p1_cells c_p2_total c_p2_stale c_p2_weight) [(0, .ref a_t), (3, .int x38), (4, .int l45_4)] [] 45 := by
      intro n
      induction n with
      | zero => intro l45_4 l45_c_t_sureSet l45_c_t_sureWin hf; exact (pb_lp_zero hf).elim
      | succ n ih45 =>
        intro l45_4 l45_c_t_sureSet l45_c_t_sureWin hf
        obtain ⟨y45, hf, hl45⟩ := pb_lp_succ hf
        have hf : fX1_seekSure_L45 r13 r26 x38 l45_4 l45_c_t_sureSet l45_c_t_sureWin = some y45 := hf
        unfold fX1_seekSure_L45 at hf
        refine pb_iload (pc := 45) C dX1_seekSure_45 2 rfl ?_
        refine pb_iload_n (pc := 47) C dX1_seekSure_47 rfl 1 rfl ?_
        refine pb_icmp_ge (pc := 48) (tgt := 130) C dX1_seekSure_48 (by decide) (fun hc48 => ?_) (fun hc48 => ?_)
        · have hf := pb_pos hf hc48
          obtain rfl := Option.some.inj hf
          obtain rfl := pb_esc hl45
          refine pb_sub [] rfl ?_
          exact E45 l45_4 l45_c_t_sureSet l45_c_t_sureWin hk45
        · have hf := pb_neg hf hc48
          refine pb_aload_n (pc := 51) C dX1_seekSure_51 rfl 0 rfl ?_
          refine pb_iload (pc := 52) C dX1_seekSure_52 2 rfl ?_
          refine pb_iconst (v := 1) (pc := 54) C dX1_seekSure_54 pb_kI_1 ?_
          refine pb_aload_n (pc := 55) C dX1_seekSure_55 rfl 0 rfl ?_
          refine pb_get (pc := 56) C hnX1_seekSure_X1 0 rfl rfl 8 (by decide) (List.mem_of_getElem? (i := 2) rfl) rfl rfl dX1_seekSure_56 ?_
          refine pb_mmax (pc := 59) C (List.mem_of_getElem? (i := 9) rfl) (List.mem_of_getElem? (i := 10) rfl) (List.mem_of_getElem? (i := 7) rfl) (List.mem_of_getElem? (i := 11) rfl) (Nat.le_of_ble_eq_true rfl) (Nat.le_of_ble_eq_true rfl) (Nat.le_refl _) (Nat.le_refl _) dX1_seekSure_59 ?_
          obtain ⟨x59, ex59, hf⟩ := pb_bind hf
          have ex59 := Option.some.inj ex59
          refine pb_topi ex59 ?_
          obtain ⟨r62, hr62, hf⟩ := pb_bind hf
          refine pb_callV (pc := 62) (n0 := 9) (ws' := (wwX1_seekSure cyB cyI cyJ cyZ cyS a_t a_t_seenSet a_t_heldSets a_t_pays a_t_stakes a_p1 a_p1_cells a_p2 a_p2_open a_p2_weight w_p1 m_p1 n_p1 r13.1 c_t_worstBook c_t_worstPast l45_c_t_sureSet l45_c_t_sureWin r13.2.1 r13.2.2 r26.1 r26.2 c_p1_size c_p1_cells c_p2_total c_p2_stale c_p2_weight)) (rest := []) (st2 := [.int r62]) C (kcX1_leastWin l dC dI cyB cyI cyJ cyZ cyS a_t a_t_seenSet a_t_heldSets a_t_pays a_t_stakes r13.1 c_t_worstBook c_t_worstPast l45_c_t_sureSet l45_c_t_sureWin r13.2.2 r26.1 r26.2 l45_4 x59 r62 hr62) pb_NW_b (pb_NW_x hX) (cwV 2 C.1.2.2.2.2 gX1_seekSure_X1_leastWin rfl rfl rfl kdV_X1_leastWin ⟨Nat.le_of_ble_eq_true rfl, Nat.le_of_ble_eq_true rfl⟩) 0 rfl rfl [0, 2, 3, 4] [1, 5, 6, 7, 8] rfl rfl ⟨⟨_, rfl, rfl⟩, ⟨⟨_, rfl, rfl⟩, ⟨⟨_, rfl, rfl⟩, ⟨⟨_, rfl, rfl⟩, ⟨⟨_, rfl, rfl⟩, trivial⟩⟩⟩⟩⟩ rfl (by decide +kernel) (adl := [a_t, a_t_heldSets, a_t_pays, a_t_stakes]) rfl rfl rfl rfl rfl (Nat.le_of_ble_eq_true rfl) ⟨Nat.le_refl _, Nat.le_refl _⟩ dX1_seekSure_62 rfl ?_
          refine pb_istore (lv' := [(5, .int r62), (0, .ref a_t), (3, .int x38), (4, .int l45_4)]) (pc := 65) C dX1_seekSure_65 (by decide) rfl ?_
          refine pb_iload (pc := 67) C dX1_seekSure_67 3 rfl ?_
          obtain ⟨r69, hr69, hf⟩ := pb_bind hf
          refine pb_callS (pc := 69) (n0 := 9) (ws' := (wwX1_seekSure cyB cyI cyJ cyZ cyS a_t a_t_seenSet a_t_heldSets a_t_pays a_t_stakes a_p1 a_p1_cells a_p2 a_p2_open a_p2_weight w_p1 m_p1 n_p1 r13.1 c_t_worstBook c_t_worstPast l45_c_t_sureSet l45_c_t_sureWin r13.2.1 r13.2.2 r26.1 r26.2 c_p1_size c_p1_cells c_p2_total c_p2_stale c_p2_weight)) (rest := []) (st2 := [.int r69]) C (kcJ6_bitCount_0f7a4 l dC dI cyB cyI cyJ cyZ cyS l45_4 r69 hr69) pb_NW_b (pb_NW_x hX) (va_cwS 1 C.1.2.2.2.2 gX1_seekSure_J6_bitCount_0f7a4 rfl rfl rfl kdS_J6_bitCount_0f7a4 ⟨Nat.le_of_ble_eq_true rfl, Nat.le_of_ble_eq_true rfl⟩) [] [0, 1, 2, 3, 4, 5, 6, 7, 8] rfl rfl ⟨⟨_, rfl, rfl⟩, ⟨⟨_, rfl, rfl⟩, ⟨⟨_, rfl, rfl⟩, ⟨⟨_, rfl, rfl⟩, ⟨⟨_, rfl, rfl⟩, ⟨⟨_, rfl, rfl⟩, ⟨⟨_, rfl, rfl⟩, ⟨⟨_, rfl, rfl⟩, ⟨⟨_, rfl, rfl⟩, trivial⟩⟩⟩⟩⟩⟩⟩⟩⟩ rfl (by decide +kernel) (adl := []) rfl rfl rfl rfl rfl (Nat.le_of_ble_eq_true rfl) ⟨Nat.le_refl _, Nat.le_refl _⟩ dX1_seekSure_69 rfl ?_
          refine pb_aload_n (pc := 72) C dX1_seekSure_72 rfl 1 rfl ?_
          refine pb_get (pc := 73) C hnX1_seekSure_X1 0 rfl rfl 7 (by decide) (List.mem_of_getElem? (i := 1) rfl) rfl rfl dX1_seekSure_73 ?_
          obtain ⟨r76, hr76, hf⟩ := pb_bind hf
          refine pb_callS (pc := 76) (n0 := 9) (ws' := (wwX1_seekSure cyB cyI cyJ cyZ cyS a_t a_t_seenSet a_t_heldSets a_t_pays a_t_stakes a_p1 a_p1_cells a_p2 a_p2_open a_p2_weight w_p1 m_p1 n_p1 r13.1 c_t_worstBook c_t_worstPast l45_c_t_sureSet l45_c_t_sureWin r13.2.1 r13.2.2 r26.1 r26.2 c_p1_size c_p1_cells c_p2_total c_p2_stale c_p2_weight)) (rest := [.int r69]) (st2 := [.int r76, .int r69]) C (kcJ6_bitCount_0f7a4 l dC dI cyB cyI cyJ cyZ cyS l45_c_t_sureSet r76 hr76) pb_NW_b (pb_NW_x hX) (va_cwS 1 C.1.2.2.2.2 gX1_seekSure_J6_bitCount_0f7a4 rfl rfl rfl kdS_J6_bitCount_0f7a4 ⟨Nat.le_of_ble_eq_true rfl, Nat.le_of_ble_eq_true rfl⟩) [] [0, 1, 2, 3, 4, 5, 6, 7, 8] rfl rfl ⟨⟨_, rfl, rfl⟩, ⟨⟨_, rfl, rfl⟩, ⟨⟨_, rfl, rfl⟩, ⟨⟨_, rfl, rfl⟩, ⟨⟨_, rfl, rfl⟩, ⟨⟨_, rfl, rfl⟩, ⟨⟨_, rfl, rfl⟩, ⟨⟨_, rfl, rfl⟩, ⟨⟨_, rfl, rfl⟩, trivial⟩⟩⟩⟩⟩⟩⟩⟩⟩ rfl (by decide +kernel) (adl := []) rfl rfl rfl rfl rfl (Nat.le_of_ble_eq_true rfl) ⟨Nat.le_refl _, Nat.le_refl _⟩ dX1_seekSure_76 rfl ?_
          obtain ⟨y87, hf, hk87⟩ := pb_bind hf
          have J87 : ∀ (j87_s0 : Int32), fX1_seekSure_J87 l45_4 l45_c_t_sureSet l45_c_t_sureWin r62 j87_s0 = some y45 → pb_V p l e rmX1_seekSure s m (([.ref a_t, .ref a_p1, .ref a_p2] : List Value).toArray) below meth c 7 (dC, dI) vwCl A 0 0 (pb_MQ below (([.ref a_t, .ref a_p1, .ref a_p2] : List Value).toArray) s (dC, dI) vwCl (wwX1_seekSure cyB cyI cyJ cyZ cyS a_t a_t_seenSet a_t_heldSets a_t_pays a_t_stakes a_p1 a_p1_cells a_p2 a_p2_open a_p2_weight w_p1 m_p1 n_p1 c_t_heldCount c_t_worstBook c_t_worstPast c_t_sureSet c_t_sureWin c_t_seenSet c_t_heldSets c_t_pays c_t_stakes c_p1_size c_p1_cells c_p2_total c_p2_stale c_p2_weight) (wwX1_seekSure cyB cyI cyJ cyZ cyS a_t a_t_seenSet a_t_heldSets a_t_pays a_t_stakes a_p1 a_p1_cells a_p2 a_p2_open a_p2_weight w_p1 m_p1 n_p1 out.1 c_t_worstBook c_t_worstPast out.2.1 out.2.2.1 out.2.2.2.1 out.2.2.2.2.1 out.2.2.2.2.2.1 out.2.2.2.2.2.2 c_p1_size c_p1_cells c_p2_total c_p2_stale c_p2_weight) none A) (wwX1_seekSure cyB cyI cyJ cyZ cyS a_t a_t_seenSet a_t_heldSets a_t_pays a_t_stakes a_p1 a_p1_cells a_p2 a_p2_open a_p2_weight w_p1 m_p1 n_p1 r13.1 c_t_worstBook c_t_worstPast l45_c_t_sureSet l45_c_t_sureWin r13.2.1 r13.2.2 r26.1 r26.2 c_p1_size c_p1_cells c_p2_total c_p2_stale c_p2_weight) [(0, .ref a_t), (3, .int x38), (4, .int l45_4), (5, .int r62)] [.int j87_s0] 87 := by
            intro j87_s0 hf
            unfold fX1_seekSure_J87 at hf
            refine pb_istore (lv' := [(6, .int j87_s0), (0, .ref a_t), (3, .int x38), (4, .int l45_4), (5, .int r62)]) (pc := 87) C dX1_seekSure_87 (by decide) rfl ?_
            refine pb_iload (pc := 89) C dX1_seekSure_89 4 rfl ?_
            refine pb_aload_n (pc := 91) C dX1_seekSure_91 rfl 1 rfl ?_
            refine pb_get (pc := 92) C hnX1_seekSure_X1 0 rfl rfl 8 (by decide) (List.mem_of_getElem? (i := 2) rfl) rfl rfl dX1_seekSure_92 ?_
            refine pb_icmp_gt (pc := 95) (tgt := 112) C dX1_seekSure_95 (by decide) (fun hc95 => ?_) (fun hc95 => ?_)
            · have hf := pb_pos hf hc95
              refine pb_aload_n (pc := 112) C dX1_seekSure_112 rfl 1 rfl ?_
              refine pb_iload (pc := 113) C dX1_seekSure_113 3 rfl ?_
              refine pb_put (pc := 115) (ws' := (wwX1_seekSure cyB cyI cyJ cyZ cyS a_t a_t_seenSet a_t_heldSets a_t_pays a_t_stakes a_p1 a_p1_cells a_p2 a_p2_open a_p2_weight w_p1 m_p1 n_p1 r13.1 c_t_worstBook c_t_worstPast l45_4 l45_c_t_sureWin r13.2.1 r13.2.2 r26.1 r26.2 c_p1_size c_p1_cells c_p2_total c_p2_stale c_p2_weight)) C hnX1_seekSure_X1 tyX1 tyX1_ok nmX1 0 rfl rfl 7 (by decide) (List.mem_of_getElem? (i := 1) rfl) rfl rfl rfl rfl (Nat.le_of_ble_eq_true rfl) rfl dX1_seekSure_115 ?_
              refine pb_aload_n (pc := 118) C dX1_seekSure_118 rfl 1 rfl ?_
              refine pb_iload (pc := 119) C dX1_seekSure_119 4 rfl ?_
              refine pb_put (pc := 121) (ws' := (wwX1_seekSure cyB cyI cyJ cyZ cyS a_t a_t_seenSet a_t_heldSets a_t_pays a_t_stakes a_p1 a_p1_cells a_p2 a_p2_open a_p2_weight w_p1 m_p1 n_p1 r13.1 c_t_worstBook c_t_worstPast l45_4 r62 r13.2.1 r13.2.2 r26.1 r26.2 c_p1_size c_p1_cells c_p2_total c_p2_stale c_p2_weight)) C hnX1_seekSure_X1 tyX1 tyX1_ok nmX1 0 rfl rfl 8 (by decide) (List.mem_of_getElem? (i := 2) rfl) rfl rfl rfl rfl (Nat.le_of_ble_eq_true rfl) rfl dX1_seekSure_121 ?_
              refine pb_iinc (v := l45_4 + 1) (lv' := [(4, .int (l45_4 + 1)), (6, .int j87_s0), (0, .ref a_t), (3, .int x38), (5, .int r62)]) (pc := 124) C dX1_seekSure_124 3 rfl (pb_inc pb_kI_1 rfl) (by decide) rfl ?_
              refine pb_goto (pc := 127) (tgt := 45) C dX1_seekSure_127 (by decide) ?_
              obtain rfl := Option.some.inj hf
              refine pb_sub [2, 3, 0] rfl ?_
              have hl45 := pb_inl hl45
              exact ih45 (l45_4 + 1) l45_4 r62 hl45
            · have hf := pb_neg hf hc95
              refine pb_iload (pc := 98) C dX1_seekSure_98 4 rfl ?_
              refine pb_aload_n (pc := 100) C dX1_seekSure_100 rfl 1 rfl ?_
              refine pb_get (pc := 101) C hnX1_seekSure_X1 0 rfl rfl 8 (by decide) (List.mem_of_getElem? (i := 2) rfl) rfl rfl dX1_seekSure_101 ?_
              refine pb_icmp_ne (pc := 104) (tgt := 124) C dX1_seekSure_104 (by decide) (fun hc104 => ?_) (fun hc104 => ?_)
              · have hf := pb_neg hf hc104
                refine pb_iinc (v := l45_4 + 1) (lv' := [(4, .int (l45_4 + 1)), (6, .int j87_s0), (0, .ref a_t), (3, .int x38), (5, .int r62)]) (pc := 124) C dX1_seekSure_124 3 rfl (pb_inc pb_kI_1 rfl) (by decide) rfl ?_
                refine pb_goto (pc := 127) (tgt := 45) C dX1_seekSure_127 (by decide) ?_
                obtain rfl := Option.some.inj hf
                refine pb_sub [2, 3, 0] rfl ?_
                have hl45 := pb_inl hl45
                exact ih45 (l45_4 + 1) l45_c_t_sureSet l45_c_t_sureWin hl45
              · have hf := pb_pos hf hc104
                refine pb_iload (pc := 107) C dX1_seekSure_107 0 rfl ?_
                refine pb_if_eq (pc := 109) (tgt := 124) C dX1_seekSure_109 (by decide) (fun hc109 => ?_) (fun hc109 => ?_)
                · have hf := pb_pos hf hc109
                  refine pb_iinc (v := l45_4 + 1) (lv' := [(4, .int (l45_4 + 1)), (6, .int j87_s0), (0, .ref a_t), (3, .int x38), (5, .int r62)]) (pc := 124) C dX1_seekSure_124 3 rfl (pb_inc pb_kI_1 rfl) (by decide) rfl ?_
                  refine pb_goto (pc := 127) (tgt := 45) C dX1_seekSure_127 (by decide) ?_
                  obtain rfl := Option.some.inj hf
                  refine pb_sub [2, 3, 0] rfl ?_
                  have hl45 := pb_inl hl45
                  exact ih45 (l45_4 + 1) l45_c_t_sureSet l45_c_t_sureWin hl45
                · have hf := pb_neg hf hc109
                  refine pb_aload_n (pc := 112) C dX1_seekSure_112 rfl 1 rfl ?_
                  refine pb_iload (pc := 113) C dX1_seekSure_113 3 rfl ?_
                  refine pb_put (pc := 115) (ws' := (wwX1_seekSure cyB cyI cyJ cyZ cyS a_t a_t_seenSet a_t_heldSets a_t_pays a_t_stakes a_p1 a_p1_cells a_p2 a_p2_open a_p2_weight w_p1 m_p1 n_p1 r13.1 c_t_worstBook c_t_worstPast l45_4 l45_c_t_sureWin r13.2.1 r13.2.2 r26.1 r26.2 c_p1_size c_p1_cells c_p2_total c_p2_stale c_p2_weight)) C hnX1_seekSure_X1 tyX1 tyX1_ok nmX1 0 rfl rfl 7 (by decide) (List.mem_of_getElem? (i := 1) rfl) rfl rfl rfl rfl (Nat.le_of_ble_eq_true rfl) rfl dX1_seekSure_115 ?_
                  refine pb_aload_n (pc := 118) C dX1_seekSure_118 rfl 1 rfl ?_
                  refine pb_iload (pc := 119) C dX1_seekSure_119 4 rfl ?_
                  refine pb_put (pc := 121) (ws' := (wwX1_seekSure cyB cyI cyJ cyZ cyS a_t a_t_seenSet a_t_heldSets a_t_pays a_t_stakes a_p1 a_p1_cells a_p2 a_p2_open a_p2_weight w_p1 m_p1 n_p1 r13.1 c_t_worstBook c_t_worstPast l45_4 r62 r13.2.1 r13.2.2 r26.1 r26.2 c_p1_size c_p1_cells c_p2_total c_p2_stale c_p2_weight)) C hnX1_seekSure_X1 tyX1 tyX1_ok nmX1 0 rfl rfl 8 (by decide) (List.mem_of_getElem? (i := 2) rfl) rfl rfl rfl rfl (Nat.le_of_ble_eq_true rfl) rfl dX1_seekSure_121 ?_
                  refine pb_iinc (v := l45_4 + 1) (lv' := [(4, .int (l45_4 + 1)), (6, .int j87_s0), (0, .ref a_t), (3, .int x38), (5, .int r62)]) (pc := 124) C dX1_seekSure_124 3 rfl (pb_inc pb_kI_1 rfl) (by decide) rfl ?_
                  refine pb_goto (pc := 127) (tgt := 45) C dX1_seekSure_127 (by decide) ?_
                  obtain rfl := Option.some.inj hf
                  refine pb_sub [2, 3, 0] rfl ?_
                  have hl45 := pb_inl hl45
                  exact ih45 (l45_4 + 1) l45_4 r62 hl45
          refine pb_icmp_ge (pc := 79) (tgt := 86) C dX1_seekSure_79 (by decide) (fun hc79 => ?_) (fun hc79 => ?_)
          · have hf := pb_pos hf hc79
            refine pb_iconst (v := 0) (pc := 86) C dX1_seekSure_86 pb_kI_0 ?_
            obtain rfl := Option.some.inj hf
            refine pb_sub [1, 2, 3, 0] rfl ?_
            exact J87 0 hk87
          · have hf := pb_neg hf hc79
            refine pb_iconst (v := 1) (pc := 82) C dX1_seekSure_82 pb_kI_1 ?_
            refine pb_goto (pc := 83) (tgt := 87) C dX1_seekSure_83 (by decide) ?_
            obtain rfl := Option.some.inj hf
            refine pb_sub [1, 2, 3, 0] rfl ?_
            exact J87 1 hk87
    refine pb_sub [2, 1, 0] rfl ?_
    exact L45 pb_FU 1 0 0 hz45
  · have hf := pb_pos hf hc20
    obtain rfl := Option.some.inj hf
    exact pb_vret (pc := 23) C hr hlk hA dX1_seekSure_23
def rmX1_weighedWorth : Room := { frames := 4, cells := 0, slots := 0, locals := 91 }
def wwX1_weighedWorth (cyB cyI cyJ cyZ cyS : ClassId) (a_p1 a_p1_cells a_p4 a_p4_open a_p4_weight : Nat) (w_p1 : Int32) (m_p1 : Int32) (n_p1 : Nat) (c_p1_size : Int32) (c_p1_cells : (Nat → Int32)) (c_p4_total : Int64) (c_p4_stale : Int32) (c_p4_weight : (Nat → Int64)) : va_W := [(a_p1, .inr (6, [.int w_p1, .int m_p1, .ref a_p1_cells, .int c_p1_size])), (a_p1_cells, .inl (cyI, n_p1, .inl c_p1_cells)), (a_p4, .inr (2, [.ref a_p4_open, .ref a_p4_weight, .long c_p4_total, .int c_p4_stale])), (a_p4_weight, .inl (cyJ, 128, .inr (.inl c_p4_weight)))]
theorem hnX1_weighedWorth_X2 : ∀ w ∈ wsX20, w ∈ wsX1_weighedWorth := fun _ h => List.mem_cons_of_mem _ (List.mem_append_left _ (List.mem_append_right _ h))
set_option maxHeartbeats 4000000 in
set_option maxRecDepth 100000 in
theorem kcX1_weighedWorth (l : Launch) (dC : Nat → ClassId) (dI : Nat → Nat → Nat) (cyB cyI cyJ cyZ cyS : ClassId) (a_p1 a_p1_cells a_p4 a_p4_open a_p4_weight : Nat) (w_p1 : Int32) (m_p1 : Int32) (n_p1 : Nat) (c_p1_size : Int32) (c_p1_cells : (Nat → Int32)) (c_p4_total : Int64) (c_p4_stale : Int32) (c_p4_weight : (Nat → Int64)) (p2 : Int32) (p3 : Int32) (out : Int64) (hf : fX1_weighedWorth w_p1 m_p1 n_p1 c_p1_size c_p1_cells c_p4_weight p2 p3 = some out) : pb_K l yX1_weighedWorth wsX1_weighedWorth rmX1_weighedWorth (dC, dI) vwCl (pb_tys cyB cyI cyJ cyZ cyS) pb_NW [.ref a_p1, .int p2, .int p3, .ref a_p4] (wwX1_weighedWorth cyB cyI cyJ cyZ cyS a_p1 a_p1_cells a_p4 a_p4_open a_p4_weight w_p1 m_p1 n_p1 c_p1_size c_p1_cells c_p4_total c_p4_stale c_p4_weight) (wwX1_weighedWorth cyB cyI cyJ cyZ cyS a_p1 a_p1_cells a_p4 a_p4_open a_p4_weight w_p1 m_p1 n_p1 c_p1_size c_p1_cells c_p4_total c_p4_stale c_p4_weight) (some (.long out)) := by
  unfold fX1_weighedWorth at hf
  refine pb_K.ofV (cc := cX1_weighedWorth) (maxL := 11) (ret := (some .long)) (lv0 := [(0, .ref a_p1), (1, .int p2), (2, .int p3), (3, .ref a_p4)]) (by decide) rfl (Nat.le_of_ble_eq_true rfl) rfl ?_
  intro p e s m below meth c A C hX hr hlk hA
  refine pb_lconst (v := 0) (pc := 0) C dX1_weighedWorth_0 pb_kL_0 ?_
  refine pb_lstore (lv' := [(4, .long 0), (0, .ref a_p1), (1, .int p2), (2, .int p3), (3, .ref a_p4)]) (pc := 1) C dX1_weighedWorth_1 (by decide) rfl ?_
  refine pb_lconst (v := 0) (pc := 3) C dX1_weighedWorth_3 pb_kL_0 ?_
  refine pb_lstore (lv' := [(6, .long 0), (4, .long 0), (0, .ref a_p1), (1, .int p2), (2, .int p3), (3, .ref a_p4)]) (pc := 4) C dX1_weighedWorth_4 (by decide) rfl ?_
  refine pb_iconst (v := 0) (pc := 6) C dX1_weighedWorth_6 pb_kI_0 ?_
  refine pb_istore (lv' := [(8, .int 0), (6, .long 0), (4, .long 0), (0, .ref a_p1), (1, .int p2), (2, .int p3), (3, .ref a_p4)]) (pc := 7) C dX1_weighedWorth_7 (by decide) rfl ?_
  obtain ⟨z9, hz9, hk9⟩ := pb_bind hf
  have E9 : ∀ (e9_4 : Int64) (e9_6 : Int64) (e9_8 : Int32), fX1_weighedWorth_E9 e9_4 e9_6 e9_8 = some out → pb_V p l e rmX1_weighedWorth s m (([.ref a_p1, .int p2, .int p3, .ref a_p4] : List Value).toArray) below meth c 11 (dC, dI) vwCl A 0 0 (pb_MQ below (([.ref a_p1, .int p2, .int p3, .ref a_p4] : List Value).toArray) s (dC, dI) vwCl (wwX1_weighedWorth cyB cyI cyJ cyZ cyS a_p1 a_p1_cells a_p4 a_p4_open a_p4_weight w_p1 m_p1 n_p1 c_p1_size c_p1_cells c_p4_total c_p4_stale c_p4_weight) (wwX1_weighedWorth cyB cyI cyJ cyZ cyS a_p1 a_p1_cells a_p4 a_p4_open a_p4_weight w_p1 m_p1 n_p1 c_p1_size c_p1_cells c_p4_total c_p4_stale c_p4_weight) (some (.long out)) A) (wwX1_weighedWorth cyB cyI cyJ cyZ cyS a_p1 a_p1_cells a_p4 a_p4_open a_p4_weight w_p1 m_p1 n_p1 c_p1_size c_p1_cells c_p4_total c_p4_stale c_p4_weight) [(4, .long e9_4), (6, .long e9_6)] [] 79 := by
    intro e9_4 e9_6 e9_8 hf
    unfold fX1_weighedWorth_E9 at hf
    refine pb_lconst (v := 0) (pc := 79) C dX1_weighedWorth_79 pb_kL_0 ?_
    refine pb_lload (pc := 80) C dX1_weighedWorth_80 0 rfl ?_
    refine pb_mmax_long (pc := 82) C (List.mem_of_getElem? (i := 2) rfl) (List.mem_of_getElem? (i := 3) rfl) (List.mem_of_getElem? (i := 4) rfl) (List.mem_of_getElem? (i := 5) rfl) (Nat.le_of_ble_eq_true rfl) (Nat.le_of_ble_eq_true rfl) (Nat.le_refl _) (Nat.le_refl _) dX1_weighedWorth_82 ?_
    obtain ⟨x82, ex82, hf⟩ := pb_bind hf
    have ex82 := Option.some.inj ex82
    refine pb_topl ex82 ?_
    refine pb_lconst (v := 0) (pc := 85) C dX1_weighedWorth_85 pb_kL_0 ?_
    refine pb_lload (pc := 86) C dX1_weighedWorth_86 1 rfl ?_
    refine pb_mmax_long (pc := 88) C (List.mem_of_getElem? (i := 2) rfl) (List.mem_of_getElem? (i := 3) rfl) (List.mem_of_getElem? (i := 4) rfl) (List.mem_of_getElem? (i := 5) rfl) (Nat.le_of_ble_eq_true rfl) (Nat.le_of_ble_eq_true rfl) (Nat.le_refl _) (Nat.le_refl _) dX1_weighedWorth_88 ?_
    obtain ⟨x88, ex88, hf⟩ := pb_bind hf
    have ex88 := Option.some.inj ex88
    refine pb_topl ex88 ?_
    refine pb_ladd (pc := 91) C dX1_weighedWorth_91 ?_
    refine pb_lconst (v := 0) (pc := 92) C dX1_weighedWorth_92 pb_kL_0 ?_
    refine pb_lload (pc := 93) C dX1_weighedWorth_93 0 rfl ?_
    refine pb_lload (pc := 95) C dX1_weighedWorth_95 1 rfl ?_
    refine pb_ladd (pc := 97) C dX1_weighedWorth_97 ?_
    refine pb_mmax_long (pc := 98) C (List.mem_of_getElem? (i := 2) rfl) (List.mem_of_getElem? (i := 3) rfl) (List.mem_of_getElem? (i := 4) rfl) (List.mem_of_getElem? (i := 5) rfl) (Nat.le_of_ble_eq_true rfl) (Nat.le_of_ble_eq_true rfl) (Nat.le_refl _) (Nat.le_refl _) dX1_weighedWorth_98 ?_
    obtain ⟨x98, ex98, hf⟩ := pb_bind hf
    have ex98 := Option.some.inj ex98
    refine pb_topl ex98 ?_
    refine pb_lsub (pc := 101) C dX1_weighedWorth_101 ?_
    obtain rfl := Option.some.inj hf
    exact pb_lret (pc := 102) C hr hlk hA dX1_weighedWorth_102
  have L9 : ∀ (n : Nat) (l9_4 : Int64) (l9_6 : Int64) (l9_8 : Int32), pb_lp (fun y => fX1_weighedWorth_L9 w_p1 m_p1 n_p1 c_p1_size c_p1_cells c_p4_weight p2 p3 y.1 y.2.1 y.2.2) n (l9_4, l9_6, l9_8) = some z9 → pb_V p l e rmX1_weighedWorth s m (([.ref a_p1, .int p2, .int p3, .ref a_p4] : List Value).toArray) below meth c 11 (dC, dI) vwCl A 0 0 (pb_MQ below (([.ref a_p1, .int p2, .int p3, .ref a_p4] : List Value).toArray) s (dC, dI) vwCl (wwX1_weighedWorth cyB cyI cyJ cyZ cyS a_p1 a_p1_cells a_p4 a_p4_open a_p4_weight w_p1 m_p1 n_p1 c_p1_size c_p1_cells c_p4_total c_p4_stale c_p4_weight) (wwX1_weighedWorth cyB cyI cyJ cyZ cyS a_p1 a_p1_cells a_p4 a_p4_open a_p4_weight w_p1 m_p1 n_p1 c_p1_size c_p1_cells c_p4_total c_p4_stale c_p4_weight) (some (.long out)) A) (wwX1_weighedWorth cyB cyI cyJ cyZ cyS a_p1 a_p1_cells a_p4 a_p4_open a_p4_weight w_p1 m_p1 n_p1 c_p1_size c_p1_cells c_p4_total c_p4_stale c_p4_weight) [(0, .ref a_p1), (1, .int p2), (2, .int p3), (3, .ref a_p4), (4, .long l9_4), (6, .long l9_6), (8, .int l9_8)] [] 9 := by
    intro n
    induction n with
    | zero => intro l9_4 l9_6 l9_8 hf; exact (pb_lp_zero hf).elim
    | succ n ih9 =>
      intro l9_4 l9_6 l9_8 hf
      obtain ⟨y9, hf, hl9⟩ := pb_lp_succ hf
      have hf : fX1_weighedWorth_L9 w_p1 m_p1 n_p1 c_p1_size c_p1_cells c_p4_weight p2 p3 l9_4 l9_6 l9_8 = some y9 := hf
      unfold fX1_weighedWorth_L9 at hf
      refine pb_iload (pc := 9) C dX1_weighedWorth_9 6 rfl ?_
      refine pb_sipush (v := 128) (pc := 11) C dX1_weighedWorth_11 pb_kS_128 ?_
      refine pb_icmp_ge (pc := 14) (tgt := 79) C dX1_weighedWorth_14 (by decide) (fun hc14 => ?_) (fun hc14 => ?_)
      · have hf := pb_pos hf hc14
        obtain rfl := Option.some.inj hf
        obtain rfl := pb_esc hl9
        refine pb_sub [4, 5] rfl ?_
        exact E9 l9_4 l9_6 l9_8 hk9
      · have hf := pb_neg hf hc14
        refine pb_aload_n (pc := 17) C dX1_weighedWorth_17 rfl 3 rfl ?_
        refine pb_get (pc := 18) C hnX1_weighedWorth_X2 2 rfl rfl 1 (by decide) (List.mem_of_getElem? (i := 1) rfl) rfl rfl dX1_weighedWorth_18 ?_
        refine pb_iload (pc := 21) C dX1_weighedWorth_21 6 rfl ?_
        obtain ⟨g23, hf⟩ := pb_grd hf
        refine pb_lald (pc := 23) C 3 2 rfl rfl g23 dX1_weighedWorth_23 ?_
        refine pb_lconst (v := 0) (pc := 24) C dX1_weighedWorth_24 pb_kL_0 ?_
        refine pb_lif_le (pc := 25) (tgt := 73) C dX1_weighedWorth_25 dX1_weighedWorth_26 (by decide) (fun hc25 => ?_) (fun hc25 => ?_)
        · have hf := pb_pos hf hc25
          refine pb_iinc (v := l9_8 + 1) (lv' := [(8, .int (l9_8 + 1)), (0, .ref a_p1), (1, .int p2), (2, .int p3), (3, .ref a_p4), (4, .long l9_4), (6, .long l9_6)]) (pc := 73) C dX1_weighedWorth_73 6 rfl (pb_inc pb_kI_1 rfl) (by decide) rfl ?_
          refine pb_goto (pc := 76) (tgt := 9) C dX1_weighedWorth_76 (by decide) ?_
          obtain rfl := Option.some.inj hf
          refine pb_sub [1, 2, 3, 4, 5, 6, 0] rfl ?_
          have hl9 := pb_inl hl9
          exact ih9 l9_4 l9_6 (l9_8 + 1) hl9
        · have hf := pb_neg hf hc25
          refine pb_aload_n (pc := 29) C dX1_weighedWorth_29 rfl 3 rfl ?_
          refine pb_get (pc := 30) C hnX1_weighedWorth_X2 2 rfl rfl 1 (by decide) (List.mem_of_getElem? (i := 1) rfl) rfl rfl dX1_weighedWorth_30 ?_
          refine pb_iload (pc := 33) C dX1_weighedWorth_33 6 rfl ?_
          obtain ⟨g35, hf⟩ := pb_grd hf
          refine pb_lald (pc := 35) C 3 2 rfl rfl g35 dX1_weighedWorth_35 ?_
          refine pb_aload_n (pc := 36) C dX1_weighedWorth_36 rfl 0 rfl ?_
          refine pb_iload_n (pc := 37) C dX1_weighedWorth_37 rfl 1 rfl ?_
          refine pb_iload (pc := 38) C dX1_weighedWorth_38 6 rfl ?_
          obtain ⟨r40, hr40, hf⟩ := pb_bind hf
          refine pb_callSN (host := "PastBets") (pc := 40) (n0 := 4) (ws' := (wwX1_weighedWorth cyB cyI cyJ cyZ cyS a_p1 a_p1_cells a_p4 a_p4_open a_p4_weight w_p1 m_p1 n_p1 c_p1_size c_p1_cells c_p4_total c_p4_stale c_p4_weight)) (rest := [.long (c_p4_weight (Int32.toNatClampNeg l9_8))]) (st2 := [.int r40, .long (c_p4_weight (Int32.toNatClampNeg l9_8))]) C (kcX7_gainIn l dC dI cyB cyI cyJ cyZ cyS a_p1 a_p1_cells w_p1 m_p1 n_p1 c_p1_size c_p1_cells p2 l9_8 r40 hr40) pb_NW_b (pb_NW_x hX) ⟨va_cnB 3 C.1.2.2.2.2 gX1_weighedWorth_X7_gainIn_n42 rfl rfl rfl hX.2.1 (C.1.2.2.2.2 _ (List.mem_of_getElem? (i := 7) rfl)) kdS_X7_gainIn ⟨Nat.le_of_ble_eq_true rfl, Nat.le_of_ble_eq_true rfl⟩, C.1.2.2.2.2 _ (List.mem_of_getElem? (i := 6) rfl), trivial⟩ [0, 1] [2, 3] rfl rfl ⟨⟨_, rfl, rfl⟩, ⟨⟨_, rfl, rfl⟩, trivial⟩⟩ rfl (by decide +kernel) (adl := [a_p1, a_p1_cells]) rfl rfl rfl rfl rfl (Nat.le_of_ble_eq_true rfl) ⟨Nat.le_refl _, Nat.le_refl _⟩ dX1_weighedWorth_40 rfl ?_
          refine pb_i2l (pc := 43) C dX1_weighedWorth_43 ?_
          refine pb_lmul (pc := 44) C dX1_weighedWorth_44 ?_
          obtain ⟨x45, ex45, hf⟩ := pb_bind hf
          have ex45 := Option.some.inj ex45
          refine pb_topl ex45 ?_
          refine pb_lstore (lv' := [(9, .long x45), (0, .ref a_p1), (1, .int p2), (2, .int p3), (3, .ref a_p4), (4, .long l9_4), (6, .long l9_6), (8, .int l9_8)]) (pc := 45) C dX1_weighedWorth_45 (by decide) rfl ?_
          refine pb_iload (pc := 47) C dX1_weighedWorth_47 7 rfl ?_
          refine pb_iload_n (pc := 49) C dX1_weighedWorth_49 rfl 3 rfl ?_
          obtain ⟨r50, hr50, hf⟩ := pb_bind hf
          refine pb_callSN (host := "PastBets") (pc := 50) (n0 := 4) (ws' := (wwX1_weighedWorth cyB cyI cyJ cyZ cyS a_p1 a_p1_cells a_p4 a_p4_open a_p4_weight w_p1 m_p1 n_p1 c_p1_size c_p1_cells c_p4_total c_p4_stale c_p4_weight)) (rest := []) (st2 := [.int r50]) C (kcX7_wasSo l dC dI cyB cyI cyJ cyZ cyS l9_8 p3 r50 hr50) pb_NW_b (pb_NW_x hX) ⟨va_cnB 2 C.1.2.2.2.2 gX1_weighedWorth_X7_wasSo_n46 rfl rfl rfl hX.2.2.1 (C.1.2.2.2.2 _ (List.mem_of_getElem? (i := 7) rfl)) kdS_X7_wasSo ⟨Nat.le_of_ble_eq_true rfl, Nat.le_of_ble_eq_true rfl⟩, C.1.2.2.2.2 _ (List.mem_of_getElem? (i := 24) rfl), trivial⟩ [] [0, 1, 2, 3] rfl rfl ⟨⟨_, rfl, rfl⟩, ⟨⟨_, rfl, rfl⟩, ⟨⟨_, rfl, rfl⟩, ⟨⟨_, rfl, rfl⟩, trivial⟩⟩⟩⟩ rfl (by decide +kernel) (adl := []) rfl rfl rfl rfl rfl (Nat.le_of_ble_eq_true rfl) ⟨Nat.le_refl _, Nat.le_refl _⟩ dX1_weighedWorth_50 rfl ?_
          refine pb_if_eq (pc := 53) (tgt := 66) C dX1_weighedWorth_53 (by decide) (fun hc53 => ?_) (fun hc53 => ?_)
          · have hf := pb_pos hf hc53
            refine pb_lload (pc := 66) C dX1_weighedWorth_66 6 rfl ?_
            refine pb_lload (pc := 68) C dX1_weighedWorth_68 0 rfl ?_
            refine pb_ladd (pc := 70) C dX1_weighedWorth_70 ?_
            obtain ⟨x71, ex71, hf⟩ := pb_bind hf
            have ex71 := Option.some.inj ex71
            refine pb_topl ex71 ?_
            refine pb_lstore (lv' := [(6, .long x71), (9, .long x45), (0, .ref a_p1), (1, .int p2), (2, .int p3), (3, .ref a_p4), (4, .long l9_4), (8, .int l9_8)]) (pc := 71) C dX1_weighedWorth_71 (by decide) rfl ?_
            refine pb_iinc (v := l9_8 + 1) (lv' := [(8, .int (l9_8 + 1)), (6, .long x71), (9, .long x45), (0, .ref a_p1), (1, .int p2), (2, .int p3), (3, .ref a_p4), (4, .long l9_4)]) (pc := 73) C dX1_weighedWorth_73 7 rfl (pb_inc pb_kI_1 rfl) (by decide) rfl ?_
            refine pb_goto (pc := 76) (tgt := 9) C dX1_weighedWorth_76 (by decide) ?_
            obtain rfl := Option.some.inj hf
            refine pb_sub [3, 4, 5, 6, 7, 1, 0] rfl ?_
            have hl9 := pb_inl hl9
            exact ih9 l9_4 x71 (l9_8 + 1) hl9
          · have hf := pb_neg hf hc53
            refine pb_lload (pc := 56) C dX1_weighedWorth_56 5 rfl ?_
            refine pb_lload (pc := 58) C dX1_weighedWorth_58 0 rfl ?_
            refine pb_ladd (pc := 60) C dX1_weighedWorth_60 ?_
            obtain ⟨x61, ex61, hf⟩ := pb_bind hf
            have ex61 := Option.some.inj ex61
            refine pb_topl ex61 ?_
            refine pb_lstore (lv' := [(4, .long x61), (9, .long x45), (0, .ref a_p1), (1, .int p2), (2, .int p3), (3, .ref a_p4), (6, .long l9_6), (8, .int l9_8)]) (pc := 61) C dX1_weighedWorth_61 (by decide) rfl ?_
            refine pb_goto (pc := 63) (tgt := 73) C dX1_weighedWorth_63 (by decide) ?_
            refine pb_iinc (v := l9_8 + 1) (lv' := [(8, .int (l9_8 + 1)), (4, .long x61), (9, .long x45), (0, .ref a_p1), (1, .int p2), (2, .int p3), (3, .ref a_p4), (6, .long l9_6)]) (pc := 73) C dX1_weighedWorth_73 7 rfl (pb_inc pb_kI_1 rfl) (by decide) rfl ?_
            refine pb_goto (pc := 76) (tgt := 9) C dX1_weighedWorth_76 (by decide) ?_
            obtain rfl := Option.some.inj hf
            refine pb_sub [3, 4, 5, 6, 1, 7, 0] rfl ?_
            have hl9 := pb_inl hl9
            exact ih9 x61 l9_6 (l9_8 + 1) hl9
  refine pb_sub [3, 4, 5, 6, 2, 1, 0] rfl ?_
  exact L9 pb_FU 0 0 0 hz9
def rmX1_bestDig : Room := { frames := 5, cells := 0, slots := 0, locals := 121 }
def wwX1_bestDig (cyB cyI cyJ cyZ cyS : ClassId) (a_p1 a_p1_cells a_p3 a_p3_open a_p3_weight : Nat) (w_p1 : Int32) (m_p1 : Int32) (n_p1 : Nat) (c_p1_size : Int32) (c_p1_cells : (Nat → Int32)) (c_p3_total : Int64) (c_p3_stale : Int32) (c_p3_weight : (Nat → Int64)) : va_W := [(a_p1, .inr (6, [.int w_p1, .int m_p1, .ref a_p1_cells, .int c_p1_size])), (a_p1_cells, .inl (cyI, n_p1, .inl c_p1_cells)), (a_p3, .inr (2, [.ref a_p3_open, .ref a_p3_weight, .long c_p3_total, .int c_p3_stale])), (a_p3_weight, .inl (cyJ, 128, .inr (.inl c_p3_weight)))]
set_option maxHeartbeats 4000000 in
set_option maxRecDepth 100000 in
theorem kcX1_bestDig (l : Launch) (dC : Nat → ClassId) (dI : Nat → Nat → Nat) (cyB cyI cyJ cyZ cyS : ClassId) (a_p1 a_p1_cells a_p3 a_p3_open a_p3_weight : Nat) (w_p1 : Int32) (m_p1 : Int32) (n_p1 : Nat) (c_p1_size : Int32) (c_p1_cells : (Nat → Int32)) (c_p3_total : Int64) (c_p3_stale : Int32) (c_p3_weight : (Nat → Int64)) (p2 : Int32) (out : Int32) (hf : fX1_bestDig w_p1 m_p1 n_p1 c_p1_size c_p1_cells c_p3_weight p2 = some out) : pb_K l yX1_bestDig wsX1_bestDig rmX1_bestDig (dC, dI) vwCl (pb_tys cyB cyI cyJ cyZ cyS) pb_NW [.ref a_p1, .int p2, .ref a_p3] (wwX1_bestDig cyB cyI cyJ cyZ cyS a_p1 a_p1_cells a_p3 a_p3_open a_p3_weight w_p1 m_p1 n_p1 c_p1_size c_p1_cells c_p3_total c_p3_stale c_p3_weight) (wwX1_bestDig cyB cyI cyJ cyZ cyS a_p1 a_p1_cells a_p3 a_p3_open a_p3_weight w_p1 m_p1 n_p1 c_p1_size c_p1_cells c_p3_total c_p3_stale c_p3_weight) (some (.int out)) := by
  unfold fX1_bestDig at hf
  refine pb_K.ofV (cc := cX1_bestDig) (maxL := 9) (ret := (some .int)) (lv0 := [(0, .ref a_p1), (1, .int p2), (2, .ref a_p3)]) (by decide) rfl (Nat.le_of_ble_eq_true rfl) rfl ?_
  intro p e s m below meth c A C hX hr hlk hA
  refine pb_iconst (v := 0) (pc := 0) C dX1_bestDig_0 pb_kI_0 ?_
  refine pb_istore_n (lv' := [(3, .int 0), (0, .ref a_p1), (1, .int p2), (2, .ref a_p3)]) (pc := 1) C dX1_bestDig_1 rfl (by decide) rfl ?_
  refine pb_aload_n (pc := 2) C dX1_bestDig_2 rfl 1 rfl ?_
  refine pb_iload_n (pc := 3) C dX1_bestDig_3 rfl 2 rfl ?_
  refine pb_iconst (v := 0) (pc := 4) C dX1_bestDig_4 pb_kI_0 ?_
  refine pb_aload_n (pc := 5) C dX1_bestDig_5 rfl 3 rfl ?_
  obtain ⟨r6, hr6, hf⟩ := pb_bind hf
  refine pb_callS (pc := 6) (n0 := 4) (ws' := (wwX1_bestDig cyB cyI cyJ cyZ cyS a_p1 a_p1_cells a_p3 a_p3_open a_p3_weight w_p1 m_p1 n_p1 c_p1_size c_p1_cells c_p3_total c_p3_stale c_p3_weight)) (rest := []) (st2 := [.long r6]) C (kcX1_weighedWorth l dC dI cyB cyI cyJ cyZ cyS a_p1 a_p1_cells a_p3 a_p3_open a_p3_weight w_p1 m_p1 n_p1 c_p1_size c_p1_cells c_p3_total c_p3_stale c_p3_weight p2 0 r6 hr6) pb_NW_b (pb_NW_x hX) (va_cwS 4 C.1.2.2.2.2 gX1_bestDig_X1_weighedWorth rfl rfl rfl kdS_X1_weighedWorth ⟨Nat.le_of_ble_eq_true rfl, Nat.le_of_ble_eq_true rfl⟩) [0, 1, 2, 3] [] rfl rfl trivial rfl (by decide +kernel) (adl := [a_p1, a_p1_cells, a_p3, a_p3_weight]) rfl rfl rfl rfl rfl (Nat.le_of_ble_eq_true rfl) ⟨Nat.le_refl _, Nat.le_refl _⟩ dX1_bestDig_6 rfl ?_
  refine pb_lstore (lv' := [(4, .long r6), (3, .int 0), (0, .ref a_p1), (1, .int p2), (2, .ref a_p3)]) (pc := 9) C dX1_bestDig_9 (by decide) rfl ?_
  refine pb_iconst (v := 1) (pc := 11) C dX1_bestDig_11 pb_kI_1 ?_
  refine pb_istore (lv' := [(6, .int 1), (4, .long r6), (3, .int 0), (0, .ref a_p1), (1, .int p2), (2, .ref a_p3)]) (pc := 12) C dX1_bestDig_12 (by decide) rfl ?_
  obtain ⟨z14, hz14, hk14⟩ := pb_bind hf
  have E14 : ∀ (e14_3 : Int32) (e14_4 : Int64) (e14_6 : Int32), fX1_bestDig_E14 e14_3 e14_4 e14_6 = some out → pb_V p l e rmX1_bestDig s m (([.ref a_p1, .int p2, .ref a_p3] : List Value).toArray) below meth c 9 (dC, dI) vwCl A 0 0 (pb_MQ below (([.ref a_p1, .int p2, .ref a_p3] : List Value).toArray) s (dC, dI) vwCl (wwX1_bestDig cyB cyI cyJ cyZ cyS a_p1 a_p1_cells a_p3 a_p3_open a_p3_weight w_p1 m_p1 n_p1 c_p1_size c_p1_cells c_p3_total c_p3_stale c_p3_weight) (wwX1_bestDig cyB cyI cyJ cyZ cyS a_p1 a_p1_cells a_p3 a_p3_open a_p3_weight w_p1 m_p1 n_p1 c_p1_size c_p1_cells c_p3_total c_p3_stale c_p3_weight) (some (.int out)) A) (wwX1_bestDig cyB cyI cyJ cyZ cyS a_p1 a_p1_cells a_p3 a_p3_open a_p3_weight w_p1 m_p1 n_p1 c_p1_size c_p1_cells c_p3_total c_p3_stale c_p3_weight) [(3, .int e14_3)] [] 52 := by
    intro e14_3 e14_4 e14_6 hf
    unfold fX1_bestDig_E14 at hf
    refine pb_iload_n (pc := 52) C dX1_bestDig_52 rfl 0 rfl ?_
    obtain rfl := Option.some.inj hf
    exact pb_iret (pc := 53) C hr hlk hA dX1_bestDig_53
  have L14 : ∀ (n : Nat) (l14_3 : Int32) (l14_4 : Int64) (l14_6 : Int32), pb_lp (fun y => fX1_bestDig_L14 w_p1 m_p1 n_p1 c_p1_size c_p1_cells c_p3_weight p2 y.1 y.2.1 y.2.2) n (l14_3, l14_4, l14_6) = some z14 → pb_V p l e rmX1_bestDig s m (([.ref a_p1, .int p2, .ref a_p3] : List Value).toArray) below meth c 9 (dC, dI) vwCl A 0 0 (pb_MQ below (([.ref a_p1, .int p2, .ref a_p3] : List Value).toArray) s (dC, dI) vwCl (wwX1_bestDig cyB cyI cyJ cyZ cyS a_p1 a_p1_cells a_p3 a_p3_open a_p3_weight w_p1 m_p1 n_p1 c_p1_size c_p1_cells c_p3_total c_p3_stale c_p3_weight) (wwX1_bestDig cyB cyI cyJ cyZ cyS a_p1 a_p1_cells a_p3 a_p3_open a_p3_weight w_p1 m_p1 n_p1 c_p1_size c_p1_cells c_p3_total c_p3_stale c_p3_weight) (some (.int out)) A) (wwX1_bestDig cyB cyI cyJ cyZ cyS a_p1 a_p1_cells a_p3 a_p3_open a_p3_weight w_p1 m_p1 n_p1 c_p1_size c_p1_cells c_p3_total c_p3_stale c_p3_weight) [(0, .ref a_p1), (1, .int p2), (2, .ref a_p3), (3, .int l14_3), (4, .long l14_4), (6, .int l14_6)] [] 14 := by
    intro n
    induction n with
    | zero => intro l14_3 l14_4 l14_6 hf; exact (pb_lp_zero hf).elim
    | succ n ih14 =>
      intro l14_3 l14_4 l14_6 hf
      obtain ⟨y14, hf, hl14⟩ := pb_lp_succ hf
      have hf : fX1_bestDig_L14 w_p1 m_p1 n_p1 c_p1_size c_p1_cells c_p3_weight p2 l14_3 l14_4 l14_6 = some y14 := hf
      unfold fX1_bestDig_L14 at hf
      refine pb_iload (pc := 14) C dX1_bestDig_14 5 rfl ?_
      refine pb_bipush (v := 7) (pc := 16) C dX1_bestDig_16 pb_kB_7 ?_
      refine pb_icmp_ge (pc := 18) (tgt := 52) C dX1_bestDig_18 (by decide) (fun hc18 => ?_) (fun hc18 => ?_)
      · have hf := pb_pos hf hc18
        obtain rfl := Option.some.inj hf
        obtain rfl := pb_esc hl14
        refine pb_sub [3] rfl ?_
        exact E14 l14_3 l14_4 l14_6 hk14
      · have hf := pb_neg hf hc18
        refine pb_aload_n (pc := 21) C dX1_bestDig_21 rfl 0 rfl ?_
        refine pb_iload_n (pc := 22) C dX1_bestDig_22 rfl 1 rfl ?_
        refine pb_iload (pc := 23) C dX1_bestDig_23 5 rfl ?_
        refine pb_aload_n (pc := 25) C dX1_bestDig_25 rfl 2 rfl ?_
        obtain ⟨r26, hr26, hf⟩ := pb_bind hf
        refine pb_callS (pc := 26) (n0 := 4) (ws' := (wwX1_bestDig cyB cyI cyJ cyZ cyS a_p1 a_p1_cells a_p3 a_p3_open a_p3_weight w_p1 m_p1 n_p1 c_p1_size c_p1_cells c_p3_total c_p3_stale c_p3_weight)) (rest := []) (st2 := [.long r26]) C (kcX1_weighedWorth l dC dI cyB cyI cyJ cyZ cyS a_p1 a_p1_cells a_p3 a_p3_open a_p3_weight w_p1 m_p1 n_p1 c_p1_size c_p1_cells c_p3_total c_p3_stale c_p3_weight p2 l14_6 r26 hr26) pb_NW_b (pb_NW_x hX) (va_cwS 4 C.1.2.2.2.2 gX1_bestDig_X1_weighedWorth rfl rfl rfl kdS_X1_weighedWorth ⟨Nat.le_of_ble_eq_true rfl, Nat.le_of_ble_eq_true rfl⟩) [0, 1, 2, 3] [] rfl rfl trivial rfl (by decide +kernel) (adl := [a_p1, a_p1_cells, a_p3, a_p3_weight]) rfl rfl rfl rfl rfl (Nat.le_of_ble_eq_true rfl) ⟨Nat.le_refl _, Nat.le_refl _⟩ dX1_bestDig_26 rfl ?_
        refine pb_lstore (lv' := [(7, .long r26), (0, .ref a_p1), (1, .int p2), (2, .ref a_p3), (3, .int l14_3), (4, .long l14_4), (6, .int l14_6)]) (pc := 29) C dX1_bestDig_29 (by decide) rfl ?_
        refine pb_lload (pc := 31) C dX1_bestDig_31 0 rfl ?_
        refine pb_lload (pc := 33) C dX1_bestDig_33 5 rfl ?_
        refine pb_lif_le (pc := 35) (tgt := 46) C dX1_bestDig_35 dX1_bestDig_36 (by decide) (fun hc35 => ?_) (fun hc35 => ?_)
        · have hf := pb_pos hf hc35
          refine pb_iinc (v := l14_6 + 1) (lv' := [(6, .int (l14_6 + 1)), (7, .long r26), (0, .ref a_p1), (1, .int p2), (2, .ref a_p3), (3, .int l14_3), (4, .long l14_4)]) (pc := 46) C dX1_bestDig_46 6 rfl (pb_inc pb_kI_1 rfl) (by decide) rfl ?_
          refine pb_goto (pc := 49) (tgt := 14) C dX1_bestDig_49 (by decide) ?_
          obtain rfl := Option.some.inj hf
          refine pb_sub [2, 3, 4, 5, 6, 0] rfl ?_
          have hl14 := pb_inl hl14
          exact ih14 l14_3 l14_4 (l14_6 + 1) hl14
        · have hf := pb_neg hf hc35
          refine pb_lload (pc := 39) C dX1_bestDig_39 0 rfl ?_
          refine pb_lstore (lv' := [(4, .long r26), (7, .long r26), (0, .ref a_p1), (1, .int p2), (2, .ref a_p3), (3, .int l14_3), (6, .int l14_6)]) (pc := 41) C dX1_bestDig_41 (by decide) rfl ?_
          refine pb_iload (pc := 43) C dX1_bestDig_43 6 rfl ?_
          refine pb_istore_n (lv' := [(3, .int l14_6), (4, .long r26), (7, .long r26), (0, .ref a_p1), (1, .int p2), (2, .ref a_p3), (6, .int l14_6)]) (pc := 45) C dX1_bestDig_45 rfl (by decide) rfl ?_
          refine pb_iinc (v := l14_6 + 1) (lv' := [(6, .int (l14_6 + 1)), (3, .int l14_6), (4, .long r26), (7, .long r26), (0, .ref a_p1), (1, .int p2), (2, .ref a_p3)]) (pc := 46) C dX1_bestDig_46 6 rfl (pb_inc pb_kI_1 rfl) (by decide) rfl ?_
          refine pb_goto (pc := 49) (tgt := 14) C dX1_bestDig_49 (by decide) ?_
          obtain rfl := Option.some.inj hf
          refine pb_sub [4, 5, 6, 1, 2, 0] rfl ?_
          have hl14 := pb_inl hl14
          exact ih14 l14_6 r26 (l14_6 + 1) hl14
  refine pb_sub [3, 4, 5, 2, 1, 0] rfl ?_
  exact L14 pb_FU 0 r6 1 hz14
def rmX2_inTheWay : Room := { frames := 2, cells := 0, slots := 0, locals := 44 }
def wwX2_inTheWay (cyB cyI cyJ cyZ cyS : ClassId) (a_p1 a_p1_cells : Nat) (w_p1 : Int32) (m_p1 : Int32) (n_p1 : Nat) (c_p1_size : Int32) (c_p1_cells : (Nat → Int32)) : va_W := [(a_p1, .inr (6, [.int w_p1, .int m_p1, .ref a_p1_cells, .int c_p1_size])), (a_p1_cells, .inl (cyI, n_p1, .inl c_p1_cells))]
theorem hnX2_inTheWay_X6 : ∀ w ∈ wsX60, w ∈ wsX2_inTheWay := fun _ h => List.mem_cons_of_mem _ (List.mem_append_right _ h)
set_option maxHeartbeats 4000000 in
set_option maxRecDepth 100000 in
theorem kcX2_inTheWay (l : Launch) (dC : Nat → ClassId) (dI : Nat → Nat → Nat) (cyB cyI cyJ cyZ cyS : ClassId) (a_p1 a_p1_cells : Nat) (w_p1 : Int32) (m_p1 : Int32) (n_p1 : Nat) (c_p1_size : Int32) (c_p1_cells : (Nat → Int32)) (p2 : Int32) (out : Int32) (hf : fX2_inTheWay w_p1 m_p1 n_p1 c_p1_size c_p1_cells p2 = some out) : pb_K l yX2_inTheWay wsX2_inTheWay rmX2_inTheWay (dC, dI) vwCl (pb_tys cyB cyI cyJ cyZ cyS) pb_NW [.ref a_p1, .int p2] (wwX2_inTheWay cyB cyI cyJ cyZ cyS a_p1 a_p1_cells w_p1 m_p1 n_p1 c_p1_size c_p1_cells) (wwX2_inTheWay cyB cyI cyJ cyZ cyS a_p1 a_p1_cells w_p1 m_p1 n_p1 c_p1_size c_p1_cells) (some (.int out)) := by
  unfold fX2_inTheWay at hf
  refine pb_K.ofV (cc := cX2_inTheWay) (maxL := 4) (ret := (some .int)) (lv0 := [(0, .ref a_p1), (1, .int p2)]) (by decide) rfl (Nat.le_of_ble_eq_true rfl) rfl ?_
  intro p e s m below meth c A C hX hr hlk hA
  refine pb_iconst (v := 0) (pc := 0) C dX2_inTheWay_0 pb_kI_0 ?_
  refine pb_istore_n (lv' := [(2, .int 0), (0, .ref a_p1), (1, .int p2)]) (pc := 1) C dX2_inTheWay_1 rfl (by decide) rfl ?_
  refine pb_iconst (v := 0) (pc := 2) C dX2_inTheWay_2 pb_kI_0 ?_
  refine pb_istore_n (lv' := [(3, .int 0), (2, .int 0), (0, .ref a_p1), (1, .int p2)]) (pc := 3) C dX2_inTheWay_3 rfl (by decide) rfl ?_
  obtain ⟨z4, hz4, hk4⟩ := pb_bind hf
  have E4 : ∀ (e4_2 : Int32) (e4_3 : Int32), fX2_inTheWay_E4 e4_2 e4_3 = some out → pb_V p l e rmX2_inTheWay s m (([.ref a_p1, .int p2] : List Value).toArray) below meth c 4 (dC, dI) vwCl A 0 0 (pb_MQ below (([.ref a_p1, .int p2] : List Value).toArray) s (dC, dI) vwCl (wwX2_inTheWay cyB cyI cyJ cyZ cyS a_p1 a_p1_cells w_p1 m_p1 n_p1 c_p1_size c_p1_cells) (wwX2_inTheWay cyB cyI cyJ cyZ cyS a_p1 a_p1_cells w_p1 m_p1 n_p1 c_p1_size c_p1_cells) (some (.int out)) A) (wwX2_inTheWay cyB cyI cyJ cyZ cyS a_p1 a_p1_cells w_p1 m_p1 n_p1 c_p1_size c_p1_cells) [(2, .int e4_2)] [] 49 := by
    intro e4_2 e4_3 hf
    unfold fX2_inTheWay_E4 at hf
    refine pb_iload_n (pc := 49) C dX2_inTheWay_49 rfl 0 rfl ?_
    obtain rfl := Option.some.inj hf
    exact pb_iret (pc := 50) C hr hlk hA dX2_inTheWay_50
  have L4 : ∀ (n : Nat) (l4_2 : Int32) (l4_3 : Int32), pb_lp (fun y => fX2_inTheWay_L4 w_p1 m_p1 n_p1 c_p1_size c_p1_cells p2 y.1 y.2) n (l4_2, l4_3) = some z4 → pb_V p l e rmX2_inTheWay s m (([.ref a_p1, .int p2] : List Value).toArray) below meth c 4 (dC, dI) vwCl A 0 0 (pb_MQ below (([.ref a_p1, .int p2] : List Value).toArray) s (dC, dI) vwCl (wwX2_inTheWay cyB cyI cyJ cyZ cyS a_p1 a_p1_cells w_p1 m_p1 n_p1 c_p1_size c_p1_cells) (wwX2_inTheWay cyB cyI cyJ cyZ cyS a_p1 a_p1_cells w_p1 m_p1 n_p1 c_p1_size c_p1_cells) (some (.int out)) A) (wwX2_inTheWay cyB cyI cyJ cyZ cyS a_p1 a_p1_cells w_p1 m_p1 n_p1 c_p1_size c_p1_cells) [(0, .ref a_p1), (1, .int p2), (2, .int l4_2), (3, .int l4_3)] [] 4 := by
    intro n
    induction n with
    | zero => intro l4_2 l4_3 hf; exact (pb_lp_zero hf).elim
    | succ n ih4 =>
      intro l4_2 l4_3 hf
      obtain ⟨y4, hf, hl4⟩ := pb_lp_succ hf
      have hf : fX2_inTheWay_L4 w_p1 m_p1 n_p1 c_p1_size c_p1_cells p2 l4_2 l4_3 = some y4 := hf
      unfold fX2_inTheWay_L4 at hf
      refine pb_iload_n (pc := 4) C dX2_inTheWay_4 rfl 3 rfl ?_
      refine pb_aload_n (pc := 5) C dX2_inTheWay_5 rfl 0 rfl ?_
      refine pb_get (pc := 6) C hnX2_inTheWay_X6 0 rfl rfl 3 (by decide) (List.mem_of_getElem? (i := 1) rfl) rfl rfl dX2_inTheWay_6 ?_
      refine pb_icmp_ge (pc := 9) (tgt := 49) C dX2_inTheWay_9 (by decide) (fun hc9 => ?_) (fun hc9 => ?_)
      · have hf := pb_pos hf hc9
        obtain rfl := Option.some.inj hf
        obtain rfl := pb_esc hl4
        refine pb_sub [2] rfl ?_
        exact E4 l4_2 l4_3 hk4
      · have hf := pb_neg hf hc9
        refine pb_iload_n (pc := 12) C dX2_inTheWay_12 rfl 1 rfl ?_
        refine pb_aload_n (pc := 13) C dX2_inTheWay_13 rfl 0 rfl ?_
        refine pb_iload_n (pc := 14) C dX2_inTheWay_14 rfl 3 rfl ?_
        refine pb_iconst (v := 0) (pc := 15) C dX2_inTheWay_15 pb_kI_0 ?_
        obtain ⟨r16, hr16, hf⟩ := pb_bind hf
        refine pb_callV (pc := 16) (n0 := 2) (ws' := (wwX2_inTheWay cyB cyI cyJ cyZ cyS a_p1 a_p1_cells w_p1 m_p1 n_p1 c_p1_size c_p1_cells)) (rest := [.int p2]) (st2 := [.int r16, .int p2]) C (kcX6_cell l dC dI cyB cyI cyJ cyZ cyS a_p1 a_p1_cells w_p1 m_p1 n_p1 c_p1_size c_p1_cells l4_3 0 r16 hr16) pb_NW_b (pb_NW_x hX) (cwV 2 C.1.2.2.2.2 gX2_inTheWay_X6_cell rfl rfl rfl kdV_X6_cell ⟨Nat.le_of_ble_eq_true rfl, Nat.le_of_ble_eq_true rfl⟩) 0 rfl rfl [0, 1] [] rfl rfl trivial rfl (by decide +kernel) (adl := [a_p1, a_p1_cells]) rfl rfl rfl rfl rfl (Nat.le_of_ble_eq_true rfl) ⟨Nat.le_refl _, Nat.le_refl _⟩ dX2_inTheWay_16 rfl ?_
        refine pb_aload_n (pc := 19) C dX2_inTheWay_19 rfl 0 rfl ?_
        refine pb_iload_n (pc := 20) C dX2_inTheWay_20 rfl 3 rfl ?_
        refine pb_iconst (v := 1) (pc := 21) C dX2_inTheWay_21 pb_kI_1 ?_
        obtain ⟨r22, hr22, hf⟩ := pb_bind hf
        refine pb_callV (pc := 22) (n0 := 2) (ws' := (wwX2_inTheWay cyB cyI cyJ cyZ cyS a_p1 a_p1_cells w_p1 m_p1 n_p1 c_p1_size c_p1_cells)) (rest := [.int r16, .int p2]) (st2 := [.int r22, .int r16, .int p2]) C (kcX6_cell l dC dI cyB cyI cyJ cyZ cyS a_p1 a_p1_cells w_p1 m_p1 n_p1 c_p1_size c_p1_cells l4_3 1 r22 hr22) pb_NW_b (pb_NW_x hX) (cwV 2 C.1.2.2.2.2 gX2_inTheWay_X6_cell rfl rfl rfl kdV_X6_cell ⟨Nat.le_of_ble_eq_true rfl, Nat.le_of_ble_eq_true rfl⟩) 0 rfl rfl [0, 1] [] rfl rfl trivial rfl (by decide +kernel) (adl := [a_p1, a_p1_cells]) rfl rfl rfl rfl rfl (Nat.le_of_ble_eq_true rfl) ⟨Nat.le_refl _, Nat.le_refl _⟩ dX2_inTheWay_22 rfl ?_
        refine pb_aload_n (pc := 25) C dX2_inTheWay_25 rfl 0 rfl ?_
        refine pb_iload_n (pc := 26) C dX2_inTheWay_26 rfl 3 rfl ?_
        refine pb_iconst (v := 2) (pc := 27) C dX2_inTheWay_27 pb_kI_2 ?_
        obtain ⟨r28, hr28, hf⟩ := pb_bind hf
        refine pb_callV (pc := 28) (n0 := 2) (ws' := (wwX2_inTheWay cyB cyI cyJ cyZ cyS a_p1 a_p1_cells w_p1 m_p1 n_p1 c_p1_size c_p1_cells)) (rest := [.int r22, .int r16, .int p2]) (st2 := [.int r28, .int r22, .int r16, .int p2]) C (kcX6_cell l dC dI cyB cyI cyJ cyZ cyS a_p1 a_p1_cells w_p1 m_p1 n_p1 c_p1_size c_p1_cells l4_3 2 r28 hr28) pb_NW_b (pb_NW_x hX) (cwV 2 C.1.2.2.2.2 gX2_inTheWay_X6_cell rfl rfl rfl kdV_X6_cell ⟨Nat.le_of_ble_eq_true rfl, Nat.le_of_ble_eq_true rfl⟩) 0 rfl rfl [0, 1] [] rfl rfl trivial rfl (by decide +kernel) (adl := [a_p1, a_p1_cells]) rfl rfl rfl rfl rfl (Nat.le_of_ble_eq_true rfl) ⟨Nat.le_refl _, Nat.le_refl _⟩ dX2_inTheWay_28 rfl ?_
        obtain ⟨r31, hr31, hf⟩ := pb_bind hf
        refine pb_callSN (host := "PastBets") (pc := 31) (n0 := 2) (ws' := (wwX2_inTheWay cyB cyI cyJ cyZ cyS a_p1 a_p1_cells w_p1 m_p1 n_p1 c_p1_size c_p1_cells)) (rest := []) (st2 := [.int r31]) C (kcX7_shareOfTen l dC dI cyB cyI cyJ cyZ cyS p2 r16 r22 r28 r31 hr31) pb_NW_b (pb_NW_x hX) ⟨va_cnB 4 C.1.2.2.2.2 gX2_inTheWay_X7_shareOfTen_n61 rfl rfl rfl hX.2.2.2.2.2.2.2.1 (C.1.2.2.2.2 _ (List.mem_of_getElem? (i := 11) rfl)) kdS_X7_shareOfTen ⟨Nat.le_of_ble_eq_true rfl, Nat.le_of_ble_eq_true rfl⟩, C.1.2.2.2.2 _ (List.mem_of_getElem? (i := 10) rfl), trivial⟩ [] [0, 1] rfl rfl ⟨⟨_, rfl, rfl⟩, ⟨⟨_, rfl, rfl⟩, trivial⟩⟩ rfl (by decide +kernel) (adl := []) rfl rfl rfl rfl rfl (Nat.le_of_ble_eq_true rfl) ⟨Nat.le_refl _, Nat.le_refl _⟩ dX2_inTheWay_31 rfl ?_
        refine pb_if_ne (pc := 34) (tgt := 43) C dX2_inTheWay_34 (by decide) (fun hc34 => ?_) (fun hc34 => ?_)
        · have hf := pb_neg hf hc34
          refine pb_iinc (v := l4_3 + 1) (lv' := [(3, .int (l4_3 + 1)), (0, .ref a_p1), (1, .int p2), (2, .int l4_2)]) (pc := 43) C dX2_inTheWay_43 3 rfl (pb_inc pb_kI_1 rfl) (by decide) rfl ?_
          refine pb_goto (pc := 46) (tgt := 4) C dX2_inTheWay_46 (by decide) ?_
          obtain rfl := Option.some.inj hf
          refine pb_sub [1, 2, 3, 0] rfl ?_
          have hl4 := pb_inl hl4
          exact ih4 l4_2 (l4_3 + 1) hl4
        · have hf := pb_pos hf hc34
          refine pb_iload_n (pc := 37) C dX2_inTheWay_37 rfl 2 rfl ?_
          refine pb_iconst (v := 1) (pc := 38) C dX2_inTheWay_38 pb_kI_1 ?_
          refine pb_iload_n (pc := 39) C dX2_inTheWay_39 rfl 3 rfl ?_
          refine pb_ishl (pc := 40) C dX2_inTheWay_40 ?_
          refine pb_ior (pc := 41) C dX2_inTheWay_41 ?_
          obtain ⟨x42, ex42, hf⟩ := pb_bind hf
          have ex42 := Option.some.inj ex42
          refine pb_topi ex42 ?_
          refine pb_istore_n (lv' := [(2, .int x42), (0, .ref a_p1), (1, .int p2), (3, .int l4_3)]) (pc := 42) C dX2_inTheWay_42 rfl (by decide) rfl ?_
          refine pb_iinc (v := l4_3 + 1) (lv' := [(3, .int (l4_3 + 1)), (2, .int x42), (0, .ref a_p1), (1, .int p2)]) (pc := 43) C dX2_inTheWay_43 3 rfl (pb_inc pb_kI_1 rfl) (by decide) rfl ?_
          refine pb_goto (pc := 46) (tgt := 4) C dX2_inTheWay_46 (by decide) ?_
          obtain rfl := Option.some.inj hf
          refine pb_sub [2, 3, 1, 0] rfl ?_
          have hl4 := pb_inl hl4
          exact ih4 x42 (l4_3 + 1) hl4
  refine pb_sub [2, 3, 1, 0] rfl ?_
  exact L4 pb_FU 0 0 hz4
