def rmX8_in : Room := { frames := 0, cells := 0, slots := 0, locals := 0 }
def wwX8_in (cyB cyI cyJ cyZ cyS : ClassId) : va_W := []
set_option maxHeartbeats 4000000 in
set_option maxRecDepth 100000 in
theorem kcX8_in (l : Launch) (dC : Nat → ClassId) (dI : Nat → Nat → Nat) (cyB cyI cyJ cyZ cyS : ClassId) (p1 : Int64) (p2 : Int64) (p3 : Int64) (out : Int32) (hf : fX8_in p1 p2 p3 = some out) : pb_K l yX8_in wsX8_in rmX8_in (dC, dI) vwCl (pb_tys cyB cyI cyJ cyZ cyS) pb_NW [.long p1, .long p2, .long p3] (wwX8_in cyB cyI cyJ cyZ cyS) (wwX8_in cyB cyI cyJ cyZ cyS) (some (.int out)) := by
  unfold fX8_in at hf
  refine pb_K.ofV (cc := cX8_in) (maxL := 6) (ret := (some .boolean)) (lv0 := [(0, .long p1), (2, .long p2), (4, .long p3)]) (by decide) rfl (Nat.le_of_ble_eq_true rfl) rfl ?_
  intro p e s m below meth c A C hX hr hlk hA
  refine pb_lload_n (pc := 0) C dX8_in_0 rfl 0 rfl ?_
  refine pb_lload_n (pc := 1) C dX8_in_1 rfl 1 rfl ?_
  refine pb_lif_lt (pc := 2) (tgt := 17) C dX8_in_2 dX8_in_3 (by decide) (fun hc2 => ?_) (fun hc2 => ?_)
  · have hf := pb_pos hf hc2
    refine pb_iconst (v := 0) (pc := 17) C dX8_in_17 pb_kI_0 ?_
    obtain rfl := Option.some.inj hf
    exact pb_zret (pc := 18) C hr hlk hA pb_isB0 dX8_in_18
  · have hf := pb_neg hf hc2
    refine pb_lload_n (pc := 6) C dX8_in_6 rfl 0 rfl ?_
    refine pb_lload (pc := 7) C dX8_in_7 2 rfl ?_
    refine pb_lif_gt (pc := 9) (tgt := 17) C dX8_in_9 dX8_in_10 (by decide) (fun hc9 => ?_) (fun hc9 => ?_)
    · have hf := pb_pos hf hc9
      refine pb_iconst (v := 0) (pc := 17) C dX8_in_17 pb_kI_0 ?_
      obtain rfl := Option.some.inj hf
      exact pb_zret (pc := 18) C hr hlk hA pb_isB0 dX8_in_18
    · have hf := pb_neg hf hc9
      refine pb_iconst (v := 1) (pc := 13) C dX8_in_13 pb_kI_1 ?_
      refine pb_goto (pc := 14) (tgt := 18) C dX8_in_14 (by decide) ?_
      obtain rfl := Option.some.inj hf
      exact pb_zret (pc := 18) C hr hlk hA pb_isB1 dX8_in_18
def rmX8_has : Room := { frames := 0, cells := 0, slots := 0, locals := 0 }
def wwX8_has (cyB cyI cyJ cyZ cyS : ClassId) : va_W := []
set_option maxHeartbeats 4000000 in
set_option maxRecDepth 100000 in
theorem kcX8_has (l : Launch) (dC : Nat → ClassId) (dI : Nat → Nat → Nat) (cyB cyI cyJ cyZ cyS : ClassId) (p1 : Int32) (p2 : Int32) (out : Int32) (hf : fX8_has p1 p2 = some out) : pb_K l yX8_has wsX8_has rmX8_has (dC, dI) vwCl (pb_tys cyB cyI cyJ cyZ cyS) pb_NW [.int p1, .int p2] (wwX8_has cyB cyI cyJ cyZ cyS) (wwX8_has cyB cyI cyJ cyZ cyS) (some (.int out)) := by
  unfold fX8_has at hf
  refine pb_K.ofV (cc := cX8_has) (maxL := 2) (ret := (some .boolean)) (lv0 := [(0, .int p1), (1, .int p2)]) (by decide) rfl (Nat.le_of_ble_eq_true rfl) rfl ?_
  intro p e s m below meth c A C hX hr hlk hA
  refine pb_iload_n (pc := 0) C dX8_has_0 rfl 0 rfl ?_
  refine pb_iload_n (pc := 1) C dX8_has_1 rfl 1 rfl ?_
  refine pb_ishr (pc := 2) C dX8_has_2 ?_
  refine pb_iconst (v := 1) (pc := 3) C dX8_has_3 pb_kI_1 ?_
  refine pb_iand (pc := 4) C dX8_has_4 ?_
  refine pb_iconst (v := 1) (pc := 5) C dX8_has_5 pb_kI_1 ?_
  refine pb_icmp_ne (pc := 6) (tgt := 13) C dX8_has_6 (by decide) (fun hc6 => ?_) (fun hc6 => ?_)
  · have hf := pb_neg hf hc6
    refine pb_iconst (v := 0) (pc := 13) C dX8_has_13 pb_kI_0 ?_
    obtain rfl := Option.some.inj hf
    exact pb_zret (pc := 14) C hr hlk hA pb_isB0 dX8_has_14
  · have hf := pb_pos hf hc6
    refine pb_iconst (v := 1) (pc := 9) C dX8_has_9 pb_kI_1 ?_
    refine pb_goto (pc := 10) (tgt := 14) C dX8_has_10 (by decide) ?_
    obtain rfl := Option.some.inj hf
    exact pb_zret (pc := 14) C hr hlk hA pb_isB1 dX8_has_14
def rmX8_ones : Room := { frames := 0, cells := 0, slots := 0, locals := 0 }
def wwX8_ones (cyB cyI cyJ cyZ cyS : ClassId) : va_W := []
set_option maxHeartbeats 4000000 in
set_option maxRecDepth 100000 in
theorem kcX8_ones (l : Launch) (dC : Nat → ClassId) (dI : Nat → Nat → Nat) (cyB cyI cyJ cyZ cyS : ClassId) (p1 : Int32) (out : Int32) (hf : fX8_ones p1 = some out) : pb_K l yX8_ones wsX8_ones rmX8_ones (dC, dI) vwCl (pb_tys cyB cyI cyJ cyZ cyS) pb_NW [.int p1] (wwX8_ones cyB cyI cyJ cyZ cyS) (wwX8_ones cyB cyI cyJ cyZ cyS) (some (.int out)) := by
  unfold fX8_ones at hf
  refine pb_K.ofV (cc := cX8_ones) (maxL := 3) (ret := (some .int)) (lv0 := [(0, .int p1)]) (by decide) rfl (Nat.le_of_ble_eq_true rfl) rfl ?_
  intro p e s m below meth c A C hX hr hlk hA
  refine pb_iconst (v := 0) (pc := 0) C dX8_ones_0 pb_kI_0 ?_
  refine pb_istore_n (lv' := [(1, .int 0), (0, .int p1)]) (pc := 1) C dX8_ones_1 rfl (by decide) rfl ?_
  refine pb_iconst (v := 0) (pc := 2) C dX8_ones_2 pb_kI_0 ?_
  refine pb_istore_n (lv' := [(2, .int 0), (1, .int 0), (0, .int p1)]) (pc := 3) C dX8_ones_3 rfl (by decide) rfl ?_
  obtain ⟨z4, hz4, hk4⟩ := pb_bind hf
  have E4 : ∀ (e4_1 : Int32) (e4_2 : Int32), fX8_ones_E4 e4_1 e4_2 = some out → pb_V p l e rmX8_ones s m (([.int p1] : List Value).toArray) below meth c 3 (dC, dI) vwCl A 0 0 (pb_MQ below (([.int p1] : List Value).toArray) s (dC, dI) vwCl (wwX8_ones cyB cyI cyJ cyZ cyS) (wwX8_ones cyB cyI cyJ cyZ cyS) (some (.int out)) A) (wwX8_ones cyB cyI cyJ cyZ cyS) [(1, .int e4_1)] [] 24 := by
    intro e4_1 e4_2 hf
    unfold fX8_ones_E4 at hf
    refine pb_iload_n (pc := 24) C dX8_ones_24 rfl 0 rfl ?_
    obtain rfl := Option.some.inj hf
    exact pb_iret (pc := 25) C hr hlk hA dX8_ones_25
  have L4 : ∀ (n : Nat) (l4_1 : Int32) (l4_2 : Int32), pb_lp (fun y => fX8_ones_L4 p1 y.1 y.2) n (l4_1, l4_2) = some z4 → pb_V p l e rmX8_ones s m (([.int p1] : List Value).toArray) below meth c 3 (dC, dI) vwCl A 0 0 (pb_MQ below (([.int p1] : List Value).toArray) s (dC, dI) vwCl (wwX8_ones cyB cyI cyJ cyZ cyS) (wwX8_ones cyB cyI cyJ cyZ cyS) (some (.int out)) A) (wwX8_ones cyB cyI cyJ cyZ cyS) [(0, .int p1), (1, .int l4_1), (2, .int l4_2)] [] 4 := by
    intro n
    induction n with
    | zero => intro l4_1 l4_2 hf; exact (pb_lp_zero hf).elim
    | succ n ih4 =>
      intro l4_1 l4_2 hf
      obtain ⟨y4, hf, hl4⟩ := pb_lp_succ hf
      have hf : fX8_ones_L4 p1 l4_1 l4_2 = some y4 := hf
      unfold fX8_ones_L4 at hf
      refine pb_iload_n (pc := 4) C dX8_ones_4 rfl 2 rfl ?_
      refine pb_bipush (v := 10) (pc := 5) C dX8_ones_5 pb_kB_10 ?_
      refine pb_icmp_ge (pc := 7) (tgt := 24) C dX8_ones_7 (by decide) (fun hc7 => ?_) (fun hc7 => ?_)
      · have hf := pb_pos hf hc7
        obtain rfl := Option.some.inj hf
        obtain rfl := pb_esc hl4
        refine pb_sub [1] rfl ?_
        exact E4 l4_1 l4_2 hk4
      · have hf := pb_neg hf hc7
        refine pb_iload_n (pc := 10) C dX8_ones_10 rfl 1 rfl ?_
        refine pb_iload_n (pc := 11) C dX8_ones_11 rfl 0 rfl ?_
        refine pb_iload_n (pc := 12) C dX8_ones_12 rfl 2 rfl ?_
        refine pb_ishr (pc := 13) C dX8_ones_13 ?_
        refine pb_iconst (v := 1) (pc := 14) C dX8_ones_14 pb_kI_1 ?_
        refine pb_iand (pc := 15) C dX8_ones_15 ?_
        refine pb_iadd (pc := 16) C dX8_ones_16 ?_
        obtain ⟨x17, ex17, hf⟩ := pb_bind hf
        have ex17 := Option.some.inj ex17
        refine pb_topi ex17 ?_
        refine pb_istore_n (lv' := [(1, .int x17), (0, .int p1), (2, .int l4_2)]) (pc := 17) C dX8_ones_17 rfl (by decide) rfl ?_
        refine pb_iinc (v := l4_2 + 1) (lv' := [(2, .int (l4_2 + 1)), (1, .int x17), (0, .int p1)]) (pc := 18) C dX8_ones_18 2 rfl (pb_inc pb_kI_1 rfl) (by decide) rfl ?_
        refine pb_goto (pc := 21) (tgt := 4) C dX8_ones_21 (by decide) ?_
        obtain rfl := Option.some.inj hf
        refine pb_sub [2, 1, 0] rfl ?_
        have hl4 := pb_inl hl4
        exact ih4 x17 (l4_2 + 1) hl4
  refine pb_sub [2, 1, 0] rfl ?_
  exact L4 pb_FU 0 0 hz4
def rmX8_bad : Room := { frames := 0, cells := 0, slots := 0, locals := 0 }
def wwX8_bad (cyB cyI cyJ cyZ cyS : ClassId) (a_t a_t_w a_t_isKept a_t_text a_t_refused a_t_numbers a_t_weights : Nat) (c_t_texted : Int32) (c_t_above : Int64) (c_t_below : Int64) (c_t_at : Int32) (c_t_start : Int32) (c_t_isWord : Int32) (c_t_isFigures : Int32) (c_t_all : Int64) (c_t_known : Int32) (c_t_truth : Int32) (c_t_x : Int64) (c_t_h : Int64) (c_t_refused : (Nat → Int32)) : va_W := [(a_t, .inr (8, [.ref a_t_w, .ref a_t_isKept, .ref a_t_text, .int c_t_texted, .ref a_t_refused, .long c_t_above, .long c_t_below, .int c_t_at, .int c_t_start, .int c_t_isWord, .int c_t_isFigures, .ref a_t_numbers, .ref a_t_weights, .long c_t_all, .int c_t_known, .int c_t_truth, .long c_t_x, .long c_t_h])), (a_t_refused, .inl (cyI, 3, .inl c_t_refused))]
theorem hnX8_bad_X8 : ∀ w ∈ wsX80, w ∈ wsX8_bad := fun _ h => List.mem_cons_of_mem _ (List.mem_append_right _ h)
set_option maxHeartbeats 4000000 in
set_option maxRecDepth 100000 in
theorem kcX8_bad (l : Launch) (dC : Nat → ClassId) (dI : Nat → Nat → Nat) (cyB cyI cyJ cyZ cyS : ClassId) (a_t a_t_w a_t_isKept a_t_text a_t_refused a_t_numbers a_t_weights : Nat) (c_t_texted : Int32) (c_t_above : Int64) (c_t_below : Int64) (c_t_at : Int32) (c_t_start : Int32) (c_t_isWord : Int32) (c_t_isFigures : Int32) (c_t_all : Int64) (c_t_known : Int32) (c_t_truth : Int32) (c_t_x : Int64) (c_t_h : Int64) (c_t_refused : (Nat → Int32)) (out : (Int32 × (Nat → Int32))) (hf : fX8_bad c_t_refused = some out) : pb_K l yX8_bad wsX8_bad rmX8_bad (dC, dI) vwCl (pb_tys cyB cyI cyJ cyZ cyS) pb_NW [.ref a_t] (wwX8_bad cyB cyI cyJ cyZ cyS a_t a_t_w a_t_isKept a_t_text a_t_refused a_t_numbers a_t_weights c_t_texted c_t_above c_t_below c_t_at c_t_start c_t_isWord c_t_isFigures c_t_all c_t_known c_t_truth c_t_x c_t_h c_t_refused) (wwX8_bad cyB cyI cyJ cyZ cyS a_t a_t_w a_t_isKept a_t_text a_t_refused a_t_numbers a_t_weights c_t_texted c_t_above c_t_below c_t_at c_t_start c_t_isWord c_t_isFigures c_t_all c_t_known c_t_truth c_t_x c_t_h out.2) (some (.int out.1)) := by
  unfold fX8_bad at hf
  refine pb_K.ofV (cc := cX8_bad) (maxL := 1) (ret := (some .int)) (lv0 := [(0, .ref a_t)]) (by decide) rfl (Nat.le_of_ble_eq_true rfl) rfl ?_
  intro p e s m below meth c A C hX hr hlk hA
  refine pb_aload_n (pc := 0) C dX8_bad_0 rfl 0 rfl ?_
  refine pb_get (pc := 1) C hnX8_bad_X8 0 rfl rfl 4 (by decide) (List.mem_of_getElem? (i := 1) rfl) rfl rfl dX8_bad_1 ?_
  refine pb_iconst (v := 0) (pc := 4) C dX8_bad_4 pb_kI_0 ?_
  refine pb_dup2_11 (pc := 5) C dX8_bad_5 rfl rfl ?_
  refine pb_iald (pc := 6) C 1 1 rfl rfl pb_ok_0_3 dX8_bad_6 ?_
  refine pb_topi (congrArg c_t_refused pb_kN_0) ?_
  refine pb_iconst (v := 1) (pc := 7) C dX8_bad_7 pb_kI_1 ?_
  refine pb_iadd (pc := 8) C dX8_bad_8 ?_
  obtain ⟨u9, eu9, hf⟩ := pb_bind hf
  have eu9 := Option.some.inj eu9
  refine pb_iast (pc := 9) (ws' := (wwX8_bad cyB cyI cyJ cyZ cyS a_t a_t_w a_t_isKept a_t_text a_t_refused a_t_numbers a_t_weights c_t_texted c_t_above c_t_below c_t_at c_t_start c_t_isWord c_t_isFigures c_t_all c_t_known c_t_truth c_t_x c_t_h u9)) C 1 1 rfl rfl pb_ok_0_3 ((congrArg (fun k => upd c_t_refused k ((c_t_refused 0) + 1)) pb_kN_0).trans eu9) rfl dX8_bad_9 ?_
  refine pb_bipush (v := (-2)) (pc := 10) C dX8_bad_10 pb_kB_m2 ?_
  obtain rfl := Option.some.inj hf
  exact pb_iret (pc := 12) C hr hlk hA dX8_bad_12
def rmX8_badAs : Room := { frames := 0, cells := 0, slots := 0, locals := 0 }
def wwX8_badAs (cyB cyI cyJ cyZ cyS : ClassId) (a_t a_t_w a_t_isKept a_t_text a_t_refused a_t_numbers a_t_weights : Nat) (c_t_texted : Int32) (c_t_above : Int64) (c_t_below : Int64) (c_t_at : Int32) (c_t_start : Int32) (c_t_isWord : Int32) (c_t_isFigures : Int32) (c_t_all : Int64) (c_t_known : Int32) (c_t_truth : Int32) (c_t_x : Int64) (c_t_h : Int64) (c_t_refused : (Nat → Int32)) : va_W := [(a_t, .inr (8, [.ref a_t_w, .ref a_t_isKept, .ref a_t_text, .int c_t_texted, .ref a_t_refused, .long c_t_above, .long c_t_below, .int c_t_at, .int c_t_start, .int c_t_isWord, .int c_t_isFigures, .ref a_t_numbers, .ref a_t_weights, .long c_t_all, .int c_t_known, .int c_t_truth, .long c_t_x, .long c_t_h])), (a_t_refused, .inl (cyI, 3, .inl c_t_refused))]
theorem hnX8_badAs_X8 : ∀ w ∈ wsX80, w ∈ wsX8_badAs := fun _ h => List.mem_cons_of_mem _ (List.mem_append_right _ h)
set_option maxHeartbeats 4000000 in
set_option maxRecDepth 100000 in
theorem kcX8_badAs (l : Launch) (dC : Nat → ClassId) (dI : Nat → Nat → Nat) (cyB cyI cyJ cyZ cyS : ClassId) (a_t a_t_w a_t_isKept a_t_text a_t_refused a_t_numbers a_t_weights : Nat) (c_t_texted : Int32) (c_t_above : Int64) (c_t_below : Int64) (c_t_at : Int32) (c_t_start : Int32) (c_t_isWord : Int32) (c_t_isFigures : Int32) (c_t_all : Int64) (c_t_known : Int32) (c_t_truth : Int32) (c_t_x : Int64) (c_t_h : Int64) (c_t_refused : (Nat → Int32)) (p1 : Int32) (out : (Int32 × (Nat → Int32))) (hf : fX8_badAs c_t_refused p1 = some out) : pb_K l yX8_badAs wsX8_badAs rmX8_badAs (dC, dI) vwCl (pb_tys cyB cyI cyJ cyZ cyS) pb_NW [.ref a_t, .int p1] (wwX8_badAs cyB cyI cyJ cyZ cyS a_t a_t_w a_t_isKept a_t_text a_t_refused a_t_numbers a_t_weights c_t_texted c_t_above c_t_below c_t_at c_t_start c_t_isWord c_t_isFigures c_t_all c_t_known c_t_truth c_t_x c_t_h c_t_refused) (wwX8_badAs cyB cyI cyJ cyZ cyS a_t a_t_w a_t_isKept a_t_text a_t_refused a_t_numbers a_t_weights c_t_texted c_t_above c_t_below c_t_at c_t_start c_t_isWord c_t_isFigures c_t_all c_t_known c_t_truth c_t_x c_t_h out.2) (some (.int out.1)) := by
  unfold fX8_badAs at hf
  refine pb_K.ofV (cc := cX8_badAs) (maxL := 2) (ret := (some .int)) (lv0 := [(0, .ref a_t), (1, .int p1)]) (by decide) rfl (Nat.le_of_ble_eq_true rfl) rfl ?_
  intro p e s m below meth c A C hX hr hlk hA
  refine pb_aload_n (pc := 0) C dX8_badAs_0 rfl 0 rfl ?_
  refine pb_get (pc := 1) C hnX8_badAs_X8 0 rfl rfl 4 (by decide) (List.mem_of_getElem? (i := 1) rfl) rfl rfl dX8_badAs_1 ?_
  refine pb_iconst (v := 0) (pc := 4) C dX8_badAs_4 pb_kI_0 ?_
  refine pb_dup2_11 (pc := 5) C dX8_badAs_5 rfl rfl ?_
  refine pb_iald (pc := 6) C 1 1 rfl rfl pb_ok_0_3 dX8_badAs_6 ?_
  refine pb_topi (congrArg c_t_refused pb_kN_0) ?_
  refine pb_iconst (v := 1) (pc := 7) C dX8_badAs_7 pb_kI_1 ?_
  refine pb_iadd (pc := 8) C dX8_badAs_8 ?_
  obtain ⟨u9, eu9, hf⟩ := pb_bind hf
  have eu9 := Option.some.inj eu9
  refine pb_iast (pc := 9) (ws' := (wwX8_badAs cyB cyI cyJ cyZ cyS a_t a_t_w a_t_isKept a_t_text a_t_refused a_t_numbers a_t_weights c_t_texted c_t_above c_t_below c_t_at c_t_start c_t_isWord c_t_isFigures c_t_all c_t_known c_t_truth c_t_x c_t_h u9)) C 1 1 rfl rfl pb_ok_0_3 ((congrArg (fun k => upd c_t_refused k ((c_t_refused 0) + 1)) pb_kN_0).trans eu9) rfl dX8_badAs_9 ?_
  refine pb_iload_n (pc := 10) C dX8_badAs_10 rfl 1 rfl ?_
  obtain rfl := Option.some.inj hf
  exact pb_iret (pc := 11) C hr hlk hA dX8_badAs_11
def rmX8_no : Room := { frames := 0, cells := 0, slots := 0, locals := 0 }
def wwX8_no (cyB cyI cyJ cyZ cyS : ClassId) (a_t a_t_w a_t_isKept a_t_text a_t_refused a_t_numbers a_t_weights : Nat) (c_t_texted : Int32) (c_t_above : Int64) (c_t_below : Int64) (c_t_at : Int32) (c_t_start : Int32) (c_t_isWord : Int32) (c_t_isFigures : Int32) (c_t_all : Int64) (c_t_known : Int32) (c_t_truth : Int32) (c_t_x : Int64) (c_t_h : Int64) (c_t_refused : (Nat → Int32)) : va_W := [(a_t, .inr (8, [.ref a_t_w, .ref a_t_isKept, .ref a_t_text, .int c_t_texted, .ref a_t_refused, .long c_t_above, .long c_t_below, .int c_t_at, .int c_t_start, .int c_t_isWord, .int c_t_isFigures, .ref a_t_numbers, .ref a_t_weights, .long c_t_all, .int c_t_known, .int c_t_truth, .long c_t_x, .long c_t_h])), (a_t_refused, .inl (cyI, 3, .inl c_t_refused))]
theorem hnX8_no_X8 : ∀ w ∈ wsX80, w ∈ wsX8_no := fun _ h => List.mem_cons_of_mem _ (List.mem_append_right _ h)
set_option maxHeartbeats 4000000 in
set_option maxRecDepth 100000 in
theorem kcX8_no (l : Launch) (dC : Nat → ClassId) (dI : Nat → Nat → Nat) (cyB cyI cyJ cyZ cyS : ClassId) (a_t a_t_w a_t_isKept a_t_text a_t_refused a_t_numbers a_t_weights : Nat) (c_t_texted : Int32) (c_t_above : Int64) (c_t_below : Int64) (c_t_at : Int32) (c_t_start : Int32) (c_t_isWord : Int32) (c_t_isFigures : Int32) (c_t_all : Int64) (c_t_known : Int32) (c_t_truth : Int32) (c_t_x : Int64) (c_t_h : Int64) (c_t_refused : (Nat → Int32)) (out : (Int32 × (Nat → Int32))) (hf : fX8_no c_t_refused = some out) : pb_K l yX8_no wsX8_no rmX8_no (dC, dI) vwCl (pb_tys cyB cyI cyJ cyZ cyS) pb_NW [.ref a_t] (wwX8_no cyB cyI cyJ cyZ cyS a_t a_t_w a_t_isKept a_t_text a_t_refused a_t_numbers a_t_weights c_t_texted c_t_above c_t_below c_t_at c_t_start c_t_isWord c_t_isFigures c_t_all c_t_known c_t_truth c_t_x c_t_h c_t_refused) (wwX8_no cyB cyI cyJ cyZ cyS a_t a_t_w a_t_isKept a_t_text a_t_refused a_t_numbers a_t_weights c_t_texted c_t_above c_t_below c_t_at c_t_start c_t_isWord c_t_isFigures c_t_all c_t_known c_t_truth c_t_x c_t_h out.2) (some (.int out.1)) := by
  unfold fX8_no at hf
  refine pb_K.ofV (cc := cX8_no) (maxL := 1) (ret := (some .int)) (lv0 := [(0, .ref a_t)]) (by decide) rfl (Nat.le_of_ble_eq_true rfl) rfl ?_
  intro p e s m below meth c A C hX hr hlk hA
  refine pb_aload_n (pc := 0) C dX8_no_0 rfl 0 rfl ?_
  refine pb_get (pc := 1) C hnX8_no_X8 0 rfl rfl 4 (by decide) (List.mem_of_getElem? (i := 1) rfl) rfl rfl dX8_no_1 ?_
  refine pb_iconst (v := 1) (pc := 4) C dX8_no_4 pb_kI_1 ?_
  refine pb_dup2_11 (pc := 5) C dX8_no_5 rfl rfl ?_
  refine pb_iald (pc := 6) C 1 1 rfl rfl pb_ok_1_3 dX8_no_6 ?_
  refine pb_topi (congrArg c_t_refused pb_kN_1) ?_
  refine pb_iconst (v := 1) (pc := 7) C dX8_no_7 pb_kI_1 ?_
  refine pb_iadd (pc := 8) C dX8_no_8 ?_
  obtain ⟨u9, eu9, hf⟩ := pb_bind hf
  have eu9 := Option.some.inj eu9
  refine pb_iast (pc := 9) (ws' := (wwX8_no cyB cyI cyJ cyZ cyS a_t a_t_w a_t_isKept a_t_text a_t_refused a_t_numbers a_t_weights c_t_texted c_t_above c_t_below c_t_at c_t_start c_t_isWord c_t_isFigures c_t_all c_t_known c_t_truth c_t_x c_t_h u9)) C 1 1 rfl rfl pb_ok_1_3 ((congrArg (fun k => upd c_t_refused k ((c_t_refused 1) + 1)) pb_kN_1).trans eu9) rfl dX8_no_9 ?_
  refine pb_bipush (v := (-3)) (pc := 10) C dX8_no_10 pb_kB_m3 ?_
  obtain rfl := Option.some.inj hf
  exact pb_iret (pc := 12) C hr hlk hA dX8_no_12
def rmX8_noAs : Room := { frames := 0, cells := 0, slots := 0, locals := 0 }
def wwX8_noAs (cyB cyI cyJ cyZ cyS : ClassId) (a_t a_t_w a_t_isKept a_t_text a_t_refused a_t_numbers a_t_weights : Nat) (c_t_texted : Int32) (c_t_above : Int64) (c_t_below : Int64) (c_t_at : Int32) (c_t_start : Int32) (c_t_isWord : Int32) (c_t_isFigures : Int32) (c_t_all : Int64) (c_t_known : Int32) (c_t_truth : Int32) (c_t_x : Int64) (c_t_h : Int64) (c_t_refused : (Nat → Int32)) : va_W := [(a_t, .inr (8, [.ref a_t_w, .ref a_t_isKept, .ref a_t_text, .int c_t_texted, .ref a_t_refused, .long c_t_above, .long c_t_below, .int c_t_at, .int c_t_start, .int c_t_isWord, .int c_t_isFigures, .ref a_t_numbers, .ref a_t_weights, .long c_t_all, .int c_t_known, .int c_t_truth, .long c_t_x, .long c_t_h])), (a_t_refused, .inl (cyI, 3, .inl c_t_refused))]
theorem hnX8_noAs_X8 : ∀ w ∈ wsX80, w ∈ wsX8_noAs := fun _ h => List.mem_cons_of_mem _ (List.mem_append_right _ h)
set_option maxHeartbeats 4000000 in
set_option maxRecDepth 100000 in
theorem kcX8_noAs (l : Launch) (dC : Nat → ClassId) (dI : Nat → Nat → Nat) (cyB cyI cyJ cyZ cyS : ClassId) (a_t a_t_w a_t_isKept a_t_text a_t_refused a_t_numbers a_t_weights : Nat) (c_t_texted : Int32) (c_t_above : Int64) (c_t_below : Int64) (c_t_at : Int32) (c_t_start : Int32) (c_t_isWord : Int32) (c_t_isFigures : Int32) (c_t_all : Int64) (c_t_known : Int32) (c_t_truth : Int32) (c_t_x : Int64) (c_t_h : Int64) (c_t_refused : (Nat → Int32)) (p1 : Int32) (out : (Int32 × (Nat → Int32))) (hf : fX8_noAs c_t_refused p1 = some out) : pb_K l yX8_noAs wsX8_noAs rmX8_noAs (dC, dI) vwCl (pb_tys cyB cyI cyJ cyZ cyS) pb_NW [.ref a_t, .int p1] (wwX8_noAs cyB cyI cyJ cyZ cyS a_t a_t_w a_t_isKept a_t_text a_t_refused a_t_numbers a_t_weights c_t_texted c_t_above c_t_below c_t_at c_t_start c_t_isWord c_t_isFigures c_t_all c_t_known c_t_truth c_t_x c_t_h c_t_refused) (wwX8_noAs cyB cyI cyJ cyZ cyS a_t a_t_w a_t_isKept a_t_text a_t_refused a_t_numbers a_t_weights c_t_texted c_t_above c_t_below c_t_at c_t_start c_t_isWord c_t_isFigures c_t_all c_t_known c_t_truth c_t_x c_t_h out.2) (some (.int out.1)) := by
  unfold fX8_noAs at hf
  refine pb_K.ofV (cc := cX8_noAs) (maxL := 2) (ret := (some .int)) (lv0 := [(0, .ref a_t), (1, .int p1)]) (by decide) rfl (Nat.le_of_ble_eq_true rfl) rfl ?_
  intro p e s m below meth c A C hX hr hlk hA
  refine pb_aload_n (pc := 0) C dX8_noAs_0 rfl 0 rfl ?_
  refine pb_get (pc := 1) C hnX8_noAs_X8 0 rfl rfl 4 (by decide) (List.mem_of_getElem? (i := 1) rfl) rfl rfl dX8_noAs_1 ?_
  refine pb_iconst (v := 1) (pc := 4) C dX8_noAs_4 pb_kI_1 ?_
  refine pb_dup2_11 (pc := 5) C dX8_noAs_5 rfl rfl ?_
  refine pb_iald (pc := 6) C 1 1 rfl rfl pb_ok_1_3 dX8_noAs_6 ?_
  refine pb_topi (congrArg c_t_refused pb_kN_1) ?_
  refine pb_iconst (v := 1) (pc := 7) C dX8_noAs_7 pb_kI_1 ?_
  refine pb_iadd (pc := 8) C dX8_noAs_8 ?_
  obtain ⟨u9, eu9, hf⟩ := pb_bind hf
  have eu9 := Option.some.inj eu9
  refine pb_iast (pc := 9) (ws' := (wwX8_noAs cyB cyI cyJ cyZ cyS a_t a_t_w a_t_isKept a_t_text a_t_refused a_t_numbers a_t_weights c_t_texted c_t_above c_t_below c_t_at c_t_start c_t_isWord c_t_isFigures c_t_all c_t_known c_t_truth c_t_x c_t_h u9)) C 1 1 rfl rfl pb_ok_1_3 ((congrArg (fun k => upd c_t_refused k ((c_t_refused 1) + 1)) pb_kN_1).trans eu9) rfl dX8_noAs_9 ?_
  refine pb_iload_n (pc := 10) C dX8_noAs_10 rfl 1 rfl ?_
  obtain rfl := Option.some.inj hf
  exact pb_iret (pc := 11) C hr hlk hA dX8_noAs_11
def rmX8_full : Room := { frames := 0, cells := 0, slots := 0, locals := 0 }
def wwX8_full (cyB cyI cyJ cyZ cyS : ClassId) (a_t a_t_w a_t_isKept a_t_text a_t_refused a_t_numbers a_t_weights : Nat) (c_t_texted : Int32) (c_t_above : Int64) (c_t_below : Int64) (c_t_at : Int32) (c_t_start : Int32) (c_t_isWord : Int32) (c_t_isFigures : Int32) (c_t_all : Int64) (c_t_known : Int32) (c_t_truth : Int32) (c_t_x : Int64) (c_t_h : Int64) (c_t_refused : (Nat → Int32)) : va_W := [(a_t, .inr (8, [.ref a_t_w, .ref a_t_isKept, .ref a_t_text, .int c_t_texted, .ref a_t_refused, .long c_t_above, .long c_t_below, .int c_t_at, .int c_t_start, .int c_t_isWord, .int c_t_isFigures, .ref a_t_numbers, .ref a_t_weights, .long c_t_all, .int c_t_known, .int c_t_truth, .long c_t_x, .long c_t_h])), (a_t_refused, .inl (cyI, 3, .inl c_t_refused))]
theorem hnX8_full_X8 : ∀ w ∈ wsX80, w ∈ wsX8_full := fun _ h => List.mem_cons_of_mem _ (List.mem_append_right _ h)
set_option maxHeartbeats 4000000 in
set_option maxRecDepth 100000 in
theorem kcX8_full (l : Launch) (dC : Nat → ClassId) (dI : Nat → Nat → Nat) (cyB cyI cyJ cyZ cyS : ClassId) (a_t a_t_w a_t_isKept a_t_text a_t_refused a_t_numbers a_t_weights : Nat) (c_t_texted : Int32) (c_t_above : Int64) (c_t_below : Int64) (c_t_at : Int32) (c_t_start : Int32) (c_t_isWord : Int32) (c_t_isFigures : Int32) (c_t_all : Int64) (c_t_known : Int32) (c_t_truth : Int32) (c_t_x : Int64) (c_t_h : Int64) (c_t_refused : (Nat → Int32)) (out : (Int32 × (Nat → Int32))) (hf : fX8_full c_t_refused = some out) : pb_K l yX8_full wsX8_full rmX8_full (dC, dI) vwCl (pb_tys cyB cyI cyJ cyZ cyS) pb_NW [.ref a_t] (wwX8_full cyB cyI cyJ cyZ cyS a_t a_t_w a_t_isKept a_t_text a_t_refused a_t_numbers a_t_weights c_t_texted c_t_above c_t_below c_t_at c_t_start c_t_isWord c_t_isFigures c_t_all c_t_known c_t_truth c_t_x c_t_h c_t_refused) (wwX8_full cyB cyI cyJ cyZ cyS a_t a_t_w a_t_isKept a_t_text a_t_refused a_t_numbers a_t_weights c_t_texted c_t_above c_t_below c_t_at c_t_start c_t_isWord c_t_isFigures c_t_all c_t_known c_t_truth c_t_x c_t_h out.2) (some (.int out.1)) := by
  unfold fX8_full at hf
  refine pb_K.ofV (cc := cX8_full) (maxL := 1) (ret := (some .int)) (lv0 := [(0, .ref a_t)]) (by decide) rfl (Nat.le_of_ble_eq_true rfl) rfl ?_
  intro p e s m below meth c A C hX hr hlk hA
  refine pb_aload_n (pc := 0) C dX8_full_0 rfl 0 rfl ?_
  refine pb_get (pc := 1) C hnX8_full_X8 0 rfl rfl 4 (by decide) (List.mem_of_getElem? (i := 1) rfl) rfl rfl dX8_full_1 ?_
  refine pb_iconst (v := 2) (pc := 4) C dX8_full_4 pb_kI_2 ?_
  refine pb_dup2_11 (pc := 5) C dX8_full_5 rfl rfl ?_
  refine pb_iald (pc := 6) C 1 1 rfl rfl pb_ok_2_3 dX8_full_6 ?_
  refine pb_topi (congrArg c_t_refused pb_kN_2) ?_
  refine pb_iconst (v := 1) (pc := 7) C dX8_full_7 pb_kI_1 ?_
  refine pb_iadd (pc := 8) C dX8_full_8 ?_
  obtain ⟨u9, eu9, hf⟩ := pb_bind hf
  have eu9 := Option.some.inj eu9
  refine pb_iast (pc := 9) (ws' := (wwX8_full cyB cyI cyJ cyZ cyS a_t a_t_w a_t_isKept a_t_text a_t_refused a_t_numbers a_t_weights c_t_texted c_t_above c_t_below c_t_at c_t_start c_t_isWord c_t_isFigures c_t_all c_t_known c_t_truth c_t_x c_t_h u9)) C 1 1 rfl rfl pb_ok_2_3 ((congrArg (fun k => upd c_t_refused k ((c_t_refused 2) + 1)) pb_kN_2).trans eu9) rfl dX8_full_9 ?_
  refine pb_bipush (v := (-4)) (pc := 10) C dX8_full_10 pb_kB_m4 ?_
  obtain rfl := Option.some.inj hf
  exact pb_iret (pc := 12) C hr hlk hA dX8_full_12
def rmX8_copy : Room := { frames := 0, cells := 0, slots := 0, locals := 0 }
def wwX8_copy (cyB cyI cyJ cyZ cyS : ClassId) (a_t a_t_w a_t_isKept a_t_text a_t_refused a_t_numbers a_t_weights : Nat) (c_t_texted : Int32) (c_t_above : Int64) (c_t_below : Int64) (c_t_at : Int32) (c_t_start : Int32) (c_t_isWord : Int32) (c_t_isFigures : Int32) (c_t_all : Int64) (c_t_known : Int32) (c_t_truth : Int32) (c_t_x : Int64) (c_t_h : Int64) (c_t_w : (Nat → Int32)) : va_W := [(a_t, .inr (8, [.ref a_t_w, .ref a_t_isKept, .ref a_t_text, .int c_t_texted, .ref a_t_refused, .long c_t_above, .long c_t_below, .int c_t_at, .int c_t_start, .int c_t_isWord, .int c_t_isFigures, .ref a_t_numbers, .ref a_t_weights, .long c_t_all, .int c_t_known, .int c_t_truth, .long c_t_x, .long c_t_h])), (a_t_w, .inl (cyI, 1508, .inl c_t_w))]
theorem hnX8_copy_X8 : ∀ w ∈ wsX80, w ∈ wsX8_copy := fun _ h => List.mem_cons_of_mem _ (List.mem_append_right _ h)
set_option maxHeartbeats 4000000 in
set_option maxRecDepth 100000 in
theorem kcX8_copy (l : Launch) (dC : Nat → ClassId) (dI : Nat → Nat → Nat) (cyB cyI cyJ cyZ cyS : ClassId) (a_t a_t_w a_t_isKept a_t_text a_t_refused a_t_numbers a_t_weights : Nat) (c_t_texted : Int32) (c_t_above : Int64) (c_t_below : Int64) (c_t_at : Int32) (c_t_start : Int32) (c_t_isWord : Int32) (c_t_isFigures : Int32) (c_t_all : Int64) (c_t_known : Int32) (c_t_truth : Int32) (c_t_x : Int64) (c_t_h : Int64) (c_t_w : (Nat → Int32)) (p1 : Int32) (p2 : Int32) (out : (Nat → Int32)) (hf : fX8_copy c_t_w p1 p2 = some out) : pb_K l yX8_copy wsX8_copy rmX8_copy (dC, dI) vwCl (pb_tys cyB cyI cyJ cyZ cyS) pb_NW [.ref a_t, .int p1, .int p2] (wwX8_copy cyB cyI cyJ cyZ cyS a_t a_t_w a_t_isKept a_t_text a_t_refused a_t_numbers a_t_weights c_t_texted c_t_above c_t_below c_t_at c_t_start c_t_isWord c_t_isFigures c_t_all c_t_known c_t_truth c_t_x c_t_h c_t_w) (wwX8_copy cyB cyI cyJ cyZ cyS a_t a_t_w a_t_isKept a_t_text a_t_refused a_t_numbers a_t_weights c_t_texted c_t_above c_t_below c_t_at c_t_start c_t_isWord c_t_isFigures c_t_all c_t_known c_t_truth c_t_x c_t_h out) none := by
  unfold fX8_copy at hf
  refine pb_K.ofV (cc := cX8_copy) (maxL := 4) (ret := none) (lv0 := [(0, .ref a_t), (1, .int p1), (2, .int p2)]) (by decide) rfl (Nat.le_of_ble_eq_true rfl) rfl ?_
  intro p e s m below meth c A C hX hr hlk hA
  refine pb_iconst (v := 0) (pc := 0) C dX8_copy_0 pb_kI_0 ?_
  refine pb_istore_n (lv' := [(3, .int 0), (0, .ref a_t), (1, .int p1), (2, .int p2)]) (pc := 1) C dX8_copy_1 rfl (by decide) rfl ?_
  obtain ⟨z2, hz2, hk2⟩ := pb_bind hf
  have E2 : ∀ (e2_3 : Int32) (e2_c_t_w : (Nat → Int32)), fX8_copy_E2 e2_3 e2_c_t_w = some out → pb_V p l e rmX8_copy s m (([.ref a_t, .int p1, .int p2] : List Value).toArray) below meth c 4 (dC, dI) vwCl A 0 0 (pb_MQ below (([.ref a_t, .int p1, .int p2] : List Value).toArray) s (dC, dI) vwCl (wwX8_copy cyB cyI cyJ cyZ cyS a_t a_t_w a_t_isKept a_t_text a_t_refused a_t_numbers a_t_weights c_t_texted c_t_above c_t_below c_t_at c_t_start c_t_isWord c_t_isFigures c_t_all c_t_known c_t_truth c_t_x c_t_h c_t_w) (wwX8_copy cyB cyI cyJ cyZ cyS a_t a_t_w a_t_isKept a_t_text a_t_refused a_t_numbers a_t_weights c_t_texted c_t_above c_t_below c_t_at c_t_start c_t_isWord c_t_isFigures c_t_all c_t_known c_t_truth c_t_x c_t_h out) none A) (wwX8_copy cyB cyI cyJ cyZ cyS a_t a_t_w a_t_isKept a_t_text a_t_refused a_t_numbers a_t_weights c_t_texted c_t_above c_t_below c_t_at c_t_start c_t_isWord c_t_isFigures c_t_all c_t_known c_t_truth c_t_x c_t_h e2_c_t_w) [] [] 31 := by
    intro e2_3 e2_c_t_w hf
    unfold fX8_copy_E2 at hf
    obtain rfl := Option.some.inj hf
    exact pb_vret (pc := 31) C hr hlk hA dX8_copy_31
  have L2 : ∀ (n : Nat) (l2_3 : Int32) (l2_c_t_w : (Nat → Int32)), pb_lp (fun y => fX8_copy_L2 p1 p2 y.1 y.2) n (l2_3, l2_c_t_w) = some z2 → pb_V p l e rmX8_copy s m (([.ref a_t, .int p1, .int p2] : List Value).toArray) below meth c 4 (dC, dI) vwCl A 0 0 (pb_MQ below (([.ref a_t, .int p1, .int p2] : List Value).toArray) s (dC, dI) vwCl (wwX8_copy cyB cyI cyJ cyZ cyS a_t a_t_w a_t_isKept a_t_text a_t_refused a_t_numbers a_t_weights c_t_texted c_t_above c_t_below c_t_at c_t_start c_t_isWord c_t_isFigures c_t_all c_t_known c_t_truth c_t_x c_t_h c_t_w) (wwX8_copy cyB cyI cyJ cyZ cyS a_t a_t_w a_t_isKept a_t_text a_t_refused a_t_numbers a_t_weights c_t_texted c_t_above c_t_below c_t_at c_t_start c_t_isWord c_t_isFigures c_t_all c_t_known c_t_truth c_t_x c_t_h out) none A) (wwX8_copy cyB cyI cyJ cyZ cyS a_t a_t_w a_t_isKept a_t_text a_t_refused a_t_numbers a_t_weights c_t_texted c_t_above c_t_below c_t_at c_t_start c_t_isWord c_t_isFigures c_t_all c_t_known c_t_truth c_t_x c_t_h l2_c_t_w) [(0, .ref a_t), (1, .int p1), (2, .int p2), (3, .int l2_3)] [] 2 := by
    intro n
    induction n with
    | zero => intro l2_3 l2_c_t_w hf; exact (pb_lp_zero hf).elim
    | succ n ih2 =>
      intro l2_3 l2_c_t_w hf
      obtain ⟨y2, hf, hl2⟩ := pb_lp_succ hf
      have hf : fX8_copy_L2 p1 p2 l2_3 l2_c_t_w = some y2 := hf
      unfold fX8_copy_L2 at hf
      refine pb_iload_n (pc := 2) C dX8_copy_2 rfl 3 rfl ?_
      refine pb_sipush (v := 377) (pc := 3) C dX8_copy_3 pb_kS_377 ?_
      refine pb_icmp_ge (pc := 6) (tgt := 31) C dX8_copy_6 (by decide) (fun hc6 => ?_) (fun hc6 => ?_)
      · have hf := pb_pos hf hc6
        obtain rfl := Option.some.inj hf
        obtain rfl := pb_esc hl2
        refine pb_sub [] rfl ?_
        exact E2 l2_3 l2_c_t_w hk2
      · have hf := pb_neg hf hc6
        refine pb_aload_n (pc := 9) C dX8_copy_9 rfl 0 rfl ?_
        refine pb_get (pc := 10) C hnX8_copy_X8 0 rfl rfl 0 (by decide) (List.mem_of_getElem? (i := 1) rfl) rfl rfl dX8_copy_10 ?_
        refine pb_iload_n (pc := 13) C dX8_copy_13 rfl 2 rfl ?_
        refine pb_iload_n (pc := 14) C dX8_copy_14 rfl 3 rfl ?_
        refine pb_iadd (pc := 15) C dX8_copy_15 ?_
        refine pb_aload_n (pc := 16) C dX8_copy_16 rfl 0 rfl ?_
        refine pb_get (pc := 17) C hnX8_copy_X8 0 rfl rfl 0 (by decide) (List.mem_of_getElem? (i := 1) rfl) rfl rfl dX8_copy_17 ?_
        refine pb_iload_n (pc := 20) C dX8_copy_20 rfl 1 rfl ?_
        refine pb_iload_n (pc := 21) C dX8_copy_21 rfl 3 rfl ?_
        refine pb_iadd (pc := 22) C dX8_copy_22 ?_
        obtain ⟨g23, hf⟩ := pb_grd hf
        refine pb_iald (pc := 23) C 1 1 rfl rfl g23 dX8_copy_23 ?_
        obtain ⟨g24, hf⟩ := pb_grd hf
        obtain ⟨u24, eu24, hf⟩ := pb_bind hf
        have eu24 := Option.some.inj eu24
        refine pb_iast (pc := 24) (ws' := (wwX8_copy cyB cyI cyJ cyZ cyS a_t a_t_w a_t_isKept a_t_text a_t_refused a_t_numbers a_t_weights c_t_texted c_t_above c_t_below c_t_at c_t_start c_t_isWord c_t_isFigures c_t_all c_t_known c_t_truth c_t_x c_t_h u24)) C 1 1 rfl rfl g24 eu24 rfl dX8_copy_24 ?_
        refine pb_iinc (v := l2_3 + 1) (lv' := [(3, .int (l2_3 + 1)), (0, .ref a_t), (1, .int p1), (2, .int p2)]) (pc := 25) C dX8_copy_25 3 rfl (pb_inc pb_kI_1 rfl) (by decide) rfl ?_
        refine pb_goto (pc := 28) (tgt := 2) C dX8_copy_28 (by decide) ?_
        obtain rfl := Option.some.inj hf
        refine pb_sub [1, 2, 3, 0] rfl ?_
        have hl2 := pb_inl hl2
        exact ih2 (l2_3 + 1) u24 hl2
  refine pb_sub [1, 2, 3, 0] rfl ?_
  exact L2 pb_FU 0 c_t_w hz2
def rmX8_begins : Room := { frames := 0, cells := 0, slots := 0, locals := 0 }
def wwX8_begins (cyB cyI cyJ cyZ cyS : ClassId) (a_t a_t_w a_t_isKept a_t_text a_t_refused a_t_numbers a_t_weights : Nat) (c_t_texted : Int32) (c_t_above : Int64) (c_t_below : Int64) (c_t_at : Int32) (c_t_start : Int32) (c_t_isWord : Int32) (c_t_isFigures : Int32) (c_t_all : Int64) (c_t_known : Int32) (c_t_truth : Int32) (c_t_x : Int64) (c_t_h : Int64) (c_t_w : (Nat → Int32)) : va_W := [(a_t, .inr (8, [.ref a_t_w, .ref a_t_isKept, .ref a_t_text, .int c_t_texted, .ref a_t_refused, .long c_t_above, .long c_t_below, .int c_t_at, .int c_t_start, .int c_t_isWord, .int c_t_isFigures, .ref a_t_numbers, .ref a_t_weights, .long c_t_all, .int c_t_known, .int c_t_truth, .long c_t_x, .long c_t_h])), (a_t_w, .inl (cyI, 1508, .inl c_t_w))]
theorem hnX8_begins_X8 : ∀ w ∈ wsX80, w ∈ wsX8_begins := fun _ h => List.mem_cons_of_mem _ (List.mem_append_right _ h)
set_option maxHeartbeats 4000000 in
set_option maxRecDepth 100000 in
theorem kcX8_begins (l : Launch) (dC : Nat → ClassId) (dI : Nat → Nat → Nat) (cyB cyI cyJ cyZ cyS : ClassId) (a_t a_t_w a_t_isKept a_t_text a_t_refused a_t_numbers a_t_weights : Nat) (c_t_texted : Int32) (c_t_above : Int64) (c_t_below : Int64) (c_t_at : Int32) (c_t_start : Int32) (c_t_isWord : Int32) (c_t_isFigures : Int32) (c_t_all : Int64) (c_t_known : Int32) (c_t_truth : Int32) (c_t_x : Int64) (c_t_h : Int64) (c_t_w : (Nat → Int32)) (p1 : Int32) (out : (Nat → Int32)) (hf : fX8_begins c_t_w p1 = some out) : pb_K l yX8_begins wsX8_begins rmX8_begins (dC, dI) vwCl (pb_tys cyB cyI cyJ cyZ cyS) pb_NW [.ref a_t, .int p1] (wwX8_begins cyB cyI cyJ cyZ cyS a_t a_t_w a_t_isKept a_t_text a_t_refused a_t_numbers a_t_weights c_t_texted c_t_above c_t_below c_t_at c_t_start c_t_isWord c_t_isFigures c_t_all c_t_known c_t_truth c_t_x c_t_h c_t_w) (wwX8_begins cyB cyI cyJ cyZ cyS a_t a_t_w a_t_isKept a_t_text a_t_refused a_t_numbers a_t_weights c_t_texted c_t_above c_t_below c_t_at c_t_start c_t_isWord c_t_isFigures c_t_all c_t_known c_t_truth c_t_x c_t_h out) none := by
  unfold fX8_begins at hf
  refine pb_K.ofV (cc := cX8_begins) (maxL := 3) (ret := none) (lv0 := [(0, .ref a_t), (1, .int p1)]) (by decide) rfl (Nat.le_of_ble_eq_true rfl) rfl ?_
  intro p e s m below meth c A C hX hr hlk hA
  refine pb_iconst (v := 0) (pc := 0) C dX8_begins_0 pb_kI_0 ?_
  refine pb_istore_n (lv' := [(2, .int 0), (0, .ref a_t), (1, .int p1)]) (pc := 1) C dX8_begins_1 rfl (by decide) rfl ?_
  obtain ⟨z2, hz2, hk2⟩ := pb_bind hf
  have E2 : ∀ (e2_2 : Int32) (e2_c_t_w : (Nat → Int32)), fX8_begins_E2 e2_2 e2_c_t_w = some out → pb_V p l e rmX8_begins s m (([.ref a_t, .int p1] : List Value).toArray) below meth c 3 (dC, dI) vwCl A 0 0 (pb_MQ below (([.ref a_t, .int p1] : List Value).toArray) s (dC, dI) vwCl (wwX8_begins cyB cyI cyJ cyZ cyS a_t a_t_w a_t_isKept a_t_text a_t_refused a_t_numbers a_t_weights c_t_texted c_t_above c_t_below c_t_at c_t_start c_t_isWord c_t_isFigures c_t_all c_t_known c_t_truth c_t_x c_t_h c_t_w) (wwX8_begins cyB cyI cyJ cyZ cyS a_t a_t_w a_t_isKept a_t_text a_t_refused a_t_numbers a_t_weights c_t_texted c_t_above c_t_below c_t_at c_t_start c_t_isWord c_t_isFigures c_t_all c_t_known c_t_truth c_t_x c_t_h out) none A) (wwX8_begins cyB cyI cyJ cyZ cyS a_t a_t_w a_t_isKept a_t_text a_t_refused a_t_numbers a_t_weights c_t_texted c_t_above c_t_below c_t_at c_t_start c_t_isWord c_t_isFigures c_t_all c_t_known c_t_truth c_t_x c_t_h e2_c_t_w) [] [] 24 := by
    intro e2_2 e2_c_t_w hf
    unfold fX8_begins_E2 at hf
    obtain rfl := Option.some.inj hf
    exact pb_vret (pc := 24) C hr hlk hA dX8_begins_24
  have L2 : ∀ (n : Nat) (l2_2 : Int32) (l2_c_t_w : (Nat → Int32)), pb_lp (fun y => fX8_begins_L2 p1 y.1 y.2) n (l2_2, l2_c_t_w) = some z2 → pb_V p l e rmX8_begins s m (([.ref a_t, .int p1] : List Value).toArray) below meth c 3 (dC, dI) vwCl A 0 0 (pb_MQ below (([.ref a_t, .int p1] : List Value).toArray) s (dC, dI) vwCl (wwX8_begins cyB cyI cyJ cyZ cyS a_t a_t_w a_t_isKept a_t_text a_t_refused a_t_numbers a_t_weights c_t_texted c_t_above c_t_below c_t_at c_t_start c_t_isWord c_t_isFigures c_t_all c_t_known c_t_truth c_t_x c_t_h c_t_w) (wwX8_begins cyB cyI cyJ cyZ cyS a_t a_t_w a_t_isKept a_t_text a_t_refused a_t_numbers a_t_weights c_t_texted c_t_above c_t_below c_t_at c_t_start c_t_isWord c_t_isFigures c_t_all c_t_known c_t_truth c_t_x c_t_h out) none A) (wwX8_begins cyB cyI cyJ cyZ cyS a_t a_t_w a_t_isKept a_t_text a_t_refused a_t_numbers a_t_weights c_t_texted c_t_above c_t_below c_t_at c_t_start c_t_isWord c_t_isFigures c_t_all c_t_known c_t_truth c_t_x c_t_h l2_c_t_w) [(0, .ref a_t), (1, .int p1), (2, .int l2_2)] [] 2 := by
    intro n
    induction n with
    | zero => intro l2_2 l2_c_t_w hf; exact (pb_lp_zero hf).elim
    | succ n ih2 =>
      intro l2_2 l2_c_t_w hf
      obtain ⟨y2, hf, hl2⟩ := pb_lp_succ hf
      have hf : fX8_begins_L2 p1 l2_2 l2_c_t_w = some y2 := hf
      unfold fX8_begins_L2 at hf
      refine pb_iload_n (pc := 2) C dX8_begins_2 rfl 2 rfl ?_
      refine pb_sipush (v := 377) (pc := 3) C dX8_begins_3 pb_kS_377 ?_
      refine pb_icmp_ge (pc := 6) (tgt := 24) C dX8_begins_6 (by decide) (fun hc6 => ?_) (fun hc6 => ?_)
      · have hf := pb_pos hf hc6
        obtain rfl := Option.some.inj hf
        obtain rfl := pb_esc hl2
        refine pb_sub [] rfl ?_
        exact E2 l2_2 l2_c_t_w hk2
      · have hf := pb_neg hf hc6
        refine pb_aload_n (pc := 9) C dX8_begins_9 rfl 0 rfl ?_
        refine pb_get (pc := 10) C hnX8_begins_X8 0 rfl rfl 0 (by decide) (List.mem_of_getElem? (i := 1) rfl) rfl rfl dX8_begins_10 ?_
        refine pb_iload_n (pc := 13) C dX8_begins_13 rfl 1 rfl ?_
        refine pb_iload_n (pc := 14) C dX8_begins_14 rfl 2 rfl ?_
        refine pb_iadd (pc := 15) C dX8_begins_15 ?_
        refine pb_iconst (v := 0) (pc := 16) C dX8_begins_16 pb_kI_0 ?_
        obtain ⟨g17, hf⟩ := pb_grd hf
        obtain ⟨u17, eu17, hf⟩ := pb_bind hf
        have eu17 := Option.some.inj eu17
        refine pb_iast (pc := 17) (ws' := (wwX8_begins cyB cyI cyJ cyZ cyS a_t a_t_w a_t_isKept a_t_text a_t_refused a_t_numbers a_t_weights c_t_texted c_t_above c_t_below c_t_at c_t_start c_t_isWord c_t_isFigures c_t_all c_t_known c_t_truth c_t_x c_t_h u17)) C 1 1 rfl rfl g17 eu17 rfl dX8_begins_17 ?_
        refine pb_iinc (v := l2_2 + 1) (lv' := [(2, .int (l2_2 + 1)), (0, .ref a_t), (1, .int p1)]) (pc := 18) C dX8_begins_18 2 rfl (pb_inc pb_kI_1 rfl) (by decide) rfl ?_
        refine pb_goto (pc := 21) (tgt := 2) C dX8_begins_21 (by decide) ?_
        obtain rfl := Option.some.inj hf
        refine pb_sub [1, 2, 0] rfl ?_
        have hl2 := pb_inl hl2
        exact ih2 (l2_2 + 1) u17 hl2
  refine pb_sub [1, 2, 0] rfl ?_
  exact L2 pb_FU 0 c_t_w hz2
def rmX8_isFact : Room := { frames := 1, cells := 0, slots := 0, locals := 25 }
def wwX8_isFact (cyB cyI cyJ cyZ cyS : ClassId) : va_W := []
set_option maxHeartbeats 4000000 in
set_option maxRecDepth 100000 in
theorem kcX8_isFact (l : Launch) (dC : Nat → ClassId) (dI : Nat → Nat → Nat) (cyB cyI cyJ cyZ cyS : ClassId) (p1 : Int32) (out : Int32) (hf : fX8_isFact p1 = some out) : pb_K l yX8_isFact wsX8_isFact rmX8_isFact (dC, dI) vwCl (pb_tys cyB cyI cyJ cyZ cyS) pb_NW [.int p1] (wwX8_isFact cyB cyI cyJ cyZ cyS) (wwX8_isFact cyB cyI cyJ cyZ cyS) (some (.int out)) := by
  unfold fX8_isFact at hf
  refine pb_K.ofV (cc := cX8_isFact) (maxL := 1) (ret := (some .boolean)) (lv0 := [(0, .int p1)]) (by decide) rfl (Nat.le_of_ble_eq_true rfl) rfl ?_
  intro p e s m below meth c A C hX hr hlk hA
  refine pb_iload_n (pc := 0) C dX8_isFact_0 rfl 0 rfl ?_
  refine pb_i2l (pc := 1) C dX8_isFact_1 ?_
  refine pb_lconst (v := 0) (pc := 2) C dX8_isFact_2 pb_kL_0 ?_
  refine pb_ldc2 (v := 6) (pc := 3) C dX8_isFact_3 (List.mem_of_getElem? (i := 1) rfl) ?_
  obtain ⟨r6, hr6, hf⟩ := pb_bind hf
  refine pb_callS (pc := 6) (n0 := 0) (ws' := (wwX8_isFact cyB cyI cyJ cyZ cyS)) (rest := []) (st2 := [.int r6]) C (kcX8_in l dC dI cyB cyI cyJ cyZ cyS (Int32.toInt64 p1) 0 6 r6 hr6) pb_NW_b (pb_NW_x hX) (va_cwS 3 C.1.2.2.2.2 gX8_isFact_X8_in rfl rfl rfl kdS_X8_in ⟨Nat.le_of_ble_eq_true rfl, Nat.le_of_ble_eq_true rfl⟩) [] [] rfl rfl trivial rfl (by decide +kernel) (adl := []) rfl rfl rfl rfl rfl (Nat.le_of_ble_eq_true rfl) ⟨Nat.le_refl _, Nat.le_refl _⟩ dX8_isFact_6 rfl ?_
  obtain ⟨g9, hf⟩ := pb_grd hf
  obtain rfl := Option.some.inj hf
  exact pb_zret (pc := 9) C hr hlk hA g9 dX8_isFact_9
def rmX8_isClaim : Room := { frames := 2, cells := 0, slots := 0, locals := 45 }
def wwX8_isClaim (cyB cyI cyJ cyZ cyS : ClassId) : va_W := []
set_option maxHeartbeats 4000000 in
set_option maxRecDepth 100000 in
theorem kcX8_isClaim (l : Launch) (dC : Nat → ClassId) (dI : Nat → Nat → Nat) (cyB cyI cyJ cyZ cyS : ClassId) (p1 : Int32) (p2 : Int32) (p3 : Int32) (out : Int32) (hf : fX8_isClaim p1 p2 p3 = some out) : pb_K l yX8_isClaim wsX8_isClaim rmX8_isClaim (dC, dI) vwCl (pb_tys cyB cyI cyJ cyZ cyS) pb_NW [.int p1, .int p2, .int p3] (wwX8_isClaim cyB cyI cyJ cyZ cyS) (wwX8_isClaim cyB cyI cyJ cyZ cyS) (some (.int out)) := by
  unfold fX8_isClaim at hf
  refine pb_K.ofV (cc := cX8_isClaim) (maxL := 3) (ret := (some .boolean)) (lv0 := [(0, .int p1), (1, .int p2), (2, .int p3)]) (by decide) rfl (Nat.le_of_ble_eq_true rfl) rfl ?_
  intro p e s m below meth c A C hX hr hlk hA
  refine pb_iload_n (pc := 0) C dX8_isClaim_0 rfl 0 rfl ?_
  refine pb_i2l (pc := 1) C dX8_isClaim_1 ?_
  refine pb_lconst (v := 0) (pc := 2) C dX8_isClaim_2 pb_kL_0 ?_
  refine pb_ldc2 (v := 5) (pc := 3) C dX8_isClaim_3 (List.mem_of_getElem? (i := 1) rfl) ?_
  obtain ⟨r6, hr6, hf⟩ := pb_bind hf
  refine pb_callS (pc := 6) (n0 := 0) (ws' := (wwX8_isClaim cyB cyI cyJ cyZ cyS)) (rest := []) (st2 := [.int r6]) C (kcX8_in l dC dI cyB cyI cyJ cyZ cyS (Int32.toInt64 p1) 0 5 r6 hr6) pb_NW_b (pb_NW_x hX) (va_cwS 3 C.1.2.2.2.2 gX8_isClaim_X8_in rfl rfl rfl kdS_X8_in ⟨Nat.le_of_ble_eq_true rfl, Nat.le_of_ble_eq_true rfl⟩) [] [] rfl rfl trivial rfl (by decide +kernel) (adl := []) rfl rfl rfl rfl rfl (Nat.le_of_ble_eq_true rfl) ⟨Nat.le_refl _, Nat.le_refl _⟩ dX8_isClaim_6 rfl ?_
  refine pb_if_eq (pc := 9) (tgt := 30) C dX8_isClaim_9 (by decide) (fun hc9 => ?_) (fun hc9 => ?_)
  · have hf := pb_pos hf hc9
    refine pb_iconst (v := 0) (pc := 30) C dX8_isClaim_30 pb_kI_0 ?_
    obtain rfl := Option.some.inj hf
    exact pb_zret (pc := 31) C hr hlk hA pb_isB0 dX8_isClaim_31
  · have hf := pb_neg hf hc9
    refine pb_iload_n (pc := 12) C dX8_isClaim_12 rfl 1 rfl ?_
    obtain ⟨r13, hr13, hf⟩ := pb_bind hf
    refine pb_callS (pc := 13) (n0 := 0) (ws' := (wwX8_isClaim cyB cyI cyJ cyZ cyS)) (rest := []) (st2 := [.int r13]) C (kcX8_isFact l dC dI cyB cyI cyJ cyZ cyS p2 r13 hr13) pb_NW_b (pb_NW_x hX) (va_cwS 1 C.1.2.2.2.2 gX8_isClaim_X8_isFact rfl rfl rfl kdS_X8_isFact ⟨Nat.le_of_ble_eq_true rfl, Nat.le_of_ble_eq_true rfl⟩) [] [] rfl rfl trivial rfl (by decide +kernel) (adl := []) rfl rfl rfl rfl rfl (Nat.le_of_ble_eq_true rfl) ⟨Nat.le_refl _, Nat.le_refl _⟩ dX8_isClaim_13 rfl ?_
    refine pb_if_eq (pc := 16) (tgt := 30) C dX8_isClaim_16 (by decide) (fun hc16 => ?_) (fun hc16 => ?_)
    · have hf := pb_pos hf hc16
      refine pb_iconst (v := 0) (pc := 30) C dX8_isClaim_30 pb_kI_0 ?_
      obtain rfl := Option.some.inj hf
      exact pb_zret (pc := 31) C hr hlk hA pb_isB0 dX8_isClaim_31
    · have hf := pb_neg hf hc16
      refine pb_iload_n (pc := 19) C dX8_isClaim_19 rfl 2 rfl ?_
      obtain ⟨r20, hr20, hf⟩ := pb_bind hf
      refine pb_callS (pc := 20) (n0 := 0) (ws' := (wwX8_isClaim cyB cyI cyJ cyZ cyS)) (rest := []) (st2 := [.int r20]) C (kcX8_isFact l dC dI cyB cyI cyJ cyZ cyS p3 r20 hr20) pb_NW_b (pb_NW_x hX) (va_cwS 1 C.1.2.2.2.2 gX8_isClaim_X8_isFact rfl rfl rfl kdS_X8_isFact ⟨Nat.le_of_ble_eq_true rfl, Nat.le_of_ble_eq_true rfl⟩) [] [] rfl rfl trivial rfl (by decide +kernel) (adl := []) rfl rfl rfl rfl rfl (Nat.le_of_ble_eq_true rfl) ⟨Nat.le_refl _, Nat.le_refl _⟩ dX8_isClaim_20 rfl ?_
      refine pb_if_eq (pc := 23) (tgt := 30) C dX8_isClaim_23 (by decide) (fun hc23 => ?_) (fun hc23 => ?_)
      · have hf := pb_pos hf hc23
        refine pb_iconst (v := 0) (pc := 30) C dX8_isClaim_30 pb_kI_0 ?_
        obtain rfl := Option.some.inj hf
        exact pb_zret (pc := 31) C hr hlk hA pb_isB0 dX8_isClaim_31
      · have hf := pb_neg hf hc23
        refine pb_iconst (v := 1) (pc := 26) C dX8_isClaim_26 pb_kI_1 ?_
        refine pb_goto (pc := 27) (tgt := 31) C dX8_isClaim_27 (by decide) ?_
        obtain rfl := Option.some.inj hf
        exact pb_zret (pc := 31) C hr hlk hA pb_isB1 dX8_isClaim_31
def rmX8_isPast : Room := { frames := 1, cells := 0, slots := 0, locals := 25 }
def wwX8_isPast (cyB cyI cyJ cyZ cyS : ClassId) : va_W := []
set_option maxHeartbeats 4000000 in
set_option maxRecDepth 100000 in
theorem kcX8_isPast (l : Launch) (dC : Nat → ClassId) (dI : Nat → Nat → Nat) (cyB cyI cyJ cyZ cyS : ClassId) (p1 : Int32) (out : Int32) (hf : fX8_isPast p1 = some out) : pb_K l yX8_isPast wsX8_isPast rmX8_isPast (dC, dI) vwCl (pb_tys cyB cyI cyJ cyZ cyS) pb_NW [.int p1] (wwX8_isPast cyB cyI cyJ cyZ cyS) (wwX8_isPast cyB cyI cyJ cyZ cyS) (some (.int out)) := by
  unfold fX8_isPast at hf
  refine pb_K.ofV (cc := cX8_isPast) (maxL := 1) (ret := (some .boolean)) (lv0 := [(0, .int p1)]) (by decide) rfl (Nat.le_of_ble_eq_true rfl) rfl ?_
  intro p e s m below meth c A C hX hr hlk hA
  refine pb_iload_n (pc := 0) C dX8_isPast_0 rfl 0 rfl ?_
  refine pb_i2l (pc := 1) C dX8_isPast_1 ?_
  refine pb_lconst (v := 0) (pc := 2) C dX8_isPast_2 pb_kL_0 ?_
  refine pb_ldc2 (v := 127) (pc := 3) C dX8_isPast_3 (List.mem_of_getElem? (i := 1) rfl) ?_
  obtain ⟨r6, hr6, hf⟩ := pb_bind hf
  refine pb_callS (pc := 6) (n0 := 0) (ws' := (wwX8_isPast cyB cyI cyJ cyZ cyS)) (rest := []) (st2 := [.int r6]) C (kcX8_in l dC dI cyB cyI cyJ cyZ cyS (Int32.toInt64 p1) 0 127 r6 hr6) pb_NW_b (pb_NW_x hX) (va_cwS 3 C.1.2.2.2.2 gX8_isPast_X8_in rfl rfl rfl kdS_X8_in ⟨Nat.le_of_ble_eq_true rfl, Nat.le_of_ble_eq_true rfl⟩) [] [] rfl rfl trivial rfl (by decide +kernel) (adl := []) rfl rfl rfl rfl rfl (Nat.le_of_ble_eq_true rfl) ⟨Nat.le_refl _, Nat.le_refl _⟩ dX8_isPast_6 rfl ?_
  obtain ⟨g9, hf⟩ := pb_grd hf
  obtain rfl := Option.some.inj hf
  exact pb_zret (pc := 9) C hr hlk hA g9 dX8_isPast_9
def rmX8_isBet : Room := { frames := 1, cells := 0, slots := 0, locals := 25 }
def wwX8_isBet (cyB cyI cyJ cyZ cyS : ClassId) (a_t a_t_w a_t_isKept a_t_text a_t_refused a_t_numbers a_t_weights : Nat) (c_t_texted : Int32) (c_t_above : Int64) (c_t_below : Int64) (c_t_at : Int32) (c_t_start : Int32) (c_t_isWord : Int32) (c_t_isFigures : Int32) (c_t_all : Int64) (c_t_known : Int32) (c_t_truth : Int32) (c_t_x : Int64) (c_t_h : Int64) (c_t_w : (Nat → Int32)) : va_W := [(a_t, .inr (8, [.ref a_t_w, .ref a_t_isKept, .ref a_t_text, .int c_t_texted, .ref a_t_refused, .long c_t_above, .long c_t_below, .int c_t_at, .int c_t_start, .int c_t_isWord, .int c_t_isFigures, .ref a_t_numbers, .ref a_t_weights, .long c_t_all, .int c_t_known, .int c_t_truth, .long c_t_x, .long c_t_h])), (a_t_w, .inl (cyI, 1508, .inl c_t_w))]
theorem hnX8_isBet_X8 : ∀ w ∈ wsX80, w ∈ wsX8_isBet := fun _ h => List.mem_cons_of_mem _ (List.mem_append_right _ h)
set_option maxHeartbeats 4000000 in
set_option maxRecDepth 100000 in
theorem kcX8_isBet (l : Launch) (dC : Nat → ClassId) (dI : Nat → Nat → Nat) (cyB cyI cyJ cyZ cyS : ClassId) (a_t a_t_w a_t_isKept a_t_text a_t_refused a_t_numbers a_t_weights : Nat) (c_t_texted : Int32) (c_t_above : Int64) (c_t_below : Int64) (c_t_at : Int32) (c_t_start : Int32) (c_t_isWord : Int32) (c_t_isFigures : Int32) (c_t_all : Int64) (c_t_known : Int32) (c_t_truth : Int32) (c_t_x : Int64) (c_t_h : Int64) (c_t_w : (Nat → Int32)) (p1 : Int32) (out : Int32) (hf : fX8_isBet c_t_w p1 = some out) : pb_K l yX8_isBet wsX8_isBet rmX8_isBet (dC, dI) vwCl (pb_tys cyB cyI cyJ cyZ cyS) pb_NW [.ref a_t, .int p1] (wwX8_isBet cyB cyI cyJ cyZ cyS a_t a_t_w a_t_isKept a_t_text a_t_refused a_t_numbers a_t_weights c_t_texted c_t_above c_t_below c_t_at c_t_start c_t_isWord c_t_isFigures c_t_all c_t_known c_t_truth c_t_x c_t_h c_t_w) (wwX8_isBet cyB cyI cyJ cyZ cyS a_t a_t_w a_t_isKept a_t_text a_t_refused a_t_numbers a_t_weights c_t_texted c_t_above c_t_below c_t_at c_t_start c_t_isWord c_t_isFigures c_t_all c_t_known c_t_truth c_t_x c_t_h c_t_w) (some (.int out)) := by
  unfold fX8_isBet at hf
  refine pb_K.ofV (cc := cX8_isBet) (maxL := 2) (ret := (some .boolean)) (lv0 := [(0, .ref a_t), (1, .int p1)]) (by decide) rfl (Nat.le_of_ble_eq_true rfl) rfl ?_
  intro p e s m below meth c A C hX hr hlk hA
  refine pb_iload_n (pc := 0) C dX8_isBet_0 rfl 1 rfl ?_
  refine pb_i2l (pc := 1) C dX8_isBet_1 ?_
  refine pb_lconst (v := 0) (pc := 2) C dX8_isBet_2 pb_kL_0 ?_
  refine pb_aload_n (pc := 3) C dX8_isBet_3 rfl 0 rfl ?_
  refine pb_get (pc := 4) C hnX8_isBet_X8 0 rfl rfl 0 (by decide) (List.mem_of_getElem? (i := 1) rfl) rfl rfl dX8_isBet_4 ?_
  refine pb_iconst (v := 2) (pc := 7) C dX8_isBet_7 pb_kI_2 ?_
  refine pb_iald (pc := 8) C 1 1 rfl rfl pb_ok_2_1508 dX8_isBet_8 ?_
  refine pb_topi (congrArg c_t_w pb_kN_2) ?_
  refine pb_iconst (v := 1) (pc := 9) C dX8_isBet_9 pb_kI_1 ?_
  refine pb_isub (pc := 10) C dX8_isBet_10 ?_
  refine pb_i2l (pc := 11) C dX8_isBet_11 ?_
  obtain ⟨r12, hr12, hf⟩ := pb_bind hf
  refine pb_callS (pc := 12) (n0 := 2) (ws' := (wwX8_isBet cyB cyI cyJ cyZ cyS a_t a_t_w a_t_isKept a_t_text a_t_refused a_t_numbers a_t_weights c_t_texted c_t_above c_t_below c_t_at c_t_start c_t_isWord c_t_isFigures c_t_all c_t_known c_t_truth c_t_x c_t_h c_t_w)) (rest := []) (st2 := [.int r12]) C (kcX8_in l dC dI cyB cyI cyJ cyZ cyS (Int32.toInt64 p1) 0 (Int32.toInt64 ((c_t_w 2) - 1)) r12 hr12) pb_NW_b (pb_NW_x hX) (va_cwS 3 C.1.2.2.2.2 gX8_isBet_X8_in rfl rfl rfl kdS_X8_in ⟨Nat.le_of_ble_eq_true rfl, Nat.le_of_ble_eq_true rfl⟩) [] [0, 1] rfl rfl ⟨⟨_, rfl, rfl⟩, ⟨⟨_, rfl, rfl⟩, trivial⟩⟩ rfl (by decide +kernel) (adl := []) rfl rfl rfl rfl rfl (Nat.le_of_ble_eq_true rfl) ⟨Nat.le_refl _, Nat.le_refl _⟩ dX8_isBet_12 rfl ?_
  obtain ⟨g15, hf⟩ := pb_grd hf
  obtain rfl := Option.some.inj hf
  exact pb_zret (pc := 15) C hr hlk hA g15 dX8_isBet_15
def rmX8_past : Room := { frames := 1, cells := 0, slots := 0, locals := 22 }
def wwX8_past (cyB cyI cyJ cyZ cyS : ClassId) (a_t a_t_w a_t_isKept a_t_text a_t_refused a_t_numbers a_t_weights : Nat) (c_t_texted : Int32) (c_t_above : Int64) (c_t_below : Int64) (c_t_at : Int32) (c_t_start : Int32) (c_t_isWord : Int32) (c_t_isFigures : Int32) (c_t_all : Int64) (c_t_known : Int32) (c_t_truth : Int32) (c_t_x : Int64) (c_t_h : Int64) (c_t_w : (Nat → Int32)) : va_W := [(a_t, .inr (8, [.ref a_t_w, .ref a_t_isKept, .ref a_t_text, .int c_t_texted, .ref a_t_refused, .long c_t_above, .long c_t_below, .int c_t_at, .int c_t_start, .int c_t_isWord, .int c_t_isFigures, .ref a_t_numbers, .ref a_t_weights, .long c_t_all, .int c_t_known, .int c_t_truth, .long c_t_x, .long c_t_h])), (a_t_w, .inl (cyI, 1508, .inl c_t_w))]
theorem hnX8_past_X8 : ∀ w ∈ wsX80, w ∈ wsX8_past := fun _ h => List.mem_cons_of_mem _ (List.mem_append_right _ h)
set_option maxHeartbeats 4000000 in
set_option maxRecDepth 100000 in
theorem kcX8_past (l : Launch) (dC : Nat → ClassId) (dI : Nat → Nat → Nat) (cyB cyI cyJ cyZ cyS : ClassId) (a_t a_t_w a_t_isKept a_t_text a_t_refused a_t_numbers a_t_weights : Nat) (c_t_texted : Int32) (c_t_above : Int64) (c_t_below : Int64) (c_t_at : Int32) (c_t_start : Int32) (c_t_isWord : Int32) (c_t_isFigures : Int32) (c_t_all : Int64) (c_t_known : Int32) (c_t_truth : Int32) (c_t_x : Int64) (c_t_h : Int64) (c_t_w : (Nat → Int32)) (out : (Int32 × (Nat → Int32))) (hf : fX8_past c_t_w = some out) : pb_K l yX8_past wsX8_past rmX8_past (dC, dI) vwCl (pb_tys cyB cyI cyJ cyZ cyS) pb_NW [.ref a_t] (wwX8_past cyB cyI cyJ cyZ cyS a_t a_t_w a_t_isKept a_t_text a_t_refused a_t_numbers a_t_weights c_t_texted c_t_above c_t_below c_t_at c_t_start c_t_isWord c_t_isFigures c_t_all c_t_known c_t_truth c_t_x c_t_h c_t_w) (wwX8_past cyB cyI cyJ cyZ cyS a_t a_t_w a_t_isKept a_t_text a_t_refused a_t_numbers a_t_weights c_t_texted c_t_above c_t_below c_t_at c_t_start c_t_isWord c_t_isFigures c_t_all c_t_known c_t_truth c_t_x c_t_h out.2) (some (.int out.1)) := by
  unfold fX8_past at hf
  refine pb_K.ofV (cc := cX8_past) (maxL := 2) (ret := (some .int)) (lv0 := [(0, .ref a_t)]) (by decide) rfl (Nat.le_of_ble_eq_true rfl) rfl ?_
  intro p e s m below meth c A C hX hr hlk hA
  refine pb_aload_n (pc := 0) C dX8_past_0 rfl 0 rfl ?_
  refine pb_get (pc := 1) C hnX8_past_X8 0 rfl rfl 0 (by decide) (List.mem_of_getElem? (i := 1) rfl) rfl rfl dX8_past_1 ?_
  refine pb_iconst (v := 1) (pc := 4) C dX8_past_4 pb_kI_1 ?_
  refine pb_iald (pc := 5) C 1 1 rfl rfl pb_ok_1_1508 dX8_past_5 ?_
  refine pb_topi (congrArg c_t_w pb_kN_1) ?_
  obtain ⟨x6, ex6, hf⟩ := pb_bind hf
  have ex6 := Option.some.inj ex6
  refine pb_topi ex6 ?_
  refine pb_istore_n (lv' := [(1, .int x6), (0, .ref a_t)]) (pc := 6) C dX8_past_6 rfl (by decide) rfl ?_
  refine pb_aload_n (pc := 7) C dX8_past_7 rfl 1 rfl ?_
  refine pb_iconst (v := 0) (pc := 8) C dX8_past_8 pb_kI_0 ?_
  obtain ⟨r9, hr9, hf⟩ := pb_bind hf
  refine pb_callV (pc := 9) (n0 := 2) (ws' := (wwX8_past cyB cyI cyJ cyZ cyS a_t a_t_w a_t_isKept a_t_text a_t_refused a_t_numbers a_t_weights c_t_texted c_t_above c_t_below c_t_at c_t_start c_t_isWord c_t_isFigures c_t_all c_t_known c_t_truth c_t_x c_t_h r9)) (rest := []) (st2 := []) C (kcX8_begins l dC dI cyB cyI cyJ cyZ cyS a_t a_t_w a_t_isKept a_t_text a_t_refused a_t_numbers a_t_weights c_t_texted c_t_above c_t_below c_t_at c_t_start c_t_isWord c_t_isFigures c_t_all c_t_known c_t_truth c_t_x c_t_h c_t_w 0 r9 hr9) pb_NW_b (pb_NW_x hX) (cwV 1 C.1.2.2.2.2 gX8_past_X8_begins rfl rfl rfl kdV_X8_begins ⟨Nat.le_of_ble_eq_true rfl, Nat.le_of_ble_eq_true rfl⟩) 0 rfl rfl [0, 1] [] rfl rfl trivial rfl (by decide +kernel) (adl := [a_t, a_t_w]) rfl rfl rfl rfl rfl (Nat.le_of_ble_eq_true rfl) ⟨Nat.le_refl _, Nat.le_refl _⟩ dX8_past_9 rfl ?_
  refine pb_iload_n (pc := 12) C dX8_past_12 rfl 0 rfl ?_
  obtain rfl := Option.some.inj hf
  exact pb_iret (pc := 13) C hr hlk hA dX8_past_13
def rmX8_adds : Room := { frames := 0, cells := 0, slots := 0, locals := 0 }
def wwX8_adds (cyB cyI cyJ cyZ cyS : ClassId) (a_t a_t_w a_t_isKept a_t_text a_t_refused a_t_numbers a_t_weights : Nat) (c_t_texted : Int32) (c_t_above : Int64) (c_t_below : Int64) (c_t_at : Int32) (c_t_start : Int32) (c_t_isWord : Int32) (c_t_isFigures : Int32) (c_t_all : Int64) (c_t_known : Int32) (c_t_truth : Int32) (c_t_x : Int64) (c_t_h : Int64) (c_t_w : (Nat → Int32)) : va_W := [(a_t, .inr (8, [.ref a_t_w, .ref a_t_isKept, .ref a_t_text, .int c_t_texted, .ref a_t_refused, .long c_t_above, .long c_t_below, .int c_t_at, .int c_t_start, .int c_t_isWord, .int c_t_isFigures, .ref a_t_numbers, .ref a_t_weights, .long c_t_all, .int c_t_known, .int c_t_truth, .long c_t_x, .long c_t_h])), (a_t_w, .inl (cyI, 1508, .inl c_t_w))]
theorem hnX8_adds_X8 : ∀ w ∈ wsX80, w ∈ wsX8_adds := fun _ h => List.mem_cons_of_mem _ (List.mem_append_right _ h)
set_option maxHeartbeats 4000000 in
set_option maxRecDepth 100000 in
theorem kcX8_adds (l : Launch) (dC : Nat → ClassId) (dI : Nat → Nat → Nat) (cyB cyI cyJ cyZ cyS : ClassId) (a_t a_t_w a_t_isKept a_t_text a_t_refused a_t_numbers a_t_weights : Nat) (c_t_texted : Int32) (c_t_above : Int64) (c_t_below : Int64) (c_t_at : Int32) (c_t_start : Int32) (c_t_isWord : Int32) (c_t_isFigures : Int32) (c_t_all : Int64) (c_t_known : Int32) (c_t_truth : Int32) (c_t_x : Int64) (c_t_h : Int64) (c_t_w : (Nat → Int32)) (p1 : Int32) (p2 : Int32) (p3 : Int32) (p4 : Int32) (p5 : Int32) (p6 : Int32) (out : (Int32 × (Nat → Int32))) (hf : fX8_adds c_t_w p1 p2 p3 p4 p5 p6 = some out) : pb_K l yX8_adds wsX8_adds rmX8_adds (dC, dI) vwCl (pb_tys cyB cyI cyJ cyZ cyS) pb_NW [.ref a_t, .int p1, .int p2, .int p3, .int p4, .int p5, .int p6] (wwX8_adds cyB cyI cyJ cyZ cyS a_t a_t_w a_t_isKept a_t_text a_t_refused a_t_numbers a_t_weights c_t_texted c_t_above c_t_below c_t_at c_t_start c_t_isWord c_t_isFigures c_t_all c_t_known c_t_truth c_t_x c_t_h c_t_w) (wwX8_adds cyB cyI cyJ cyZ cyS a_t a_t_w a_t_isKept a_t_text a_t_refused a_t_numbers a_t_weights c_t_texted c_t_above c_t_below c_t_at c_t_start c_t_isWord c_t_isFigures c_t_all c_t_known c_t_truth c_t_x c_t_h out.2) (some (.int out.1)) := by
  unfold fX8_adds at hf
  refine pb_K.ofV (cc := cX8_adds) (maxL := 9) (ret := (some .int)) (lv0 := [(0, .ref a_t), (1, .int p1), (2, .int p2), (3, .int p3), (4, .int p4), (5, .int p5), (6, .int p6)]) (by decide) rfl (Nat.le_of_ble_eq_true rfl) rfl ?_
  intro p e s m below meth c A C hX hr hlk hA
  refine pb_aload_n (pc := 0) C dX8_adds_0 rfl 0 rfl ?_
  refine pb_get (pc := 1) C hnX8_adds_X8 0 rfl rfl 0 (by decide) (List.mem_of_getElem? (i := 1) rfl) rfl rfl dX8_adds_1 ?_
  refine pb_iload_n (pc := 4) C dX8_adds_4 rfl 1 rfl ?_
  refine pb_iload_n (pc := 5) C dX8_adds_5 rfl 2 rfl ?_
  refine pb_iadd (pc := 6) C dX8_adds_6 ?_
  obtain ⟨g7, hf⟩ := pb_grd hf
  refine pb_iald (pc := 7) C 1 1 rfl rfl g7 dX8_adds_7 ?_
  obtain ⟨x8, ex8, hf⟩ := pb_bind hf
  have ex8 := Option.some.inj ex8
  refine pb_topi ex8 ?_
  refine pb_istore (lv' := [(7, .int x8), (0, .ref a_t), (1, .int p1), (2, .int p2), (3, .int p3), (4, .int p4), (5, .int p5), (6, .int p6)]) (pc := 8) C dX8_adds_8 (by decide) rfl ?_
  refine pb_iload_n (pc := 10) C dX8_adds_10 rfl 2 rfl ?_
  refine pb_iload_n (pc := 11) C dX8_adds_11 rfl 4 rfl ?_
  refine pb_iadd (pc := 12) C dX8_adds_12 ?_
  refine pb_iconst (v := 3) (pc := 13) C dX8_adds_13 pb_kI_3 ?_
  refine pb_iload (pc := 14) C dX8_adds_14 0 rfl ?_
  refine pb_imul (pc := 16) C dX8_adds_16 ?_
  refine pb_iadd (pc := 17) C dX8_adds_17 ?_
  obtain ⟨x18, ex18, hf⟩ := pb_bind hf
  have ex18 := Option.some.inj ex18
  refine pb_topi ex18 ?_
  refine pb_istore (lv' := [(8, .int x18), (7, .int x8), (0, .ref a_t), (1, .int p1), (2, .int p2), (3, .int p3), (4, .int p4), (5, .int p5), (6, .int p6)]) (pc := 18) C dX8_adds_18 (by decide) rfl ?_
  refine pb_aload_n (pc := 20) C dX8_adds_20 rfl 2 rfl ?_
  refine pb_get (pc := 21) C hnX8_adds_X8 0 rfl rfl 0 (by decide) (List.mem_of_getElem? (i := 1) rfl) rfl rfl dX8_adds_21 ?_
  refine pb_iload (pc := 24) C dX8_adds_24 0 rfl ?_
  refine pb_iload (pc := 26) C dX8_adds_26 6 rfl ?_
  obtain ⟨g28, hf⟩ := pb_grd hf
  obtain ⟨u28, eu28, hf⟩ := pb_bind hf
  have eu28 := Option.some.inj eu28
  refine pb_iast (pc := 28) (ws' := (wwX8_adds cyB cyI cyJ cyZ cyS a_t a_t_w a_t_isKept a_t_text a_t_refused a_t_numbers a_t_weights c_t_texted c_t_above c_t_below c_t_at c_t_start c_t_isWord c_t_isFigures c_t_all c_t_known c_t_truth c_t_x c_t_h u28)) C 1 1 rfl rfl g28 eu28 rfl dX8_adds_28 ?_
  refine pb_aload_n (pc := 29) C dX8_adds_29 rfl 2 rfl ?_
  refine pb_get (pc := 30) C hnX8_adds_X8 0 rfl rfl 0 (by decide) (List.mem_of_getElem? (i := 1) rfl) rfl rfl dX8_adds_30 ?_
  refine pb_iload (pc := 33) C dX8_adds_33 0 rfl ?_
  refine pb_iconst (v := 1) (pc := 35) C dX8_adds_35 pb_kI_1 ?_
  refine pb_iadd (pc := 36) C dX8_adds_36 ?_
  refine pb_iload (pc := 37) C dX8_adds_37 7 rfl ?_
  obtain ⟨g39, hf⟩ := pb_grd hf
  obtain ⟨u39, eu39, hf⟩ := pb_bind hf
  have eu39 := Option.some.inj eu39
  refine pb_iast (pc := 39) (ws' := (wwX8_adds cyB cyI cyJ cyZ cyS a_t a_t_w a_t_isKept a_t_text a_t_refused a_t_numbers a_t_weights c_t_texted c_t_above c_t_below c_t_at c_t_start c_t_isWord c_t_isFigures c_t_all c_t_known c_t_truth c_t_x c_t_h u39)) C 1 1 rfl rfl g39 eu39 rfl dX8_adds_39 ?_
  refine pb_aload_n (pc := 40) C dX8_adds_40 rfl 2 rfl ?_
  refine pb_get (pc := 41) C hnX8_adds_X8 0 rfl rfl 0 (by decide) (List.mem_of_getElem? (i := 1) rfl) rfl rfl dX8_adds_41 ?_
  refine pb_iload (pc := 44) C dX8_adds_44 0 rfl ?_
  refine pb_iconst (v := 2) (pc := 46) C dX8_adds_46 pb_kI_2 ?_
  refine pb_iadd (pc := 47) C dX8_adds_47 ?_
  refine pb_iload (pc := 48) C dX8_adds_48 8 rfl ?_
  obtain ⟨g50, hf⟩ := pb_grd hf
  obtain ⟨u50, eu50, hf⟩ := pb_bind hf
  have eu50 := Option.some.inj eu50
  refine pb_iast (pc := 50) (ws' := (wwX8_adds cyB cyI cyJ cyZ cyS a_t a_t_w a_t_isKept a_t_text a_t_refused a_t_numbers a_t_weights c_t_texted c_t_above c_t_below c_t_at c_t_start c_t_isWord c_t_isFigures c_t_all c_t_known c_t_truth c_t_x c_t_h u50)) C 1 1 rfl rfl g50 eu50 rfl dX8_adds_50 ?_
  refine pb_aload_n (pc := 51) C dX8_adds_51 rfl 2 rfl ?_
  refine pb_get (pc := 52) C hnX8_adds_X8 0 rfl rfl 0 (by decide) (List.mem_of_getElem? (i := 1) rfl) rfl rfl dX8_adds_52 ?_
  refine pb_iload_n (pc := 55) C dX8_adds_55 rfl 3 rfl ?_
  refine pb_iload_n (pc := 56) C dX8_adds_56 rfl 4 rfl ?_
  refine pb_iadd (pc := 57) C dX8_adds_57 ?_
  refine pb_dup2_11 (pc := 58) C dX8_adds_58 rfl rfl ?_
  obtain ⟨g59, hf⟩ := pb_grd hf
  refine pb_iald (pc := 59) C 1 1 rfl rfl g59 dX8_adds_59 ?_
  refine pb_iconst (v := 1) (pc := 60) C dX8_adds_60 pb_kI_1 ?_
  refine pb_iadd (pc := 61) C dX8_adds_61 ?_
  obtain ⟨g62, hf⟩ := pb_grd hf
  obtain ⟨u62, eu62, hf⟩ := pb_bind hf
  have eu62 := Option.some.inj eu62
  refine pb_iast (pc := 62) (ws' := (wwX8_adds cyB cyI cyJ cyZ cyS a_t a_t_w a_t_isKept a_t_text a_t_refused a_t_numbers a_t_weights c_t_texted c_t_above c_t_below c_t_at c_t_start c_t_isWord c_t_isFigures c_t_all c_t_known c_t_truth c_t_x c_t_h u62)) C 1 1 rfl rfl g62 eu62 rfl dX8_adds_62 ?_
  refine pb_iload (pc := 63) C dX8_adds_63 1 rfl ?_
  obtain rfl := Option.some.inj hf
  exact pb_iret (pc := 65) C hr hlk hA dX8_adds_65
def rmX8_adds5 : Room := { frames := 0, cells := 0, slots := 0, locals := 0 }
def wwX8_adds5 (cyB cyI cyJ cyZ cyS : ClassId) (a_t a_t_w a_t_isKept a_t_text a_t_refused a_t_numbers a_t_weights : Nat) (c_t_texted : Int32) (c_t_above : Int64) (c_t_below : Int64) (c_t_at : Int32) (c_t_start : Int32) (c_t_isWord : Int32) (c_t_isFigures : Int32) (c_t_all : Int64) (c_t_known : Int32) (c_t_truth : Int32) (c_t_x : Int64) (c_t_h : Int64) (c_t_w : (Nat → Int32)) : va_W := [(a_t, .inr (8, [.ref a_t_w, .ref a_t_isKept, .ref a_t_text, .int c_t_texted, .ref a_t_refused, .long c_t_above, .long c_t_below, .int c_t_at, .int c_t_start, .int c_t_isWord, .int c_t_isFigures, .ref a_t_numbers, .ref a_t_weights, .long c_t_all, .int c_t_known, .int c_t_truth, .long c_t_x, .long c_t_h])), (a_t_w, .inl (cyI, 1508, .inl c_t_w))]
theorem hnX8_adds5_X8 : ∀ w ∈ wsX80, w ∈ wsX8_adds5 := fun _ h => List.mem_cons_of_mem _ (List.mem_append_right _ h)
set_option maxHeartbeats 4000000 in
set_option maxRecDepth 100000 in
theorem kcX8_adds5 (l : Launch) (dC : Nat → ClassId) (dI : Nat → Nat → Nat) (cyB cyI cyJ cyZ cyS : ClassId) (a_t a_t_w a_t_isKept a_t_text a_t_refused a_t_numbers a_t_weights : Nat) (c_t_texted : Int32) (c_t_above : Int64) (c_t_below : Int64) (c_t_at : Int32) (c_t_start : Int32) (c_t_isWord : Int32) (c_t_isFigures : Int32) (c_t_all : Int64) (c_t_known : Int32) (c_t_truth : Int32) (c_t_x : Int64) (c_t_h : Int64) (c_t_w : (Nat → Int32)) (p1 : Int32) (p2 : Int32) (p3 : Int32) (p4 : Int32) (p5 : Int32) (p6 : Int32) (p7 : Int32) (p8 : Int32) (out : (Int32 × (Nat → Int32))) (hf : fX8_adds5 c_t_w p1 p2 p3 p4 p5 p6 p7 p8 = some out) : pb_K l yX8_adds5 wsX8_adds5 rmX8_adds5 (dC, dI) vwCl (pb_tys cyB cyI cyJ cyZ cyS) pb_NW [.ref a_t, .int p1, .int p2, .int p3, .int p4, .int p5, .int p6, .int p7, .int p8] (wwX8_adds5 cyB cyI cyJ cyZ cyS a_t a_t_w a_t_isKept a_t_text a_t_refused a_t_numbers a_t_weights c_t_texted c_t_above c_t_below c_t_at c_t_start c_t_isWord c_t_isFigures c_t_all c_t_known c_t_truth c_t_x c_t_h c_t_w) (wwX8_adds5 cyB cyI cyJ cyZ cyS a_t a_t_w a_t_isKept a_t_text a_t_refused a_t_numbers a_t_weights c_t_texted c_t_above c_t_below c_t_at c_t_start c_t_isWord c_t_isFigures c_t_all c_t_known c_t_truth c_t_x c_t_h out.2) (some (.int out.1)) := by
  unfold fX8_adds5 at hf
  refine pb_K.ofV (cc := cX8_adds5) (maxL := 11) (ret := (some .int)) (lv0 := [(0, .ref a_t), (1, .int p1), (2, .int p2), (3, .int p3), (4, .int p4), (5, .int p5), (6, .int p6), (7, .int p7), (8, .int p8)]) (by decide) rfl (Nat.le_of_ble_eq_true rfl) rfl ?_
  intro p e s m below meth c A C hX hr hlk hA
  refine pb_aload_n (pc := 0) C dX8_adds5_0 rfl 0 rfl ?_
  refine pb_get (pc := 1) C hnX8_adds5_X8 0 rfl rfl 0 (by decide) (List.mem_of_getElem? (i := 1) rfl) rfl rfl dX8_adds5_1 ?_
  refine pb_iload_n (pc := 4) C dX8_adds5_4 rfl 1 rfl ?_
  refine pb_iload_n (pc := 5) C dX8_adds5_5 rfl 2 rfl ?_
  refine pb_iadd (pc := 6) C dX8_adds5_6 ?_
  obtain ⟨g7, hf⟩ := pb_grd hf
  refine pb_iald (pc := 7) C 1 1 rfl rfl g7 dX8_adds5_7 ?_
  obtain ⟨x8, ex8, hf⟩ := pb_bind hf
  have ex8 := Option.some.inj ex8
  refine pb_topi ex8 ?_
  refine pb_istore (lv' := [(9, .int x8), (0, .ref a_t), (1, .int p1), (2, .int p2), (3, .int p3), (4, .int p4), (5, .int p5), (6, .int p6), (7, .int p7), (8, .int p8)]) (pc := 8) C dX8_adds5_8 (by decide) rfl ?_
  refine pb_iload_n (pc := 10) C dX8_adds5_10 rfl 2 rfl ?_
  refine pb_iload_n (pc := 11) C dX8_adds5_11 rfl 4 rfl ?_
  refine pb_iadd (pc := 12) C dX8_adds5_12 ?_
  refine pb_iconst (v := 5) (pc := 13) C dX8_adds5_13 pb_kI_5 ?_
  refine pb_iload (pc := 14) C dX8_adds5_14 0 rfl ?_
  refine pb_imul (pc := 16) C dX8_adds5_16 ?_
  refine pb_iadd (pc := 17) C dX8_adds5_17 ?_
  obtain ⟨x18, ex18, hf⟩ := pb_bind hf
  have ex18 := Option.some.inj ex18
  refine pb_topi ex18 ?_
  refine pb_istore (lv' := [(10, .int x18), (9, .int x8), (0, .ref a_t), (1, .int p1), (2, .int p2), (3, .int p3), (4, .int p4), (5, .int p5), (6, .int p6), (7, .int p7), (8, .int p8)]) (pc := 18) C dX8_adds5_18 (by decide) rfl ?_
  refine pb_aload_n (pc := 20) C dX8_adds5_20 rfl 2 rfl ?_
  refine pb_get (pc := 21) C hnX8_adds5_X8 0 rfl rfl 0 (by decide) (List.mem_of_getElem? (i := 1) rfl) rfl rfl dX8_adds5_21 ?_
  refine pb_iload (pc := 24) C dX8_adds5_24 0 rfl ?_
  refine pb_iload (pc := 26) C dX8_adds5_26 6 rfl ?_
  obtain ⟨g28, hf⟩ := pb_grd hf
  obtain ⟨u28, eu28, hf⟩ := pb_bind hf
  have eu28 := Option.some.inj eu28
  refine pb_iast (pc := 28) (ws' := (wwX8_adds5 cyB cyI cyJ cyZ cyS a_t a_t_w a_t_isKept a_t_text a_t_refused a_t_numbers a_t_weights c_t_texted c_t_above c_t_below c_t_at c_t_start c_t_isWord c_t_isFigures c_t_all c_t_known c_t_truth c_t_x c_t_h u28)) C 1 1 rfl rfl g28 eu28 rfl dX8_adds5_28 ?_
  refine pb_aload_n (pc := 29) C dX8_adds5_29 rfl 2 rfl ?_
  refine pb_get (pc := 30) C hnX8_adds5_X8 0 rfl rfl 0 (by decide) (List.mem_of_getElem? (i := 1) rfl) rfl rfl dX8_adds5_30 ?_
  refine pb_iload (pc := 33) C dX8_adds5_33 0 rfl ?_
  refine pb_iconst (v := 1) (pc := 35) C dX8_adds5_35 pb_kI_1 ?_
  refine pb_iadd (pc := 36) C dX8_adds5_36 ?_
  refine pb_iload (pc := 37) C dX8_adds5_37 7 rfl ?_
  obtain ⟨g39, hf⟩ := pb_grd hf
  obtain ⟨u39, eu39, hf⟩ := pb_bind hf
  have eu39 := Option.some.inj eu39
  refine pb_iast (pc := 39) (ws' := (wwX8_adds5 cyB cyI cyJ cyZ cyS a_t a_t_w a_t_isKept a_t_text a_t_refused a_t_numbers a_t_weights c_t_texted c_t_above c_t_below c_t_at c_t_start c_t_isWord c_t_isFigures c_t_all c_t_known c_t_truth c_t_x c_t_h u39)) C 1 1 rfl rfl g39 eu39 rfl dX8_adds5_39 ?_
  refine pb_aload_n (pc := 40) C dX8_adds5_40 rfl 2 rfl ?_
  refine pb_get (pc := 41) C hnX8_adds5_X8 0 rfl rfl 0 (by decide) (List.mem_of_getElem? (i := 1) rfl) rfl rfl dX8_adds5_41 ?_
  refine pb_iload (pc := 44) C dX8_adds5_44 0 rfl ?_
  refine pb_iconst (v := 2) (pc := 46) C dX8_adds5_46 pb_kI_2 ?_
  refine pb_iadd (pc := 47) C dX8_adds5_47 ?_
  refine pb_iload (pc := 48) C dX8_adds5_48 8 rfl ?_
  obtain ⟨g50, hf⟩ := pb_grd hf
  obtain ⟨u50, eu50, hf⟩ := pb_bind hf
  have eu50 := Option.some.inj eu50
  refine pb_iast (pc := 50) (ws' := (wwX8_adds5 cyB cyI cyJ cyZ cyS a_t a_t_w a_t_isKept a_t_text a_t_refused a_t_numbers a_t_weights c_t_texted c_t_above c_t_below c_t_at c_t_start c_t_isWord c_t_isFigures c_t_all c_t_known c_t_truth c_t_x c_t_h u50)) C 1 1 rfl rfl g50 eu50 rfl dX8_adds5_50 ?_
  refine pb_aload_n (pc := 51) C dX8_adds5_51 rfl 2 rfl ?_
  refine pb_get (pc := 52) C hnX8_adds5_X8 0 rfl rfl 0 (by decide) (List.mem_of_getElem? (i := 1) rfl) rfl rfl dX8_adds5_52 ?_
  refine pb_iload (pc := 55) C dX8_adds5_55 0 rfl ?_
  refine pb_iconst (v := 3) (pc := 57) C dX8_adds5_57 pb_kI_3 ?_
  refine pb_iadd (pc := 58) C dX8_adds5_58 ?_
  refine pb_iload (pc := 59) C dX8_adds5_59 9 rfl ?_
  obtain ⟨g61, hf⟩ := pb_grd hf
  obtain ⟨u61, eu61, hf⟩ := pb_bind hf
  have eu61 := Option.some.inj eu61
  refine pb_iast (pc := 61) (ws' := (wwX8_adds5 cyB cyI cyJ cyZ cyS a_t a_t_w a_t_isKept a_t_text a_t_refused a_t_numbers a_t_weights c_t_texted c_t_above c_t_below c_t_at c_t_start c_t_isWord c_t_isFigures c_t_all c_t_known c_t_truth c_t_x c_t_h u61)) C 1 1 rfl rfl g61 eu61 rfl dX8_adds5_61 ?_
  refine pb_aload_n (pc := 62) C dX8_adds5_62 rfl 2 rfl ?_
  refine pb_get (pc := 63) C hnX8_adds5_X8 0 rfl rfl 0 (by decide) (List.mem_of_getElem? (i := 1) rfl) rfl rfl dX8_adds5_63 ?_
  refine pb_iload (pc := 66) C dX8_adds5_66 0 rfl ?_
  refine pb_iconst (v := 4) (pc := 68) C dX8_adds5_68 pb_kI_4 ?_
  refine pb_iadd (pc := 69) C dX8_adds5_69 ?_
  refine pb_iload (pc := 70) C dX8_adds5_70 10 rfl ?_
  obtain ⟨g72, hf⟩ := pb_grd hf
  obtain ⟨u72, eu72, hf⟩ := pb_bind hf
  have eu72 := Option.some.inj eu72
  refine pb_iast (pc := 72) (ws' := (wwX8_adds5 cyB cyI cyJ cyZ cyS a_t a_t_w a_t_isKept a_t_text a_t_refused a_t_numbers a_t_weights c_t_texted c_t_above c_t_below c_t_at c_t_start c_t_isWord c_t_isFigures c_t_all c_t_known c_t_truth c_t_x c_t_h u72)) C 1 1 rfl rfl g72 eu72 rfl dX8_adds5_72 ?_
  refine pb_aload_n (pc := 73) C dX8_adds5_73 rfl 2 rfl ?_
  refine pb_get (pc := 74) C hnX8_adds5_X8 0 rfl rfl 0 (by decide) (List.mem_of_getElem? (i := 1) rfl) rfl rfl dX8_adds5_74 ?_
  refine pb_iload_n (pc := 77) C dX8_adds5_77 rfl 3 rfl ?_
  refine pb_iload_n (pc := 78) C dX8_adds5_78 rfl 4 rfl ?_
  refine pb_iadd (pc := 79) C dX8_adds5_79 ?_
  refine pb_dup2_11 (pc := 80) C dX8_adds5_80 rfl rfl ?_
  obtain ⟨g81, hf⟩ := pb_grd hf
  refine pb_iald (pc := 81) C 1 1 rfl rfl g81 dX8_adds5_81 ?_
  refine pb_iconst (v := 1) (pc := 82) C dX8_adds5_82 pb_kI_1 ?_
  refine pb_iadd (pc := 83) C dX8_adds5_83 ?_
  obtain ⟨g84, hf⟩ := pb_grd hf
  obtain ⟨u84, eu84, hf⟩ := pb_bind hf
  have eu84 := Option.some.inj eu84
  refine pb_iast (pc := 84) (ws' := (wwX8_adds5 cyB cyI cyJ cyZ cyS a_t a_t_w a_t_isKept a_t_text a_t_refused a_t_numbers a_t_weights c_t_texted c_t_above c_t_below c_t_at c_t_start c_t_isWord c_t_isFigures c_t_all c_t_known c_t_truth c_t_x c_t_h u84)) C 1 1 rfl rfl g84 eu84 rfl dX8_adds5_84 ?_
  refine pb_iload (pc := 85) C dX8_adds5_85 1 rfl ?_
  obtain rfl := Option.some.inj hf
  exact pb_iret (pc := 87) C hr hlk hA dX8_adds5_87
def rmX8_rule : Room := { frames := 2, cells := 0, slots := 0, locals := 45 }
def wwX8_rule (cyB cyI cyJ cyZ cyS : ClassId) (a_t a_t_w a_t_isKept a_t_text a_t_refused a_t_numbers a_t_weights : Nat) (c_t_texted : Int32) (c_t_above : Int64) (c_t_below : Int64) (c_t_at : Int32) (c_t_start : Int32) (c_t_isWord : Int32) (c_t_isFigures : Int32) (c_t_all : Int64) (c_t_known : Int32) (c_t_truth : Int32) (c_t_x : Int64) (c_t_h : Int64) (c_t_w : (Nat → Int32)) (c_t_refused : (Nat → Int32)) : va_W := [(a_t, .inr (8, [.ref a_t_w, .ref a_t_isKept, .ref a_t_text, .int c_t_texted, .ref a_t_refused, .long c_t_above, .long c_t_below, .int c_t_at, .int c_t_start, .int c_t_isWord, .int c_t_isFigures, .ref a_t_numbers, .ref a_t_weights, .long c_t_all, .int c_t_known, .int c_t_truth, .long c_t_x, .long c_t_h])), (a_t_w, .inl (cyI, 1508, .inl c_t_w)), (a_t_refused, .inl (cyI, 3, .inl c_t_refused))]
theorem hnX8_rule_X8 : ∀ w ∈ wsX80, w ∈ wsX8_rule := fun _ h => List.mem_cons_of_mem _ (List.mem_append_right _ h)
set_option maxHeartbeats 4000000 in
set_option maxRecDepth 100000 in
theorem kcX8_rule (l : Launch) (dC : Nat → ClassId) (dI : Nat → Nat → Nat) (cyB cyI cyJ cyZ cyS : ClassId) (a_t a_t_w a_t_isKept a_t_text a_t_refused a_t_numbers a_t_weights : Nat) (c_t_texted : Int32) (c_t_above : Int64) (c_t_below : Int64) (c_t_at : Int32) (c_t_start : Int32) (c_t_isWord : Int32) (c_t_isFigures : Int32) (c_t_all : Int64) (c_t_known : Int32) (c_t_truth : Int32) (c_t_x : Int64) (c_t_h : Int64) (c_t_w : (Nat → Int32)) (c_t_refused : (Nat → Int32)) (p1 : Int32) (p2 : Int32) (p3 : Int32) (out : (Int32 × (Nat → Int32) × (Nat → Int32))) (hf : fX8_rule c_t_w c_t_refused p1 p2 p3 = some out) : pb_K l yX8_rule wsX8_rule rmX8_rule (dC, dI) vwCl (pb_tys cyB cyI cyJ cyZ cyS) pb_NW [.ref a_t, .int p1, .int p2, .int p3] (wwX8_rule cyB cyI cyJ cyZ cyS a_t a_t_w a_t_isKept a_t_text a_t_refused a_t_numbers a_t_weights c_t_texted c_t_above c_t_below c_t_at c_t_start c_t_isWord c_t_isFigures c_t_all c_t_known c_t_truth c_t_x c_t_h c_t_w c_t_refused) (wwX8_rule cyB cyI cyJ cyZ cyS a_t a_t_w a_t_isKept a_t_text a_t_refused a_t_numbers a_t_weights c_t_texted c_t_above c_t_below c_t_at c_t_start c_t_isWord c_t_isFigures c_t_all c_t_known c_t_truth c_t_x c_t_h out.2.1 out.2.2) (some (.int out.1)) := by
  unfold fX8_rule at hf
  refine pb_K.ofV (cc := cX8_rule) (maxL := 4) (ret := (some .int)) (lv0 := [(0, .ref a_t), (1, .int p1), (2, .int p2), (3, .int p3)]) (by decide) rfl (Nat.le_of_ble_eq_true rfl) rfl ?_
  intro p e s m below meth c A C hX hr hlk hA
  refine pb_iload_n (pc := 0) C dX8_rule_0 rfl 1 rfl ?_
  refine pb_i2l (pc := 1) C dX8_rule_1 ?_
  refine pb_lconst (v := 0) (pc := 2) C dX8_rule_2 pb_kL_0 ?_
  refine pb_ldc2 (v := 3) (pc := 3) C dX8_rule_3 (List.mem_of_getElem? (i := 1) rfl) ?_
  obtain ⟨r6, hr6, hf⟩ := pb_bind hf
  refine pb_callS (pc := 6) (n0 := 3) (ws' := (wwX8_rule cyB cyI cyJ cyZ cyS a_t a_t_w a_t_isKept a_t_text a_t_refused a_t_numbers a_t_weights c_t_texted c_t_above c_t_below c_t_at c_t_start c_t_isWord c_t_isFigures c_t_all c_t_known c_t_truth c_t_x c_t_h c_t_w c_t_refused)) (rest := []) (st2 := [.int r6]) C (kcX8_in l dC dI cyB cyI cyJ cyZ cyS (Int32.toInt64 p1) 0 3 r6 hr6) pb_NW_b (pb_NW_x hX) (va_cwS 3 C.1.2.2.2.2 gX8_rule_X8_in rfl rfl rfl kdS_X8_in ⟨Nat.le_of_ble_eq_true rfl, Nat.le_of_ble_eq_true rfl⟩) [] [0, 1, 2] rfl rfl ⟨⟨_, rfl, rfl⟩, ⟨⟨_, rfl, rfl⟩, ⟨⟨_, rfl, rfl⟩, trivial⟩⟩⟩ rfl (by decide +kernel) (adl := []) rfl rfl rfl rfl rfl (Nat.le_of_ble_eq_true rfl) ⟨Nat.le_refl _, Nat.le_refl _⟩ dX8_rule_6 rfl ?_
  refine pb_if_eq (pc := 9) (tgt := 26) C dX8_rule_9 (by decide) (fun hc9 => ?_) (fun hc9 => ?_)
  · have hf := pb_pos hf hc9
    refine pb_aload_n (pc := 26) C dX8_rule_26 rfl 0 rfl ?_
    obtain ⟨r27, hr27, hf⟩ := pb_bind hf
    refine pb_callV (pc := 27) (n0 := 3) (ws' := (wwX8_rule cyB cyI cyJ cyZ cyS a_t a_t_w a_t_isKept a_t_text a_t_refused a_t_numbers a_t_weights c_t_texted c_t_above c_t_below c_t_at c_t_start c_t_isWord c_t_isFigures c_t_all c_t_known c_t_truth c_t_x c_t_h c_t_w r27.2)) (rest := []) (st2 := [.int r27.1]) C (kcX8_bad l dC dI cyB cyI cyJ cyZ cyS a_t a_t_w a_t_isKept a_t_text a_t_refused a_t_numbers a_t_weights c_t_texted c_t_above c_t_below c_t_at c_t_start c_t_isWord c_t_isFigures c_t_all c_t_known c_t_truth c_t_x c_t_h c_t_refused r27 hr27) pb_NW_b (pb_NW_x hX) (cwV 0 C.1.2.2.2.2 gX8_rule_X8_bad rfl rfl rfl kdV_X8_bad ⟨Nat.le_of_ble_eq_true rfl, Nat.le_of_ble_eq_true rfl⟩) 0 rfl rfl [0, 2] [1] rfl rfl ⟨⟨_, rfl, rfl⟩, trivial⟩ rfl (by decide +kernel) (adl := [a_t, a_t_refused]) rfl rfl rfl rfl rfl (Nat.le_of_ble_eq_true rfl) ⟨Nat.le_refl _, Nat.le_refl _⟩ dX8_rule_27 rfl ?_
    obtain rfl := Option.some.inj hf
    exact pb_iret (pc := 30) C hr hlk hA dX8_rule_30
  · have hf := pb_neg hf hc9
    refine pb_iload_n (pc := 12) C dX8_rule_12 rfl 2 rfl ?_
    obtain ⟨r13, hr13, hf⟩ := pb_bind hf
    refine pb_callS (pc := 13) (n0 := 3) (ws' := (wwX8_rule cyB cyI cyJ cyZ cyS a_t a_t_w a_t_isKept a_t_text a_t_refused a_t_numbers a_t_weights c_t_texted c_t_above c_t_below c_t_at c_t_start c_t_isWord c_t_isFigures c_t_all c_t_known c_t_truth c_t_x c_t_h c_t_w c_t_refused)) (rest := []) (st2 := [.int r13]) C (kcX8_isFact l dC dI cyB cyI cyJ cyZ cyS p2 r13 hr13) pb_NW_b (pb_NW_x hX) (va_cwS 1 C.1.2.2.2.2 gX8_rule_X8_isFact rfl rfl rfl kdS_X8_isFact ⟨Nat.le_of_ble_eq_true rfl, Nat.le_of_ble_eq_true rfl⟩) [] [0, 1, 2] rfl rfl ⟨⟨_, rfl, rfl⟩, ⟨⟨_, rfl, rfl⟩, ⟨⟨_, rfl, rfl⟩, trivial⟩⟩⟩ rfl (by decide +kernel) (adl := []) rfl rfl rfl rfl rfl (Nat.le_of_ble_eq_true rfl) ⟨Nat.le_refl _, Nat.le_refl _⟩ dX8_rule_13 rfl ?_
    refine pb_if_eq (pc := 16) (tgt := 26) C dX8_rule_16 (by decide) (fun hc16 => ?_) (fun hc16 => ?_)
    · have hf := pb_pos hf hc16
      refine pb_aload_n (pc := 26) C dX8_rule_26 rfl 0 rfl ?_
      obtain ⟨r27, hr27, hf⟩ := pb_bind hf
      refine pb_callV (pc := 27) (n0 := 3) (ws' := (wwX8_rule cyB cyI cyJ cyZ cyS a_t a_t_w a_t_isKept a_t_text a_t_refused a_t_numbers a_t_weights c_t_texted c_t_above c_t_below c_t_at c_t_start c_t_isWord c_t_isFigures c_t_all c_t_known c_t_truth c_t_x c_t_h c_t_w r27.2)) (rest := []) (st2 := [.int r27.1]) C (kcX8_bad l dC dI cyB cyI cyJ cyZ cyS a_t a_t_w a_t_isKept a_t_text a_t_refused a_t_numbers a_t_weights c_t_texted c_t_above c_t_below c_t_at c_t_start c_t_isWord c_t_isFigures c_t_all c_t_known c_t_truth c_t_x c_t_h c_t_refused r27 hr27) pb_NW_b (pb_NW_x hX) (cwV 0 C.1.2.2.2.2 gX8_rule_X8_bad rfl rfl rfl kdV_X8_bad ⟨Nat.le_of_ble_eq_true rfl, Nat.le_of_ble_eq_true rfl⟩) 0 rfl rfl [0, 2] [1] rfl rfl ⟨⟨_, rfl, rfl⟩, trivial⟩ rfl (by decide +kernel) (adl := [a_t, a_t_refused]) rfl rfl rfl rfl rfl (Nat.le_of_ble_eq_true rfl) ⟨Nat.le_refl _, Nat.le_refl _⟩ dX8_rule_27 rfl ?_
      obtain rfl := Option.some.inj hf
      exact pb_iret (pc := 30) C hr hlk hA dX8_rule_30
    · have hf := pb_neg hf hc16
      refine pb_iload_n (pc := 19) C dX8_rule_19 rfl 3 rfl ?_
      obtain ⟨r20, hr20, hf⟩ := pb_bind hf
      refine pb_callS (pc := 20) (n0 := 3) (ws' := (wwX8_rule cyB cyI cyJ cyZ cyS a_t a_t_w a_t_isKept a_t_text a_t_refused a_t_numbers a_t_weights c_t_texted c_t_above c_t_below c_t_at c_t_start c_t_isWord c_t_isFigures c_t_all c_t_known c_t_truth c_t_x c_t_h c_t_w c_t_refused)) (rest := []) (st2 := [.int r20]) C (kcX8_isFact l dC dI cyB cyI cyJ cyZ cyS p3 r20 hr20) pb_NW_b (pb_NW_x hX) (va_cwS 1 C.1.2.2.2.2 gX8_rule_X8_isFact rfl rfl rfl kdS_X8_isFact ⟨Nat.le_of_ble_eq_true rfl, Nat.le_of_ble_eq_true rfl⟩) [] [0, 1, 2] rfl rfl ⟨⟨_, rfl, rfl⟩, ⟨⟨_, rfl, rfl⟩, ⟨⟨_, rfl, rfl⟩, trivial⟩⟩⟩ rfl (by decide +kernel) (adl := []) rfl rfl rfl rfl rfl (Nat.le_of_ble_eq_true rfl) ⟨Nat.le_refl _, Nat.le_refl _⟩ dX8_rule_20 rfl ?_
      refine pb_if_ne (pc := 23) (tgt := 31) C dX8_rule_23 (by decide) (fun hc23 => ?_) (fun hc23 => ?_)
      · have hf := pb_neg hf hc23
        refine pb_aload_n (pc := 31) C dX8_rule_31 rfl 0 rfl ?_
        refine pb_get (pc := 32) C hnX8_rule_X8 0 rfl rfl 0 (by decide) (List.mem_of_getElem? (i := 2) rfl) rfl rfl dX8_rule_32 ?_
        refine pb_iconst (v := 0) (pc := 35) C dX8_rule_35 pb_kI_0 ?_
        refine pb_iald (pc := 36) C 1 1 rfl rfl pb_ok_0_1508 dX8_rule_36 ?_
        refine pb_topi (congrArg c_t_w pb_kN_0) ?_
        refine pb_bipush (v := 8) (pc := 37) C dX8_rule_37 pb_kB_8 ?_
        refine pb_icmp_ne (pc := 39) (tgt := 47) C dX8_rule_39 (by decide) (fun hc39 => ?_) (fun hc39 => ?_)
        · have hf := pb_neg hf hc39
          refine pb_aload_n (pc := 47) C dX8_rule_47 rfl 0 rfl ?_
          refine pb_get (pc := 48) C hnX8_rule_X8 0 rfl rfl 0 (by decide) (List.mem_of_getElem? (i := 2) rfl) rfl rfl dX8_rule_48 ?_
          refine pb_iconst (v := 4) (pc := 51) C dX8_rule_51 pb_kI_4 ?_
          refine pb_iconst (v := 0) (pc := 52) C dX8_rule_52 pb_kI_0 ?_
          obtain ⟨u53, eu53, hf⟩ := pb_bind hf
          have eu53 := Option.some.inj eu53
          refine pb_iast (pc := 53) (ws' := (wwX8_rule cyB cyI cyJ cyZ cyS a_t a_t_w a_t_isKept a_t_text a_t_refused a_t_numbers a_t_weights c_t_texted c_t_above c_t_below c_t_at c_t_start c_t_isWord c_t_isFigures c_t_all c_t_known c_t_truth c_t_x c_t_h u53 c_t_refused)) C 1 1 rfl rfl pb_ok_4_1508 ((congrArg (fun k => upd c_t_w k 0) pb_kN_4).trans eu53) rfl dX8_rule_53 ?_
          refine pb_aload_n (pc := 54) C dX8_rule_54 rfl 0 rfl ?_
          refine pb_iconst (v := 0) (pc := 55) C dX8_rule_55 pb_kI_0 ?_
          refine pb_iconst (v := 0) (pc := 56) C dX8_rule_56 pb_kI_0 ?_
          refine pb_iconst (v := 5) (pc := 57) C dX8_rule_57 pb_kI_5 ?_
          refine pb_iload_n (pc := 58) C dX8_rule_58 rfl 1 rfl ?_
          refine pb_iload_n (pc := 59) C dX8_rule_59 rfl 2 rfl ?_
          refine pb_iload_n (pc := 60) C dX8_rule_60 rfl 3 rfl ?_
          obtain ⟨r61, hr61, hf⟩ := pb_bind hf
          refine pb_callV (pc := 61) (n0 := 3) (ws' := (wwX8_rule cyB cyI cyJ cyZ cyS a_t a_t_w a_t_isKept a_t_text a_t_refused a_t_numbers a_t_weights c_t_texted c_t_above c_t_below c_t_at c_t_start c_t_isWord c_t_isFigures c_t_all c_t_known c_t_truth c_t_x c_t_h r61.2 c_t_refused)) (rest := []) (st2 := [.int r61.1]) C (kcX8_adds l dC dI cyB cyI cyJ cyZ cyS a_t a_t_w a_t_isKept a_t_text a_t_refused a_t_numbers a_t_weights c_t_texted c_t_above c_t_below c_t_at c_t_start c_t_isWord c_t_isFigures c_t_all c_t_known c_t_truth c_t_x c_t_h u53 0 0 5 p1 p2 p3 r61 hr61) pb_NW_b (pb_NW_x hX) (cwV 6 C.1.2.2.2.2 gX8_rule_X8_adds rfl rfl rfl kdV_X8_adds ⟨Nat.le_of_ble_eq_true rfl, Nat.le_of_ble_eq_true rfl⟩) 0 rfl rfl [0, 1] [2] rfl rfl ⟨⟨_, rfl, rfl⟩, trivial⟩ rfl (by decide +kernel) (adl := [a_t, a_t_w]) rfl rfl rfl rfl rfl (Nat.le_of_ble_eq_true rfl) ⟨Nat.le_refl _, Nat.le_refl _⟩ dX8_rule_61 rfl ?_
          obtain rfl := Option.some.inj hf
          exact pb_iret (pc := 64) C hr hlk hA dX8_rule_64
        · have hf := pb_pos hf hc39
          refine pb_aload_n (pc := 42) C dX8_rule_42 rfl 0 rfl ?_
          obtain ⟨r43, hr43, hf⟩ := pb_bind hf
          refine pb_callV (pc := 43) (n0 := 3) (ws' := (wwX8_rule cyB cyI cyJ cyZ cyS a_t a_t_w a_t_isKept a_t_text a_t_refused a_t_numbers a_t_weights c_t_texted c_t_above c_t_below c_t_at c_t_start c_t_isWord c_t_isFigures c_t_all c_t_known c_t_truth c_t_x c_t_h c_t_w r43.2)) (rest := []) (st2 := [.int r43.1]) C (kcX8_full l dC dI cyB cyI cyJ cyZ cyS a_t a_t_w a_t_isKept a_t_text a_t_refused a_t_numbers a_t_weights c_t_texted c_t_above c_t_below c_t_at c_t_start c_t_isWord c_t_isFigures c_t_all c_t_known c_t_truth c_t_x c_t_h c_t_refused r43 hr43) pb_NW_b (pb_NW_x hX) (cwV 0 C.1.2.2.2.2 gX8_rule_X8_full rfl rfl rfl kdV_X8_full ⟨Nat.le_of_ble_eq_true rfl, Nat.le_of_ble_eq_true rfl⟩) 0 rfl rfl [0, 2] [1] rfl rfl ⟨⟨_, rfl, rfl⟩, trivial⟩ rfl (by decide +kernel) (adl := [a_t, a_t_refused]) rfl rfl rfl rfl rfl (Nat.le_of_ble_eq_true rfl) ⟨Nat.le_refl _, Nat.le_refl _⟩ dX8_rule_43 rfl ?_
          obtain rfl := Option.some.inj hf
          exact pb_iret (pc := 46) C hr hlk hA dX8_rule_46
      · have hf := pb_pos hf hc23
        refine pb_aload_n (pc := 26) C dX8_rule_26 rfl 0 rfl ?_
        obtain ⟨r27, hr27, hf⟩ := pb_bind hf
        refine pb_callV (pc := 27) (n0 := 3) (ws' := (wwX8_rule cyB cyI cyJ cyZ cyS a_t a_t_w a_t_isKept a_t_text a_t_refused a_t_numbers a_t_weights c_t_texted c_t_above c_t_below c_t_at c_t_start c_t_isWord c_t_isFigures c_t_all c_t_known c_t_truth c_t_x c_t_h c_t_w r27.2)) (rest := []) (st2 := [.int r27.1]) C (kcX8_bad l dC dI cyB cyI cyJ cyZ cyS a_t a_t_w a_t_isKept a_t_text a_t_refused a_t_numbers a_t_weights c_t_texted c_t_above c_t_below c_t_at c_t_start c_t_isWord c_t_isFigures c_t_all c_t_known c_t_truth c_t_x c_t_h c_t_refused r27 hr27) pb_NW_b (pb_NW_x hX) (cwV 0 C.1.2.2.2.2 gX8_rule_X8_bad rfl rfl rfl kdV_X8_bad ⟨Nat.le_of_ble_eq_true rfl, Nat.le_of_ble_eq_true rfl⟩) 0 rfl rfl [0, 2] [1] rfl rfl ⟨⟨_, rfl, rfl⟩, trivial⟩ rfl (by decide +kernel) (adl := [a_t, a_t_refused]) rfl rfl rfl rfl rfl (Nat.le_of_ble_eq_true rfl) ⟨Nat.le_refl _, Nat.le_refl _⟩ dX8_rule_27 rfl ?_
        obtain rfl := Option.some.inj hf
        exact pb_iret (pc := 30) C hr hlk hA dX8_rule_30
def rmX8_minds : Room := { frames := 0, cells := 0, slots := 0, locals := 0 }
def wwX8_minds (cyB cyI cyJ cyZ cyS : ClassId) (a_t a_t_w a_t_isKept a_t_text a_t_refused a_t_numbers a_t_weights : Nat) (c_t_texted : Int32) (c_t_above : Int64) (c_t_below : Int64) (c_t_at : Int32) (c_t_start : Int32) (c_t_isWord : Int32) (c_t_isFigures : Int32) (c_t_all : Int64) (c_t_known : Int32) (c_t_truth : Int32) (c_t_x : Int64) (c_t_h : Int64) (c_t_w : (Nat → Int32)) : va_W := [(a_t, .inr (8, [.ref a_t_w, .ref a_t_isKept, .ref a_t_text, .int c_t_texted, .ref a_t_refused, .long c_t_above, .long c_t_below, .int c_t_at, .int c_t_start, .int c_t_isWord, .int c_t_isFigures, .ref a_t_numbers, .ref a_t_weights, .long c_t_all, .int c_t_known, .int c_t_truth, .long c_t_x, .long c_t_h])), (a_t_w, .inl (cyI, 1508, .inl c_t_w))]
theorem hnX8_minds_X8 : ∀ w ∈ wsX80, w ∈ wsX8_minds := fun _ h => List.mem_cons_of_mem _ (List.mem_append_right _ h)
set_option maxHeartbeats 4000000 in
set_option maxRecDepth 100000 in
theorem kcX8_minds (l : Launch) (dC : Nat → ClassId) (dI : Nat → Nat → Nat) (cyB cyI cyJ cyZ cyS : ClassId) (a_t a_t_w a_t_isKept a_t_text a_t_refused a_t_numbers a_t_weights : Nat) (c_t_texted : Int32) (c_t_above : Int64) (c_t_below : Int64) (c_t_at : Int32) (c_t_start : Int32) (c_t_isWord : Int32) (c_t_isFigures : Int32) (c_t_all : Int64) (c_t_known : Int32) (c_t_truth : Int32) (c_t_x : Int64) (c_t_h : Int64) (c_t_w : (Nat → Int32)) (out : (Nat → Int32)) (hf : fX8_minds c_t_w = some out) : pb_K l yX8_minds wsX8_minds rmX8_minds (dC, dI) vwCl (pb_tys cyB cyI cyJ cyZ cyS) pb_NW [.ref a_t] (wwX8_minds cyB cyI cyJ cyZ cyS a_t a_t_w a_t_isKept a_t_text a_t_refused a_t_numbers a_t_weights c_t_texted c_t_above c_t_below c_t_at c_t_start c_t_isWord c_t_isFigures c_t_all c_t_known c_t_truth c_t_x c_t_h c_t_w) (wwX8_minds cyB cyI cyJ cyZ cyS a_t a_t_w a_t_isKept a_t_text a_t_refused a_t_numbers a_t_weights c_t_texted c_t_above c_t_below c_t_at c_t_start c_t_isWord c_t_isFigures c_t_all c_t_known c_t_truth c_t_x c_t_h out) none := by
  unfold fX8_minds at hf
  refine pb_K.ofV (cc := cX8_minds) (maxL := 3) (ret := none) (lv0 := [(0, .ref a_t)]) (by decide) rfl (Nat.le_of_ble_eq_true rfl) rfl ?_
  intro p e s m below meth c A C hX hr hlk hA
  refine pb_aload_n (pc := 0) C dX8_minds_0 rfl 0 rfl ?_
  refine pb_get (pc := 1) C hnX8_minds_X8 0 rfl rfl 0 (by decide) (List.mem_of_getElem? (i := 1) rfl) rfl rfl dX8_minds_1 ?_
  refine pb_iconst (v := 4) (pc := 4) C dX8_minds_4 pb_kI_4 ?_
  refine pb_iald (pc := 5) C 1 1 rfl rfl pb_ok_4_1508 dX8_minds_5 ?_
  refine pb_topi (congrArg c_t_w pb_kN_4) ?_
  refine pb_bipush (v := 8) (pc := 6) C dX8_minds_6 pb_kB_8 ?_
  obtain ⟨y59, hf, hk59⟩ := pb_bind hf
  have J59 : ∀ (j59_c_t_w : (Nat → Int32)), fX8_minds_J59 j59_c_t_w = some out → pb_V p l e rmX8_minds s m (([.ref a_t] : List Value).toArray) below meth c 3 (dC, dI) vwCl A 0 0 (pb_MQ below (([.ref a_t] : List Value).toArray) s (dC, dI) vwCl (wwX8_minds cyB cyI cyJ cyZ cyS a_t a_t_w a_t_isKept a_t_text a_t_refused a_t_numbers a_t_weights c_t_texted c_t_above c_t_below c_t_at c_t_start c_t_isWord c_t_isFigures c_t_all c_t_known c_t_truth c_t_x c_t_h c_t_w) (wwX8_minds cyB cyI cyJ cyZ cyS a_t a_t_w a_t_isKept a_t_text a_t_refused a_t_numbers a_t_weights c_t_texted c_t_above c_t_below c_t_at c_t_start c_t_isWord c_t_isFigures c_t_all c_t_known c_t_truth c_t_x c_t_h out) none A) (wwX8_minds cyB cyI cyJ cyZ cyS a_t a_t_w a_t_isKept a_t_text a_t_refused a_t_numbers a_t_weights c_t_texted c_t_above c_t_below c_t_at c_t_start c_t_isWord c_t_isFigures c_t_all c_t_known c_t_truth c_t_x c_t_h j59_c_t_w) [(0, .ref a_t)] [] 59 := by
    intro j59_c_t_w hf
    unfold fX8_minds_J59 at hf
    refine pb_sipush (v := 129) (pc := 59) C dX8_minds_59 pb_kS_129 ?_
    refine pb_bipush (v := 31) (pc := 62) C dX8_minds_62 pb_kB_31 ?_
    refine pb_aload_n (pc := 64) C dX8_minds_64 rfl 0 rfl ?_
    refine pb_get (pc := 65) C hnX8_minds_X8 0 rfl rfl 0 (by decide) (List.mem_of_getElem? (i := 1) rfl) rfl rfl dX8_minds_65 ?_
    refine pb_iconst (v := 4) (pc := 68) C dX8_minds_68 pb_kI_4 ?_
    refine pb_iald (pc := 69) C 1 1 rfl rfl pb_ok_4_1508 dX8_minds_69 ?_
    refine pb_topi (congrArg j59_c_t_w pb_kN_4) ?_
    refine pb_imul (pc := 70) C dX8_minds_70 ?_
    refine pb_iadd (pc := 71) C dX8_minds_71 ?_
    obtain ⟨x72, ex72, hf⟩ := pb_bind hf
    have ex72 := Option.some.inj ex72
    refine pb_topi ex72 ?_
    refine pb_istore_n (lv' := [(1, .int x72), (0, .ref a_t)]) (pc := 72) C dX8_minds_72 rfl (by decide) rfl ?_
    refine pb_aload_n (pc := 73) C dX8_minds_73 rfl 1 rfl ?_
    refine pb_get (pc := 74) C hnX8_minds_X8 0 rfl rfl 0 (by decide) (List.mem_of_getElem? (i := 1) rfl) rfl rfl dX8_minds_74 ?_
    refine pb_iload_n (pc := 77) C dX8_minds_77 rfl 0 rfl ?_
    refine pb_aload_n (pc := 78) C dX8_minds_78 rfl 1 rfl ?_
    refine pb_get (pc := 79) C hnX8_minds_X8 0 rfl rfl 0 (by decide) (List.mem_of_getElem? (i := 1) rfl) rfl rfl dX8_minds_79 ?_
    refine pb_iconst (v := 1) (pc := 82) C dX8_minds_82 pb_kI_1 ?_
    refine pb_iald (pc := 83) C 1 1 rfl rfl pb_ok_1_1508 dX8_minds_83 ?_
    refine pb_topi (congrArg j59_c_t_w pb_kN_1) ?_
    obtain ⟨g84, hf⟩ := pb_grd hf
    obtain ⟨u84, eu84, hf⟩ := pb_bind hf
    have eu84 := Option.some.inj eu84
    refine pb_iast (pc := 84) (ws' := (wwX8_minds cyB cyI cyJ cyZ cyS a_t a_t_w a_t_isKept a_t_text a_t_refused a_t_numbers a_t_weights c_t_texted c_t_above c_t_below c_t_at c_t_start c_t_isWord c_t_isFigures c_t_all c_t_known c_t_truth c_t_x c_t_h u84)) C 1 1 rfl rfl g84 eu84 rfl dX8_minds_84 ?_
    refine pb_iconst (v := 0) (pc := 85) C dX8_minds_85 pb_kI_0 ?_
    refine pb_istore_n (lv' := [(2, .int 0), (1, .int x72), (0, .ref a_t)]) (pc := 86) C dX8_minds_86 rfl (by decide) rfl ?_
    obtain ⟨z87, hz87, hk87⟩ := pb_bind hf
    have E87 : ∀ (e87_2 : Int32) (e87_c_t_w : (Nat → Int32)), fX8_minds_E87 e87_2 e87_c_t_w = some out → pb_V p l e rmX8_minds s m (([.ref a_t] : List Value).toArray) below meth c 3 (dC, dI) vwCl A 0 0 (pb_MQ below (([.ref a_t] : List Value).toArray) s (dC, dI) vwCl (wwX8_minds cyB cyI cyJ cyZ cyS a_t a_t_w a_t_isKept a_t_text a_t_refused a_t_numbers a_t_weights c_t_texted c_t_above c_t_below c_t_at c_t_start c_t_isWord c_t_isFigures c_t_all c_t_known c_t_truth c_t_x c_t_h c_t_w) (wwX8_minds cyB cyI cyJ cyZ cyS a_t a_t_w a_t_isKept a_t_text a_t_refused a_t_numbers a_t_weights c_t_texted c_t_above c_t_below c_t_at c_t_start c_t_isWord c_t_isFigures c_t_all c_t_known c_t_truth c_t_x c_t_h out) none A) (wwX8_minds cyB cyI cyJ cyZ cyS a_t a_t_w a_t_isKept a_t_text a_t_refused a_t_numbers a_t_weights c_t_texted c_t_above c_t_below c_t_at c_t_start c_t_isWord c_t_isFigures c_t_all c_t_known c_t_truth c_t_x c_t_h e87_c_t_w) [(0, .ref a_t)] [] 118 := by
      intro e87_2 e87_c_t_w hf
      unfold fX8_minds_E87 at hf
      refine pb_aload_n (pc := 118) C dX8_minds_118 rfl 0 rfl ?_
      refine pb_get (pc := 119) C hnX8_minds_X8 0 rfl rfl 0 (by decide) (List.mem_of_getElem? (i := 1) rfl) rfl rfl dX8_minds_119 ?_
      refine pb_iconst (v := 4) (pc := 122) C dX8_minds_122 pb_kI_4 ?_
      refine pb_dup2_11 (pc := 123) C dX8_minds_123 rfl rfl ?_
      refine pb_iald (pc := 124) C 1 1 rfl rfl pb_ok_4_1508 dX8_minds_124 ?_
      refine pb_topi (congrArg e87_c_t_w pb_kN_4) ?_
      refine pb_iconst (v := 1) (pc := 125) C dX8_minds_125 pb_kI_1 ?_
      refine pb_iadd (pc := 126) C dX8_minds_126 ?_
      obtain ⟨u127, eu127, hf⟩ := pb_bind hf
      have eu127 := Option.some.inj eu127
      refine pb_iast (pc := 127) (ws' := (wwX8_minds cyB cyI cyJ cyZ cyS a_t a_t_w a_t_isKept a_t_text a_t_refused a_t_numbers a_t_weights c_t_texted c_t_above c_t_below c_t_at c_t_start c_t_isWord c_t_isFigures c_t_all c_t_known c_t_truth c_t_x c_t_h u127)) C 1 1 rfl rfl pb_ok_4_1508 ((congrArg (fun k => upd e87_c_t_w k ((e87_c_t_w 4) + 1)) pb_kN_4).trans eu127) rfl dX8_minds_127 ?_
      obtain rfl := Option.some.inj hf
      exact pb_vret (pc := 128) C hr hlk hA dX8_minds_128
    have L87 : ∀ (n : Nat) (l87_2 : Int32) (l87_c_t_w : (Nat → Int32)), pb_lp (fun y => fX8_minds_L87 x72 y.1 y.2) n (l87_2, l87_c_t_w) = some z87 → pb_V p l e rmX8_minds s m (([.ref a_t] : List Value).toArray) below meth c 3 (dC, dI) vwCl A 0 0 (pb_MQ below (([.ref a_t] : List Value).toArray) s (dC, dI) vwCl (wwX8_minds cyB cyI cyJ cyZ cyS a_t a_t_w a_t_isKept a_t_text a_t_refused a_t_numbers a_t_weights c_t_texted c_t_above c_t_below c_t_at c_t_start c_t_isWord c_t_isFigures c_t_all c_t_known c_t_truth c_t_x c_t_h c_t_w) (wwX8_minds cyB cyI cyJ cyZ cyS a_t a_t_w a_t_isKept a_t_text a_t_refused a_t_numbers a_t_weights c_t_texted c_t_above c_t_below c_t_at c_t_start c_t_isWord c_t_isFigures c_t_all c_t_known c_t_truth c_t_x c_t_h out) none A) (wwX8_minds cyB cyI cyJ cyZ cyS a_t a_t_w a_t_isKept a_t_text a_t_refused a_t_numbers a_t_weights c_t_texted c_t_above c_t_below c_t_at c_t_start c_t_isWord c_t_isFigures c_t_all c_t_known c_t_truth c_t_x c_t_h l87_c_t_w) [(0, .ref a_t), (1, .int x72), (2, .int l87_2)] [] 87 := by
      intro n
      induction n with
      | zero => intro l87_2 l87_c_t_w hf; exact (pb_lp_zero hf).elim
      | succ n ih87 =>
        intro l87_2 l87_c_t_w hf
        obtain ⟨y87, hf, hl87⟩ := pb_lp_succ hf
        have hf : fX8_minds_L87 x72 l87_2 l87_c_t_w = some y87 := hf
        unfold fX8_minds_L87 at hf
        refine pb_iload_n (pc := 87) C dX8_minds_87 rfl 2 rfl ?_
        refine pb_bipush (v := 30) (pc := 88) C dX8_minds_88 pb_kB_30 ?_
        refine pb_icmp_ge (pc := 90) (tgt := 118) C dX8_minds_90 (by decide) (fun hc90 => ?_) (fun hc90 => ?_)
        · have hf := pb_pos hf hc90
          obtain rfl := Option.some.inj hf
          obtain rfl := pb_esc hl87
          refine pb_sub [0] rfl ?_
          exact E87 l87_2 l87_c_t_w hk87
        · have hf := pb_neg hf hc90
          refine pb_aload_n (pc := 93) C dX8_minds_93 rfl 0 rfl ?_
          refine pb_get (pc := 94) C hnX8_minds_X8 0 rfl rfl 0 (by decide) (List.mem_of_getElem? (i := 1) rfl) rfl rfl dX8_minds_94 ?_
          refine pb_iload_n (pc := 97) C dX8_minds_97 rfl 1 rfl ?_
          refine pb_iconst (v := 1) (pc := 98) C dX8_minds_98 pb_kI_1 ?_
          refine pb_iadd (pc := 99) C dX8_minds_99 ?_
          refine pb_iload_n (pc := 100) C dX8_minds_100 rfl 2 rfl ?_
          refine pb_iadd (pc := 101) C dX8_minds_101 ?_
          refine pb_aload_n (pc := 102) C dX8_minds_102 rfl 0 rfl ?_
          refine pb_get (pc := 103) C hnX8_minds_X8 0 rfl rfl 0 (by decide) (List.mem_of_getElem? (i := 1) rfl) rfl rfl dX8_minds_103 ?_
          refine pb_bipush (v := 29) (pc := 106) C dX8_minds_106 pb_kB_29 ?_
          refine pb_iload_n (pc := 108) C dX8_minds_108 rfl 2 rfl ?_
          refine pb_iadd (pc := 109) C dX8_minds_109 ?_
          obtain ⟨g110, hf⟩ := pb_grd hf
          refine pb_iald (pc := 110) C 1 1 rfl rfl g110 dX8_minds_110 ?_
          obtain ⟨g111, hf⟩ := pb_grd hf
          obtain ⟨u111, eu111, hf⟩ := pb_bind hf
          have eu111 := Option.some.inj eu111
          refine pb_iast (pc := 111) (ws' := (wwX8_minds cyB cyI cyJ cyZ cyS a_t a_t_w a_t_isKept a_t_text a_t_refused a_t_numbers a_t_weights c_t_texted c_t_above c_t_below c_t_at c_t_start c_t_isWord c_t_isFigures c_t_all c_t_known c_t_truth c_t_x c_t_h u111)) C 1 1 rfl rfl g111 eu111 rfl dX8_minds_111 ?_
          refine pb_iinc (v := l87_2 + 1) (lv' := [(2, .int (l87_2 + 1)), (0, .ref a_t), (1, .int x72)]) (pc := 112) C dX8_minds_112 2 rfl (pb_inc pb_kI_1 rfl) (by decide) rfl ?_
          refine pb_goto (pc := 115) (tgt := 87) C dX8_minds_115 (by decide) ?_
          obtain rfl := Option.some.inj hf
          refine pb_sub [1, 2, 0] rfl ?_
          have hl87 := pb_inl hl87
          exact ih87 (l87_2 + 1) u111 hl87
    refine pb_sub [2, 1, 0] rfl ?_
    exact L87 pb_FU 0 u84 hz87
  refine pb_icmp_ne (pc := 8) (tgt := 59) C dX8_minds_8 (by decide) (fun hc8 => ?_) (fun hc8 => ?_)
  · have hf := pb_neg hf hc8
    obtain rfl := Option.some.inj hf
    exact J59 c_t_w hk59
  · have hf := pb_pos hf hc8
    refine pb_iconst (v := 0) (pc := 11) C dX8_minds_11 pb_kI_0 ?_
    refine pb_istore_n (lv' := [(1, .int 0), (0, .ref a_t)]) (pc := 12) C dX8_minds_12 rfl (by decide) rfl ?_
    obtain ⟨z13, hz13, hk13⟩ := pb_bind hf
    have E13 : ∀ (e13_1 : Int32) (e13_c_t_w : (Nat → Int32)), fX8_minds_E13 e13_1 e13_c_t_w = some y59 → pb_V p l e rmX8_minds s m (([.ref a_t] : List Value).toArray) below meth c 3 (dC, dI) vwCl A 0 0 (pb_MQ below (([.ref a_t] : List Value).toArray) s (dC, dI) vwCl (wwX8_minds cyB cyI cyJ cyZ cyS a_t a_t_w a_t_isKept a_t_text a_t_refused a_t_numbers a_t_weights c_t_texted c_t_above c_t_below c_t_at c_t_start c_t_isWord c_t_isFigures c_t_all c_t_known c_t_truth c_t_x c_t_h c_t_w) (wwX8_minds cyB cyI cyJ cyZ cyS a_t a_t_w a_t_isKept a_t_text a_t_refused a_t_numbers a_t_weights c_t_texted c_t_above c_t_below c_t_at c_t_start c_t_isWord c_t_isFigures c_t_all c_t_known c_t_truth c_t_x c_t_h out) none A) (wwX8_minds cyB cyI cyJ cyZ cyS a_t a_t_w a_t_isKept a_t_text a_t_refused a_t_numbers a_t_weights c_t_texted c_t_above c_t_below c_t_at c_t_start c_t_isWord c_t_isFigures c_t_all c_t_known c_t_truth c_t_x c_t_h e13_c_t_w) [(0, .ref a_t)] [] 49 := by
      intro e13_1 e13_c_t_w hf
      unfold fX8_minds_E13 at hf
      refine pb_aload_n (pc := 49) C dX8_minds_49 rfl 0 rfl ?_
      refine pb_get (pc := 50) C hnX8_minds_X8 0 rfl rfl 0 (by decide) (List.mem_of_getElem? (i := 1) rfl) rfl rfl dX8_minds_50 ?_
      refine pb_iconst (v := 4) (pc := 53) C dX8_minds_53 pb_kI_4 ?_
      refine pb_dup2_11 (pc := 54) C dX8_minds_54 rfl rfl ?_
      refine pb_iald (pc := 55) C 1 1 rfl rfl pb_ok_4_1508 dX8_minds_55 ?_
      refine pb_topi (congrArg e13_c_t_w pb_kN_4) ?_
      refine pb_iconst (v := 1) (pc := 56) C dX8_minds_56 pb_kI_1 ?_
      refine pb_isub (pc := 57) C dX8_minds_57 ?_
      obtain ⟨u58, eu58, hf⟩ := pb_bind hf
      have eu58 := Option.some.inj eu58
      refine pb_iast (pc := 58) (ws' := (wwX8_minds cyB cyI cyJ cyZ cyS a_t a_t_w a_t_isKept a_t_text a_t_refused a_t_numbers a_t_weights c_t_texted c_t_above c_t_below c_t_at c_t_start c_t_isWord c_t_isFigures c_t_all c_t_known c_t_truth c_t_x c_t_h u58)) C 1 1 rfl rfl pb_ok_4_1508 ((congrArg (fun k => upd e13_c_t_w k ((e13_c_t_w 4) - 1)) pb_kN_4).trans eu58) rfl dX8_minds_58 ?_
      obtain rfl := Option.some.inj hf
      exact J59 u58 hk59
    have L13 : ∀ (n : Nat) (l13_1 : Int32) (l13_c_t_w : (Nat → Int32)), pb_lp (fun y => fX8_minds_L13 y.1 y.2) n (l13_1, l13_c_t_w) = some z13 → pb_V p l e rmX8_minds s m (([.ref a_t] : List Value).toArray) below meth c 3 (dC, dI) vwCl A 0 0 (pb_MQ below (([.ref a_t] : List Value).toArray) s (dC, dI) vwCl (wwX8_minds cyB cyI cyJ cyZ cyS a_t a_t_w a_t_isKept a_t_text a_t_refused a_t_numbers a_t_weights c_t_texted c_t_above c_t_below c_t_at c_t_start c_t_isWord c_t_isFigures c_t_all c_t_known c_t_truth c_t_x c_t_h c_t_w) (wwX8_minds cyB cyI cyJ cyZ cyS a_t a_t_w a_t_isKept a_t_text a_t_refused a_t_numbers a_t_weights c_t_texted c_t_above c_t_below c_t_at c_t_start c_t_isWord c_t_isFigures c_t_all c_t_known c_t_truth c_t_x c_t_h out) none A) (wwX8_minds cyB cyI cyJ cyZ cyS a_t a_t_w a_t_isKept a_t_text a_t_refused a_t_numbers a_t_weights c_t_texted c_t_above c_t_below c_t_at c_t_start c_t_isWord c_t_isFigures c_t_all c_t_known c_t_truth c_t_x c_t_h l13_c_t_w) [(0, .ref a_t), (1, .int l13_1)] [] 13 := by
      intro n
      induction n with
      | zero => intro l13_1 l13_c_t_w hf; exact (pb_lp_zero hf).elim
      | succ n ih13 =>
        intro l13_1 l13_c_t_w hf
        obtain ⟨y13, hf, hl13⟩ := pb_lp_succ hf
        have hf : fX8_minds_L13 l13_1 l13_c_t_w = some y13 := hf
        unfold fX8_minds_L13 at hf
        refine pb_iload_n (pc := 13) C dX8_minds_13 rfl 1 rfl ?_
        refine pb_sipush (v := 217) (pc := 14) C dX8_minds_14 pb_kS_217 ?_
        refine pb_icmp_ge (pc := 17) (tgt := 49) C dX8_minds_17 (by decide) (fun hc17 => ?_) (fun hc17 => ?_)
        · have hf := pb_pos hf hc17
          obtain rfl := Option.some.inj hf
          obtain rfl := pb_esc hl13
          refine pb_sub [0] rfl ?_
          exact E13 l13_1 l13_c_t_w hk13
        · have hf := pb_neg hf hc17
          refine pb_aload_n (pc := 20) C dX8_minds_20 rfl 0 rfl ?_
          refine pb_get (pc := 21) C hnX8_minds_X8 0 rfl rfl 0 (by decide) (List.mem_of_getElem? (i := 1) rfl) rfl rfl dX8_minds_21 ?_
          refine pb_sipush (v := 129) (pc := 24) C dX8_minds_24 pb_kS_129 ?_
          refine pb_iload_n (pc := 27) C dX8_minds_27 rfl 1 rfl ?_
          refine pb_iadd (pc := 28) C dX8_minds_28 ?_
          refine pb_aload_n (pc := 29) C dX8_minds_29 rfl 0 rfl ?_
          refine pb_get (pc := 30) C hnX8_minds_X8 0 rfl rfl 0 (by decide) (List.mem_of_getElem? (i := 1) rfl) rfl rfl dX8_minds_30 ?_
          refine pb_sipush (v := 129) (pc := 33) C dX8_minds_33 pb_kS_129 ?_
          refine pb_iload_n (pc := 36) C dX8_minds_36 rfl 1 rfl ?_
          refine pb_iadd (pc := 37) C dX8_minds_37 ?_
          refine pb_bipush (v := 31) (pc := 38) C dX8_minds_38 pb_kB_31 ?_
          refine pb_iadd (pc := 40) C dX8_minds_40 ?_
          obtain ⟨g41, hf⟩ := pb_grd hf
          refine pb_iald (pc := 41) C 1 1 rfl rfl g41 dX8_minds_41 ?_
          obtain ⟨g42, hf⟩ := pb_grd hf
          obtain ⟨u42, eu42, hf⟩ := pb_bind hf
          have eu42 := Option.some.inj eu42
          refine pb_iast (pc := 42) (ws' := (wwX8_minds cyB cyI cyJ cyZ cyS a_t a_t_w a_t_isKept a_t_text a_t_refused a_t_numbers a_t_weights c_t_texted c_t_above c_t_below c_t_at c_t_start c_t_isWord c_t_isFigures c_t_all c_t_known c_t_truth c_t_x c_t_h u42)) C 1 1 rfl rfl g42 eu42 rfl dX8_minds_42 ?_
          refine pb_iinc (v := l13_1 + 1) (lv' := [(1, .int (l13_1 + 1)), (0, .ref a_t)]) (pc := 43) C dX8_minds_43 1 rfl (pb_inc pb_kI_1 rfl) (by decide) rfl ?_
          refine pb_goto (pc := 46) (tgt := 13) C dX8_minds_46 (by decide) ?_
          obtain rfl := Option.some.inj hf
          refine pb_sub [1, 0] rfl ?_
          have hl13 := pb_inl hl13
          exact ih13 (l13_1 + 1) u42 hl13
    refine pb_sub [1, 0] rfl ?_
    exact L13 pb_FU 0 c_t_w hz13
def rmX8_isFind : Room := { frames := 2, cells := 0, slots := 0, locals := 45 }
def wwX8_isFind (cyB cyI cyJ cyZ cyS : ClassId) : va_W := []
set_option maxHeartbeats 4000000 in
set_option maxRecDepth 100000 in
theorem kcX8_isFind (l : Launch) (dC : Nat → ClassId) (dI : Nat → Nat → Nat) (cyB cyI cyJ cyZ cyS : ClassId) (p1 : Int32) (p2 : Int32) (p3 : Int32) (out : Int32) (hf : fX8_isFind p1 p2 p3 = some out) : pb_K l yX8_isFind wsX8_isFind rmX8_isFind (dC, dI) vwCl (pb_tys cyB cyI cyJ cyZ cyS) pb_NW [.int p1, .int p2, .int p3] (wwX8_isFind cyB cyI cyJ cyZ cyS) (wwX8_isFind cyB cyI cyJ cyZ cyS) (some (.int out)) := by
  unfold fX8_isFind at hf
  refine pb_K.ofV (cc := cX8_isFind) (maxL := 3) (ret := (some .boolean)) (lv0 := [(0, .int p1), (1, .int p2), (2, .int p3)]) (by decide) rfl (Nat.le_of_ble_eq_true rfl) rfl ?_
  intro p e s m below meth c A C hX hr hlk hA
  refine pb_iload_n (pc := 0) C dX8_isFind_0 rfl 0 rfl ?_
  obtain ⟨r1, hr1, hf⟩ := pb_bind hf
  refine pb_callS (pc := 1) (n0 := 0) (ws' := (wwX8_isFind cyB cyI cyJ cyZ cyS)) (rest := []) (st2 := [.int r1]) C (kcX8_isFact l dC dI cyB cyI cyJ cyZ cyS p1 r1 hr1) pb_NW_b (pb_NW_x hX) (va_cwS 1 C.1.2.2.2.2 gX8_isFind_X8_isFact rfl rfl rfl kdS_X8_isFact ⟨Nat.le_of_ble_eq_true rfl, Nat.le_of_ble_eq_true rfl⟩) [] [] rfl rfl trivial rfl (by decide +kernel) (adl := []) rfl rfl rfl rfl rfl (Nat.le_of_ble_eq_true rfl) ⟨Nat.le_refl _, Nat.le_refl _⟩ dX8_isFind_1 rfl ?_
  refine pb_if_eq (pc := 4) (tgt := 33) C dX8_isFind_4 (by decide) (fun hc4 => ?_) (fun hc4 => ?_)
  · have hf := pb_pos hf hc4
    refine pb_iconst (v := 0) (pc := 33) C dX8_isFind_33 pb_kI_0 ?_
    obtain rfl := Option.some.inj hf
    exact pb_zret (pc := 34) C hr hlk hA pb_isB0 dX8_isFind_34
  · have hf := pb_neg hf hc4
    refine pb_iload_n (pc := 7) C dX8_isFind_7 rfl 1 rfl ?_
    refine pb_i2l (pc := 8) C dX8_isFind_8 ?_
    refine pb_lconst (v := 0) (pc := 9) C dX8_isFind_9 pb_kL_0 ?_
    refine pb_lconst (v := 1) (pc := 10) C dX8_isFind_10 pb_kL_1 ?_
    obtain ⟨r11, hr11, hf⟩ := pb_bind hf
    refine pb_callS (pc := 11) (n0 := 0) (ws' := (wwX8_isFind cyB cyI cyJ cyZ cyS)) (rest := []) (st2 := [.int r11]) C (kcX8_in l dC dI cyB cyI cyJ cyZ cyS (Int32.toInt64 p2) 0 1 r11 hr11) pb_NW_b (pb_NW_x hX) (va_cwS 3 C.1.2.2.2.2 gX8_isFind_X8_in rfl rfl rfl kdS_X8_in ⟨Nat.le_of_ble_eq_true rfl, Nat.le_of_ble_eq_true rfl⟩) [] [] rfl rfl trivial rfl (by decide +kernel) (adl := []) rfl rfl rfl rfl rfl (Nat.le_of_ble_eq_true rfl) ⟨Nat.le_refl _, Nat.le_refl _⟩ dX8_isFind_11 rfl ?_
    refine pb_if_eq (pc := 14) (tgt := 33) C dX8_isFind_14 (by decide) (fun hc14 => ?_) (fun hc14 => ?_)
    · have hf := pb_pos hf hc14
      refine pb_iconst (v := 0) (pc := 33) C dX8_isFind_33 pb_kI_0 ?_
      obtain rfl := Option.some.inj hf
      exact pb_zret (pc := 34) C hr hlk hA pb_isB0 dX8_isFind_34
    · have hf := pb_neg hf hc14
      refine pb_iload_n (pc := 17) C dX8_isFind_17 rfl 2 rfl ?_
      refine pb_i2l (pc := 18) C dX8_isFind_18 ?_
      refine pb_lconst (v := 0) (pc := 19) C dX8_isFind_19 pb_kL_0 ?_
      refine pb_ldc2 (v := 10) (pc := 20) C dX8_isFind_20 (List.mem_of_getElem? (i := 1) rfl) ?_
      obtain ⟨r23, hr23, hf⟩ := pb_bind hf
      refine pb_callS (pc := 23) (n0 := 0) (ws' := (wwX8_isFind cyB cyI cyJ cyZ cyS)) (rest := []) (st2 := [.int r23]) C (kcX8_in l dC dI cyB cyI cyJ cyZ cyS (Int32.toInt64 p3) 0 10 r23 hr23) pb_NW_b (pb_NW_x hX) (va_cwS 3 C.1.2.2.2.2 gX8_isFind_X8_in rfl rfl rfl kdS_X8_in ⟨Nat.le_of_ble_eq_true rfl, Nat.le_of_ble_eq_true rfl⟩) [] [] rfl rfl trivial rfl (by decide +kernel) (adl := []) rfl rfl rfl rfl rfl (Nat.le_of_ble_eq_true rfl) ⟨Nat.le_refl _, Nat.le_refl _⟩ dX8_isFind_23 rfl ?_
      refine pb_if_eq (pc := 26) (tgt := 33) C dX8_isFind_26 (by decide) (fun hc26 => ?_) (fun hc26 => ?_)
      · have hf := pb_pos hf hc26
        refine pb_iconst (v := 0) (pc := 33) C dX8_isFind_33 pb_kI_0 ?_
        obtain rfl := Option.some.inj hf
        exact pb_zret (pc := 34) C hr hlk hA pb_isB0 dX8_isFind_34
      · have hf := pb_neg hf hc26
        refine pb_iconst (v := 1) (pc := 29) C dX8_isFind_29 pb_kI_1 ?_
        refine pb_goto (pc := 30) (tgt := 34) C dX8_isFind_30 (by decide) ?_
        obtain rfl := Option.some.inj hf
        exact pb_zret (pc := 34) C hr hlk hA pb_isB1 dX8_isFind_34
def rmX8_find : Room := { frames := 3, cells := 0, slots := 0, locals := 67 }
def wwX8_find (cyB cyI cyJ cyZ cyS : ClassId) (a_t a_t_w a_t_isKept a_t_text a_t_refused a_t_numbers a_t_weights : Nat) (c_t_texted : Int32) (c_t_above : Int64) (c_t_below : Int64) (c_t_at : Int32) (c_t_start : Int32) (c_t_isWord : Int32) (c_t_isFigures : Int32) (c_t_all : Int64) (c_t_known : Int32) (c_t_truth : Int32) (c_t_x : Int64) (c_t_h : Int64) (c_t_w : (Nat → Int32)) (c_t_refused : (Nat → Int32)) : va_W := [(a_t, .inr (8, [.ref a_t_w, .ref a_t_isKept, .ref a_t_text, .int c_t_texted, .ref a_t_refused, .long c_t_above, .long c_t_below, .int c_t_at, .int c_t_start, .int c_t_isWord, .int c_t_isFigures, .ref a_t_numbers, .ref a_t_weights, .long c_t_all, .int c_t_known, .int c_t_truth, .long c_t_x, .long c_t_h])), (a_t_w, .inl (cyI, 1508, .inl c_t_w)), (a_t_refused, .inl (cyI, 3, .inl c_t_refused))]
theorem hnX8_find_X8 : ∀ w ∈ wsX80, w ∈ wsX8_find := fun _ h => List.mem_cons_of_mem _ (List.mem_append_right _ h)
set_option maxHeartbeats 4000000 in
set_option maxRecDepth 100000 in
theorem kcX8_find (l : Launch) (dC : Nat → ClassId) (dI : Nat → Nat → Nat) (cyB cyI cyJ cyZ cyS : ClassId) (a_t a_t_w a_t_isKept a_t_text a_t_refused a_t_numbers a_t_weights : Nat) (c_t_texted : Int32) (c_t_above : Int64) (c_t_below : Int64) (c_t_at : Int32) (c_t_start : Int32) (c_t_isWord : Int32) (c_t_isFigures : Int32) (c_t_all : Int64) (c_t_known : Int32) (c_t_truth : Int32) (c_t_x : Int64) (c_t_h : Int64) (c_t_w : (Nat → Int32)) (c_t_refused : (Nat → Int32)) (p1 : Int32) (p2 : Int32) (p3 : Int32) (out : (Int32 × (Nat → Int32) × (Nat → Int32))) (hf : fX8_find c_t_w c_t_refused p1 p2 p3 = some out) : pb_K l yX8_find wsX8_find rmX8_find (dC, dI) vwCl (pb_tys cyB cyI cyJ cyZ cyS) pb_NW [.ref a_t, .int p1, .int p2, .int p3] (wwX8_find cyB cyI cyJ cyZ cyS a_t a_t_w a_t_isKept a_t_text a_t_refused a_t_numbers a_t_weights c_t_texted c_t_above c_t_below c_t_at c_t_start c_t_isWord c_t_isFigures c_t_all c_t_known c_t_truth c_t_x c_t_h c_t_w c_t_refused) (wwX8_find cyB cyI cyJ cyZ cyS a_t a_t_w a_t_isKept a_t_text a_t_refused a_t_numbers a_t_weights c_t_texted c_t_above c_t_below c_t_at c_t_start c_t_isWord c_t_isFigures c_t_all c_t_known c_t_truth c_t_x c_t_h out.2.1 out.2.2) (some (.int out.1)) := by
  unfold fX8_find at hf
  refine pb_K.ofV (cc := cX8_find) (maxL := 4) (ret := (some .int)) (lv0 := [(0, .ref a_t), (1, .int p1), (2, .int p2), (3, .int p3)]) (by decide) rfl (Nat.le_of_ble_eq_true rfl) rfl ?_
  intro p e s m below meth c A C hX hr hlk hA
  refine pb_iload_n (pc := 0) C dX8_find_0 rfl 1 rfl ?_
  refine pb_iload_n (pc := 1) C dX8_find_1 rfl 2 rfl ?_
  refine pb_iload_n (pc := 2) C dX8_find_2 rfl 3 rfl ?_
  obtain ⟨r3, hr3, hf⟩ := pb_bind hf
  refine pb_callS (pc := 3) (n0 := 3) (ws' := (wwX8_find cyB cyI cyJ cyZ cyS a_t a_t_w a_t_isKept a_t_text a_t_refused a_t_numbers a_t_weights c_t_texted c_t_above c_t_below c_t_at c_t_start c_t_isWord c_t_isFigures c_t_all c_t_known c_t_truth c_t_x c_t_h c_t_w c_t_refused)) (rest := []) (st2 := [.int r3]) C (kcX8_isFind l dC dI cyB cyI cyJ cyZ cyS p1 p2 p3 r3 hr3) pb_NW_b (pb_NW_x hX) (va_cwS 3 C.1.2.2.2.2 gX8_find_X8_isFind rfl rfl rfl kdS_X8_isFind ⟨Nat.le_of_ble_eq_true rfl, Nat.le_of_ble_eq_true rfl⟩) [] [0, 1, 2] rfl rfl ⟨⟨_, rfl, rfl⟩, ⟨⟨_, rfl, rfl⟩, ⟨⟨_, rfl, rfl⟩, trivial⟩⟩⟩ rfl (by decide +kernel) (adl := []) rfl rfl rfl rfl rfl (Nat.le_of_ble_eq_true rfl) ⟨Nat.le_refl _, Nat.le_refl _⟩ dX8_find_3 rfl ?_
  refine pb_if_ne (pc := 6) (tgt := 14) C dX8_find_6 (by decide) (fun hc6 => ?_) (fun hc6 => ?_)
  · have hf := pb_neg hf hc6
    refine pb_aload_n (pc := 14) C dX8_find_14 rfl 0 rfl ?_
    refine pb_get (pc := 15) C hnX8_find_X8 0 rfl rfl 0 (by decide) (List.mem_of_getElem? (i := 1) rfl) rfl rfl dX8_find_15 ?_
    refine pb_iconst (v := 1) (pc := 18) C dX8_find_18 pb_kI_1 ?_
    refine pb_iald (pc := 19) C 1 1 rfl rfl pb_ok_1_1508 dX8_find_19 ?_
    refine pb_topi (congrArg c_t_w pb_kN_1) ?_
    refine pb_bipush (v := 10) (pc := 20) C dX8_find_20 pb_kB_10 ?_
    refine pb_icmp_ne (pc := 22) (tgt := 30) C dX8_find_22 (by decide) (fun hc22 => ?_) (fun hc22 => ?_)
    · have hf := pb_neg hf hc22
      refine pb_aload_n (pc := 30) C dX8_find_30 rfl 0 rfl ?_
      obtain ⟨r31, hr31, hf⟩ := pb_bind hf
      refine pb_callV (pc := 31) (n0 := 3) (ws' := (wwX8_find cyB cyI cyJ cyZ cyS a_t a_t_w a_t_isKept a_t_text a_t_refused a_t_numbers a_t_weights c_t_texted c_t_above c_t_below c_t_at c_t_start c_t_isWord c_t_isFigures c_t_all c_t_known c_t_truth c_t_x c_t_h r31 c_t_refused)) (rest := []) (st2 := []) C (kcX8_minds l dC dI cyB cyI cyJ cyZ cyS a_t a_t_w a_t_isKept a_t_text a_t_refused a_t_numbers a_t_weights c_t_texted c_t_above c_t_below c_t_at c_t_start c_t_isWord c_t_isFigures c_t_all c_t_known c_t_truth c_t_x c_t_h c_t_w r31 hr31) pb_NW_b (pb_NW_x hX) (cwV 0 C.1.2.2.2.2 gX8_find_X8_minds rfl rfl rfl kdV_X8_minds ⟨Nat.le_of_ble_eq_true rfl, Nat.le_of_ble_eq_true rfl⟩) 0 rfl rfl [0, 1] [2] rfl rfl ⟨⟨_, rfl, rfl⟩, trivial⟩ rfl (by decide +kernel) (adl := [a_t, a_t_w]) rfl rfl rfl rfl rfl (Nat.le_of_ble_eq_true rfl) ⟨Nat.le_refl _, Nat.le_refl _⟩ dX8_find_31 rfl ?_
      refine pb_aload_n (pc := 34) C dX8_find_34 rfl 0 rfl ?_
      refine pb_iconst (v := 0) (pc := 35) C dX8_find_35 pb_kI_0 ?_
      refine pb_iconst (v := 1) (pc := 36) C dX8_find_36 pb_kI_1 ?_
      refine pb_bipush (v := 29) (pc := 37) C dX8_find_37 pb_kB_29 ?_
      refine pb_iload_n (pc := 39) C dX8_find_39 rfl 1 rfl ?_
      refine pb_iload_n (pc := 40) C dX8_find_40 rfl 2 rfl ?_
      refine pb_iload_n (pc := 41) C dX8_find_41 rfl 3 rfl ?_
      obtain ⟨r42, hr42, hf⟩ := pb_bind hf
      refine pb_callV (pc := 42) (n0 := 3) (ws' := (wwX8_find cyB cyI cyJ cyZ cyS a_t a_t_w a_t_isKept a_t_text a_t_refused a_t_numbers a_t_weights c_t_texted c_t_above c_t_below c_t_at c_t_start c_t_isWord c_t_isFigures c_t_all c_t_known c_t_truth c_t_x c_t_h r42.2 c_t_refused)) (rest := []) (st2 := [.int r42.1]) C (kcX8_adds l dC dI cyB cyI cyJ cyZ cyS a_t a_t_w a_t_isKept a_t_text a_t_refused a_t_numbers a_t_weights c_t_texted c_t_above c_t_below c_t_at c_t_start c_t_isWord c_t_isFigures c_t_all c_t_known c_t_truth c_t_x c_t_h r31 0 1 29 p1 p2 p3 r42 hr42) pb_NW_b (pb_NW_x hX) (cwV 6 C.1.2.2.2.2 gX8_find_X8_adds rfl rfl rfl kdV_X8_adds ⟨Nat.le_of_ble_eq_true rfl, Nat.le_of_ble_eq_true rfl⟩) 0 rfl rfl [0, 1] [2] rfl rfl ⟨⟨_, rfl, rfl⟩, trivial⟩ rfl (by decide +kernel) (adl := [a_t, a_t_w]) rfl rfl rfl rfl rfl (Nat.le_of_ble_eq_true rfl) ⟨Nat.le_refl _, Nat.le_refl _⟩ dX8_find_42 rfl ?_
      obtain rfl := Option.some.inj hf
      exact pb_iret (pc := 45) C hr hlk hA dX8_find_45
    · have hf := pb_pos hf hc22
      refine pb_aload_n (pc := 25) C dX8_find_25 rfl 0 rfl ?_
      obtain ⟨r26, hr26, hf⟩ := pb_bind hf
      refine pb_callV (pc := 26) (n0 := 3) (ws' := (wwX8_find cyB cyI cyJ cyZ cyS a_t a_t_w a_t_isKept a_t_text a_t_refused a_t_numbers a_t_weights c_t_texted c_t_above c_t_below c_t_at c_t_start c_t_isWord c_t_isFigures c_t_all c_t_known c_t_truth c_t_x c_t_h c_t_w r26.2)) (rest := []) (st2 := [.int r26.1]) C (kcX8_full l dC dI cyB cyI cyJ cyZ cyS a_t a_t_w a_t_isKept a_t_text a_t_refused a_t_numbers a_t_weights c_t_texted c_t_above c_t_below c_t_at c_t_start c_t_isWord c_t_isFigures c_t_all c_t_known c_t_truth c_t_x c_t_h c_t_refused r26 hr26) pb_NW_b (pb_NW_x hX) (cwV 0 C.1.2.2.2.2 gX8_find_X8_full rfl rfl rfl kdV_X8_full ⟨Nat.le_of_ble_eq_true rfl, Nat.le_of_ble_eq_true rfl⟩) 0 rfl rfl [0, 2] [1] rfl rfl ⟨⟨_, rfl, rfl⟩, trivial⟩ rfl (by decide +kernel) (adl := [a_t, a_t_refused]) rfl rfl rfl rfl rfl (Nat.le_of_ble_eq_true rfl) ⟨Nat.le_refl _, Nat.le_refl _⟩ dX8_find_26 rfl ?_
      obtain rfl := Option.some.inj hf
      exact pb_iret (pc := 29) C hr hlk hA dX8_find_29
  · have hf := pb_pos hf hc6
    refine pb_aload_n (pc := 9) C dX8_find_9 rfl 0 rfl ?_
    obtain ⟨r10, hr10, hf⟩ := pb_bind hf
    refine pb_callV (pc := 10) (n0 := 3) (ws' := (wwX8_find cyB cyI cyJ cyZ cyS a_t a_t_w a_t_isKept a_t_text a_t_refused a_t_numbers a_t_weights c_t_texted c_t_above c_t_below c_t_at c_t_start c_t_isWord c_t_isFigures c_t_all c_t_known c_t_truth c_t_x c_t_h c_t_w r10.2)) (rest := []) (st2 := [.int r10.1]) C (kcX8_bad l dC dI cyB cyI cyJ cyZ cyS a_t a_t_w a_t_isKept a_t_text a_t_refused a_t_numbers a_t_weights c_t_texted c_t_above c_t_below c_t_at c_t_start c_t_isWord c_t_isFigures c_t_all c_t_known c_t_truth c_t_x c_t_h c_t_refused r10 hr10) pb_NW_b (pb_NW_x hX) (cwV 0 C.1.2.2.2.2 gX8_find_X8_bad rfl rfl rfl kdV_X8_bad ⟨Nat.le_of_ble_eq_true rfl, Nat.le_of_ble_eq_true rfl⟩) 0 rfl rfl [0, 2] [1] rfl rfl ⟨⟨_, rfl, rfl⟩, trivial⟩ rfl (by decide +kernel) (adl := [a_t, a_t_refused]) rfl rfl rfl rfl rfl (Nat.le_of_ble_eq_true rfl) ⟨Nat.le_refl _, Nat.le_refl _⟩ dX8_find_10 rfl ?_
    obtain rfl := Option.some.inj hf
    exact pb_iret (pc := 13) C hr hlk hA dX8_find_13
def rmX8_drop : Room := { frames := 1, cells := 0, slots := 0, locals := 25 }
def wwX8_drop (cyB cyI cyJ cyZ cyS : ClassId) (a_t a_t_w a_t_isKept a_t_text a_t_refused a_t_numbers a_t_weights : Nat) (c_t_texted : Int32) (c_t_above : Int64) (c_t_below : Int64) (c_t_at : Int32) (c_t_start : Int32) (c_t_isWord : Int32) (c_t_isFigures : Int32) (c_t_all : Int64) (c_t_known : Int32) (c_t_truth : Int32) (c_t_x : Int64) (c_t_h : Int64) (c_t_w : (Nat → Int32)) (c_t_refused : (Nat → Int32)) : va_W := [(a_t, .inr (8, [.ref a_t_w, .ref a_t_isKept, .ref a_t_text, .int c_t_texted, .ref a_t_refused, .long c_t_above, .long c_t_below, .int c_t_at, .int c_t_start, .int c_t_isWord, .int c_t_isFigures, .ref a_t_numbers, .ref a_t_weights, .long c_t_all, .int c_t_known, .int c_t_truth, .long c_t_x, .long c_t_h])), (a_t_w, .inl (cyI, 1508, .inl c_t_w)), (a_t_refused, .inl (cyI, 3, .inl c_t_refused))]
theorem hnX8_drop_X8 : ∀ w ∈ wsX80, w ∈ wsX8_drop := fun _ h => List.mem_cons_of_mem _ (List.mem_append_right _ h)
set_option maxHeartbeats 4000000 in
set_option maxRecDepth 100000 in
theorem kcX8_drop (l : Launch) (dC : Nat → ClassId) (dI : Nat → Nat → Nat) (cyB cyI cyJ cyZ cyS : ClassId) (a_t a_t_w a_t_isKept a_t_text a_t_refused a_t_numbers a_t_weights : Nat) (c_t_texted : Int32) (c_t_above : Int64) (c_t_below : Int64) (c_t_at : Int32) (c_t_start : Int32) (c_t_isWord : Int32) (c_t_isFigures : Int32) (c_t_all : Int64) (c_t_known : Int32) (c_t_truth : Int32) (c_t_x : Int64) (c_t_h : Int64) (c_t_w : (Nat → Int32)) (c_t_refused : (Nat → Int32)) (p1 : Int32) (out : (Int32 × (Nat → Int32) × (Nat → Int32))) (hf : fX8_drop c_t_w c_t_refused p1 = some out) : pb_K l yX8_drop wsX8_drop rmX8_drop (dC, dI) vwCl (pb_tys cyB cyI cyJ cyZ cyS) pb_NW [.ref a_t, .int p1] (wwX8_drop cyB cyI cyJ cyZ cyS a_t a_t_w a_t_isKept a_t_text a_t_refused a_t_numbers a_t_weights c_t_texted c_t_above c_t_below c_t_at c_t_start c_t_isWord c_t_isFigures c_t_all c_t_known c_t_truth c_t_x c_t_h c_t_w c_t_refused) (wwX8_drop cyB cyI cyJ cyZ cyS a_t a_t_w a_t_isKept a_t_text a_t_refused a_t_numbers a_t_weights c_t_texted c_t_above c_t_below c_t_at c_t_start c_t_isWord c_t_isFigures c_t_all c_t_known c_t_truth c_t_x c_t_h out.2.1 out.2.2) (some (.int out.1)) := by
  unfold fX8_drop at hf
  refine pb_K.ofV (cc := cX8_drop) (maxL := 3) (ret := (some .int)) (lv0 := [(0, .ref a_t), (1, .int p1)]) (by decide) rfl (Nat.le_of_ble_eq_true rfl) rfl ?_
  intro p e s m below meth c A C hX hr hlk hA
  refine pb_iload_n (pc := 0) C dX8_drop_0 rfl 1 rfl ?_
  refine pb_i2l (pc := 1) C dX8_drop_1 ?_
  refine pb_lconst (v := 0) (pc := 2) C dX8_drop_2 pb_kL_0 ?_
  refine pb_aload_n (pc := 3) C dX8_drop_3 rfl 0 rfl ?_
  refine pb_get (pc := 4) C hnX8_drop_X8 0 rfl rfl 0 (by decide) (List.mem_of_getElem? (i := 1) rfl) rfl rfl dX8_drop_4 ?_
  refine pb_iconst (v := 1) (pc := 7) C dX8_drop_7 pb_kI_1 ?_
  refine pb_iald (pc := 8) C 1 1 rfl rfl pb_ok_1_1508 dX8_drop_8 ?_
  refine pb_topi (congrArg c_t_w pb_kN_1) ?_
  refine pb_iconst (v := 1) (pc := 9) C dX8_drop_9 pb_kI_1 ?_
  refine pb_isub (pc := 10) C dX8_drop_10 ?_
  refine pb_i2l (pc := 11) C dX8_drop_11 ?_
  obtain ⟨r12, hr12, hf⟩ := pb_bind hf
  refine pb_callS (pc := 12) (n0 := 3) (ws' := (wwX8_drop cyB cyI cyJ cyZ cyS a_t a_t_w a_t_isKept a_t_text a_t_refused a_t_numbers a_t_weights c_t_texted c_t_above c_t_below c_t_at c_t_start c_t_isWord c_t_isFigures c_t_all c_t_known c_t_truth c_t_x c_t_h c_t_w c_t_refused)) (rest := []) (st2 := [.int r12]) C (kcX8_in l dC dI cyB cyI cyJ cyZ cyS (Int32.toInt64 p1) 0 (Int32.toInt64 ((c_t_w 1) - 1)) r12 hr12) pb_NW_b (pb_NW_x hX) (va_cwS 3 C.1.2.2.2.2 gX8_drop_X8_in rfl rfl rfl kdS_X8_in ⟨Nat.le_of_ble_eq_true rfl, Nat.le_of_ble_eq_true rfl⟩) [] [0, 1, 2] rfl rfl ⟨⟨_, rfl, rfl⟩, ⟨⟨_, rfl, rfl⟩, ⟨⟨_, rfl, rfl⟩, trivial⟩⟩⟩ rfl (by decide +kernel) (adl := []) rfl rfl rfl rfl rfl (Nat.le_of_ble_eq_true rfl) ⟨Nat.le_refl _, Nat.le_refl _⟩ dX8_drop_12 rfl ?_
  refine pb_if_ne (pc := 15) (tgt := 23) C dX8_drop_15 (by decide) (fun hc15 => ?_) (fun hc15 => ?_)
  · have hf := pb_neg hf hc15
    refine pb_aload_n (pc := 23) C dX8_drop_23 rfl 0 rfl ?_
    obtain ⟨r24, hr24, hf⟩ := pb_bind hf
    refine pb_callV (pc := 24) (n0 := 3) (ws' := (wwX8_drop cyB cyI cyJ cyZ cyS a_t a_t_w a_t_isKept a_t_text a_t_refused a_t_numbers a_t_weights c_t_texted c_t_above c_t_below c_t_at c_t_start c_t_isWord c_t_isFigures c_t_all c_t_known c_t_truth c_t_x c_t_h r24 c_t_refused)) (rest := []) (st2 := []) C (kcX8_minds l dC dI cyB cyI cyJ cyZ cyS a_t a_t_w a_t_isKept a_t_text a_t_refused a_t_numbers a_t_weights c_t_texted c_t_above c_t_below c_t_at c_t_start c_t_isWord c_t_isFigures c_t_all c_t_known c_t_truth c_t_x c_t_h c_t_w r24 hr24) pb_NW_b (pb_NW_x hX) (cwV 0 C.1.2.2.2.2 gX8_drop_X8_minds rfl rfl rfl kdV_X8_minds ⟨Nat.le_of_ble_eq_true rfl, Nat.le_of_ble_eq_true rfl⟩) 0 rfl rfl [0, 1] [2] rfl rfl ⟨⟨_, rfl, rfl⟩, trivial⟩ rfl (by decide +kernel) (adl := [a_t, a_t_w]) rfl rfl rfl rfl rfl (Nat.le_of_ble_eq_true rfl) ⟨Nat.le_refl _, Nat.le_refl _⟩ dX8_drop_24 rfl ?_
    refine pb_bipush (v := 29) (pc := 27) C dX8_drop_27 pb_kB_29 ?_
    refine pb_iconst (v := 3) (pc := 29) C dX8_drop_29 pb_kI_3 ?_
    refine pb_iload_n (pc := 30) C dX8_drop_30 rfl 1 rfl ?_
    refine pb_imul (pc := 31) C dX8_drop_31 ?_
    refine pb_iadd (pc := 32) C dX8_drop_32 ?_
    obtain ⟨x33, ex33, hf⟩ := pb_bind hf
    have ex33 := Option.some.inj ex33
    refine pb_topi ex33 ?_
    refine pb_istore_n (lv' := [(2, .int x33), (0, .ref a_t), (1, .int p1)]) (pc := 33) C dX8_drop_33 rfl (by decide) rfl ?_
    obtain ⟨z34, hz34, hk34⟩ := pb_bind hf
    have E34 : ∀ (e34_2 : Int32) (e34_c_t_w : (Nat → Int32)), fX8_drop_E34 c_t_refused e34_2 e34_c_t_w = some out → pb_V p l e rmX8_drop s m (([.ref a_t, .int p1] : List Value).toArray) below meth c 3 (dC, dI) vwCl A 0 0 (pb_MQ below (([.ref a_t, .int p1] : List Value).toArray) s (dC, dI) vwCl (wwX8_drop cyB cyI cyJ cyZ cyS a_t a_t_w a_t_isKept a_t_text a_t_refused a_t_numbers a_t_weights c_t_texted c_t_above c_t_below c_t_at c_t_start c_t_isWord c_t_isFigures c_t_all c_t_known c_t_truth c_t_x c_t_h c_t_w c_t_refused) (wwX8_drop cyB cyI cyJ cyZ cyS a_t a_t_w a_t_isKept a_t_text a_t_refused a_t_numbers a_t_weights c_t_texted c_t_above c_t_below c_t_at c_t_start c_t_isWord c_t_isFigures c_t_all c_t_known c_t_truth c_t_x c_t_h out.2.1 out.2.2) (some (.int out.1)) A) (wwX8_drop cyB cyI cyJ cyZ cyS a_t a_t_w a_t_isKept a_t_text a_t_refused a_t_numbers a_t_weights c_t_texted c_t_above c_t_below c_t_at c_t_start c_t_isWord c_t_isFigures c_t_all c_t_known c_t_truth c_t_x c_t_h e34_c_t_w c_t_refused) [(0, .ref a_t)] [] 60 := by
      intro e34_2 e34_c_t_w hf
      unfold fX8_drop_E34 at hf
      refine pb_aload_n (pc := 60) C dX8_drop_60 rfl 0 rfl ?_
      refine pb_get (pc := 61) C hnX8_drop_X8 0 rfl rfl 0 (by decide) (List.mem_of_getElem? (i := 1) rfl) rfl rfl dX8_drop_61 ?_
      refine pb_iconst (v := 1) (pc := 64) C dX8_drop_64 pb_kI_1 ?_
      refine pb_dup2_11 (pc := 65) C dX8_drop_65 rfl rfl ?_
      refine pb_iald (pc := 66) C 1 1 rfl rfl pb_ok_1_1508 dX8_drop_66 ?_
      refine pb_topi (congrArg e34_c_t_w pb_kN_1) ?_
      refine pb_iconst (v := 1) (pc := 67) C dX8_drop_67 pb_kI_1 ?_
      refine pb_isub (pc := 68) C dX8_drop_68 ?_
      obtain ⟨u69, eu69, hf⟩ := pb_bind hf
      have eu69 := Option.some.inj eu69
      refine pb_iast (pc := 69) (ws' := (wwX8_drop cyB cyI cyJ cyZ cyS a_t a_t_w a_t_isKept a_t_text a_t_refused a_t_numbers a_t_weights c_t_texted c_t_above c_t_below c_t_at c_t_start c_t_isWord c_t_isFigures c_t_all c_t_known c_t_truth c_t_x c_t_h u69 c_t_refused)) C 1 1 rfl rfl pb_ok_1_1508 ((congrArg (fun k => upd e34_c_t_w k ((e34_c_t_w 1) - 1)) pb_kN_1).trans eu69) rfl dX8_drop_69 ?_
      refine pb_aload_n (pc := 70) C dX8_drop_70 rfl 0 rfl ?_
      refine pb_get (pc := 71) C hnX8_drop_X8 0 rfl rfl 0 (by decide) (List.mem_of_getElem? (i := 1) rfl) rfl rfl dX8_drop_71 ?_
      refine pb_iconst (v := 1) (pc := 74) C dX8_drop_74 pb_kI_1 ?_
      refine pb_iald (pc := 75) C 1 1 rfl rfl pb_ok_1_1508 dX8_drop_75 ?_
      refine pb_topi (congrArg u69 pb_kN_1) ?_
      obtain rfl := Option.some.inj hf
      exact pb_iret (pc := 76) C hr hlk hA dX8_drop_76
    have L34 : ∀ (n : Nat) (l34_2 : Int32) (l34_c_t_w : (Nat → Int32)), pb_lp (fun y => fX8_drop_L34 y.1 y.2) n (l34_2, l34_c_t_w) = some z34 → pb_V p l e rmX8_drop s m (([.ref a_t, .int p1] : List Value).toArray) below meth c 3 (dC, dI) vwCl A 0 0 (pb_MQ below (([.ref a_t, .int p1] : List Value).toArray) s (dC, dI) vwCl (wwX8_drop cyB cyI cyJ cyZ cyS a_t a_t_w a_t_isKept a_t_text a_t_refused a_t_numbers a_t_weights c_t_texted c_t_above c_t_below c_t_at c_t_start c_t_isWord c_t_isFigures c_t_all c_t_known c_t_truth c_t_x c_t_h c_t_w c_t_refused) (wwX8_drop cyB cyI cyJ cyZ cyS a_t a_t_w a_t_isKept a_t_text a_t_refused a_t_numbers a_t_weights c_t_texted c_t_above c_t_below c_t_at c_t_start c_t_isWord c_t_isFigures c_t_all c_t_known c_t_truth c_t_x c_t_h out.2.1 out.2.2) (some (.int out.1)) A) (wwX8_drop cyB cyI cyJ cyZ cyS a_t a_t_w a_t_isKept a_t_text a_t_refused a_t_numbers a_t_weights c_t_texted c_t_above c_t_below c_t_at c_t_start c_t_isWord c_t_isFigures c_t_all c_t_known c_t_truth c_t_x c_t_h l34_c_t_w c_t_refused) [(0, .ref a_t), (2, .int l34_2)] [] 34 := by
      intro n
      induction n with
      | zero => intro l34_2 l34_c_t_w hf; exact (pb_lp_zero hf).elim
      | succ n ih34 =>
        intro l34_2 l34_c_t_w hf
        obtain ⟨y34, hf, hl34⟩ := pb_lp_succ hf
        have hf : fX8_drop_L34 l34_2 l34_c_t_w = some y34 := hf
        unfold fX8_drop_L34 at hf
        refine pb_iload_n (pc := 34) C dX8_drop_34 rfl 1 rfl ?_
        refine pb_bipush (v := 56) (pc := 35) C dX8_drop_35 pb_kB_56 ?_
        refine pb_icmp_ge (pc := 37) (tgt := 60) C dX8_drop_37 (by decide) (fun hc37 => ?_) (fun hc37 => ?_)
        · have hf := pb_pos hf hc37
          obtain rfl := Option.some.inj hf
          obtain rfl := pb_esc hl34
          refine pb_sub [0] rfl ?_
          exact E34 l34_2 l34_c_t_w hk34
        · have hf := pb_neg hf hc37
          refine pb_aload_n (pc := 40) C dX8_drop_40 rfl 0 rfl ?_
          refine pb_get (pc := 41) C hnX8_drop_X8 0 rfl rfl 0 (by decide) (List.mem_of_getElem? (i := 1) rfl) rfl rfl dX8_drop_41 ?_
          refine pb_iload_n (pc := 44) C dX8_drop_44 rfl 1 rfl ?_
          refine pb_aload_n (pc := 45) C dX8_drop_45 rfl 0 rfl ?_
          refine pb_get (pc := 46) C hnX8_drop_X8 0 rfl rfl 0 (by decide) (List.mem_of_getElem? (i := 1) rfl) rfl rfl dX8_drop_46 ?_
          refine pb_iload_n (pc := 49) C dX8_drop_49 rfl 1 rfl ?_
          refine pb_iconst (v := 3) (pc := 50) C dX8_drop_50 pb_kI_3 ?_
          refine pb_iadd (pc := 51) C dX8_drop_51 ?_
          obtain ⟨g52, hf⟩ := pb_grd hf
          refine pb_iald (pc := 52) C 1 1 rfl rfl g52 dX8_drop_52 ?_
          obtain ⟨g53, hf⟩ := pb_grd hf
          obtain ⟨u53, eu53, hf⟩ := pb_bind hf
          have eu53 := Option.some.inj eu53
          refine pb_iast (pc := 53) (ws' := (wwX8_drop cyB cyI cyJ cyZ cyS a_t a_t_w a_t_isKept a_t_text a_t_refused a_t_numbers a_t_weights c_t_texted c_t_above c_t_below c_t_at c_t_start c_t_isWord c_t_isFigures c_t_all c_t_known c_t_truth c_t_x c_t_h u53 c_t_refused)) C 1 1 rfl rfl g53 eu53 rfl dX8_drop_53 ?_
          refine pb_iinc (v := l34_2 + 1) (lv' := [(2, .int (l34_2 + 1)), (0, .ref a_t)]) (pc := 54) C dX8_drop_54 1 rfl (pb_inc pb_kI_1 rfl) (by decide) rfl ?_
          refine pb_goto (pc := 57) (tgt := 34) C dX8_drop_57 (by decide) ?_
          obtain rfl := Option.some.inj hf
          refine pb_sub [1, 0] rfl ?_
          have hl34 := pb_inl hl34
          exact ih34 (l34_2 + 1) u53 hl34
    refine pb_sub [1, 0] rfl ?_
    exact L34 pb_FU x33 r24 hz34
  · have hf := pb_pos hf hc15
    refine pb_aload_n (pc := 18) C dX8_drop_18 rfl 0 rfl ?_
    obtain ⟨r19, hr19, hf⟩ := pb_bind hf
    refine pb_callV (pc := 19) (n0 := 3) (ws' := (wwX8_drop cyB cyI cyJ cyZ cyS a_t a_t_w a_t_isKept a_t_text a_t_refused a_t_numbers a_t_weights c_t_texted c_t_above c_t_below c_t_at c_t_start c_t_isWord c_t_isFigures c_t_all c_t_known c_t_truth c_t_x c_t_h c_t_w r19.2)) (rest := []) (st2 := [.int r19.1]) C (kcX8_bad l dC dI cyB cyI cyJ cyZ cyS a_t a_t_w a_t_isKept a_t_text a_t_refused a_t_numbers a_t_weights c_t_texted c_t_above c_t_below c_t_at c_t_start c_t_isWord c_t_isFigures c_t_all c_t_known c_t_truth c_t_x c_t_h c_t_refused r19 hr19) pb_NW_b (pb_NW_x hX) (cwV 0 C.1.2.2.2.2 gX8_drop_X8_bad rfl rfl rfl kdV_X8_bad ⟨Nat.le_of_ble_eq_true rfl, Nat.le_of_ble_eq_true rfl⟩) 0 rfl rfl [0, 2] [1] rfl rfl ⟨⟨_, rfl, rfl⟩, trivial⟩ rfl (by decide +kernel) (adl := [a_t, a_t_refused]) rfl rfl rfl rfl rfl (Nat.le_of_ble_eq_true rfl) ⟨Nat.le_refl _, Nat.le_refl _⟩ dX8_drop_19 rfl ?_
    obtain rfl := Option.some.inj hf
    exact pb_iret (pc := 22) C hr hlk hA dX8_drop_22
def rmX8_undo : Room := { frames := 1, cells := 0, slots := 0, locals := 20 }
def wwX8_undo (cyB cyI cyJ cyZ cyS : ClassId) (a_t a_t_w a_t_isKept a_t_text a_t_refused a_t_numbers a_t_weights : Nat) (c_t_texted : Int32) (c_t_above : Int64) (c_t_below : Int64) (c_t_at : Int32) (c_t_start : Int32) (c_t_isWord : Int32) (c_t_isFigures : Int32) (c_t_all : Int64) (c_t_known : Int32) (c_t_truth : Int32) (c_t_x : Int64) (c_t_h : Int64) (c_t_w : (Nat → Int32)) (c_t_refused : (Nat → Int32)) : va_W := [(a_t, .inr (8, [.ref a_t_w, .ref a_t_isKept, .ref a_t_text, .int c_t_texted, .ref a_t_refused, .long c_t_above, .long c_t_below, .int c_t_at, .int c_t_start, .int c_t_isWord, .int c_t_isFigures, .ref a_t_numbers, .ref a_t_weights, .long c_t_all, .int c_t_known, .int c_t_truth, .long c_t_x, .long c_t_h])), (a_t_w, .inl (cyI, 1508, .inl c_t_w)), (a_t_refused, .inl (cyI, 3, .inl c_t_refused))]
theorem hnX8_undo_X8 : ∀ w ∈ wsX80, w ∈ wsX8_undo := fun _ h => List.mem_cons_of_mem _ (List.mem_append_right _ h)
set_option maxHeartbeats 4000000 in
set_option maxRecDepth 100000 in
theorem kcX8_undo (l : Launch) (dC : Nat → ClassId) (dI : Nat → Nat → Nat) (cyB cyI cyJ cyZ cyS : ClassId) (a_t a_t_w a_t_isKept a_t_text a_t_refused a_t_numbers a_t_weights : Nat) (c_t_texted : Int32) (c_t_above : Int64) (c_t_below : Int64) (c_t_at : Int32) (c_t_start : Int32) (c_t_isWord : Int32) (c_t_isFigures : Int32) (c_t_all : Int64) (c_t_known : Int32) (c_t_truth : Int32) (c_t_x : Int64) (c_t_h : Int64) (c_t_w : (Nat → Int32)) (c_t_refused : (Nat → Int32)) (out : (Int32 × (Nat → Int32) × (Nat → Int32))) (hf : fX8_undo c_t_w c_t_refused = some out) : pb_K l yX8_undo wsX8_undo rmX8_undo (dC, dI) vwCl (pb_tys cyB cyI cyJ cyZ cyS) pb_NW [.ref a_t] (wwX8_undo cyB cyI cyJ cyZ cyS a_t a_t_w a_t_isKept a_t_text a_t_refused a_t_numbers a_t_weights c_t_texted c_t_above c_t_below c_t_at c_t_start c_t_isWord c_t_isFigures c_t_all c_t_known c_t_truth c_t_x c_t_h c_t_w c_t_refused) (wwX8_undo cyB cyI cyJ cyZ cyS a_t a_t_w a_t_isKept a_t_text a_t_refused a_t_numbers a_t_weights c_t_texted c_t_above c_t_below c_t_at c_t_start c_t_isWord c_t_isFigures c_t_all c_t_known c_t_truth c_t_x c_t_h out.2.1 out.2.2) (some (.int out.1)) := by
  unfold fX8_undo at hf
  refine pb_K.ofV (cc := cX8_undo) (maxL := 3) (ret := (some .int)) (lv0 := [(0, .ref a_t)]) (by decide) rfl (Nat.le_of_ble_eq_true rfl) rfl ?_
  intro p e s m below meth c A C hX hr hlk hA
  refine pb_aload_n (pc := 0) C dX8_undo_0 rfl 0 rfl ?_
  refine pb_get (pc := 1) C hnX8_undo_X8 0 rfl rfl 0 (by decide) (List.mem_of_getElem? (i := 1) rfl) rfl rfl dX8_undo_1 ?_
  refine pb_iconst (v := 4) (pc := 4) C dX8_undo_4 pb_kI_4 ?_
  refine pb_iald (pc := 5) C 1 1 rfl rfl pb_ok_4_1508 dX8_undo_5 ?_
  refine pb_topi (congrArg c_t_w pb_kN_4) ?_
  refine pb_if_ne (pc := 6) (tgt := 14) C dX8_undo_6 (by decide) (fun hc6 => ?_) (fun hc6 => ?_)
  · have hf := pb_neg hf hc6
    refine pb_aload_n (pc := 14) C dX8_undo_14 rfl 0 rfl ?_
    refine pb_get (pc := 15) C hnX8_undo_X8 0 rfl rfl 0 (by decide) (List.mem_of_getElem? (i := 1) rfl) rfl rfl dX8_undo_15 ?_
    refine pb_iconst (v := 4) (pc := 18) C dX8_undo_18 pb_kI_4 ?_
    refine pb_dup2_11 (pc := 19) C dX8_undo_19 rfl rfl ?_
    refine pb_iald (pc := 20) C 1 1 rfl rfl pb_ok_4_1508 dX8_undo_20 ?_
    refine pb_topi (congrArg c_t_w pb_kN_4) ?_
    refine pb_iconst (v := 1) (pc := 21) C dX8_undo_21 pb_kI_1 ?_
    refine pb_isub (pc := 22) C dX8_undo_22 ?_
    obtain ⟨u23, eu23, hf⟩ := pb_bind hf
    have eu23 := Option.some.inj eu23
    refine pb_iast (pc := 23) (ws' := (wwX8_undo cyB cyI cyJ cyZ cyS a_t a_t_w a_t_isKept a_t_text a_t_refused a_t_numbers a_t_weights c_t_texted c_t_above c_t_below c_t_at c_t_start c_t_isWord c_t_isFigures c_t_all c_t_known c_t_truth c_t_x c_t_h u23 c_t_refused)) C 1 1 rfl rfl pb_ok_4_1508 ((congrArg (fun k => upd c_t_w k ((c_t_w 4) - 1)) pb_kN_4).trans eu23) rfl dX8_undo_23 ?_
    refine pb_sipush (v := 129) (pc := 24) C dX8_undo_24 pb_kS_129 ?_
    refine pb_bipush (v := 31) (pc := 27) C dX8_undo_27 pb_kB_31 ?_
    refine pb_aload_n (pc := 29) C dX8_undo_29 rfl 0 rfl ?_
    refine pb_get (pc := 30) C hnX8_undo_X8 0 rfl rfl 0 (by decide) (List.mem_of_getElem? (i := 1) rfl) rfl rfl dX8_undo_30 ?_
    refine pb_iconst (v := 4) (pc := 33) C dX8_undo_33 pb_kI_4 ?_
    refine pb_iald (pc := 34) C 1 1 rfl rfl pb_ok_4_1508 dX8_undo_34 ?_
    refine pb_topi (congrArg u23 pb_kN_4) ?_
    refine pb_imul (pc := 35) C dX8_undo_35 ?_
    refine pb_iadd (pc := 36) C dX8_undo_36 ?_
    obtain ⟨x37, ex37, hf⟩ := pb_bind hf
    have ex37 := Option.some.inj ex37
    refine pb_topi ex37 ?_
    refine pb_istore_n (lv' := [(1, .int x37), (0, .ref a_t)]) (pc := 37) C dX8_undo_37 rfl (by decide) rfl ?_
    refine pb_aload_n (pc := 38) C dX8_undo_38 rfl 1 rfl ?_
    refine pb_get (pc := 39) C hnX8_undo_X8 0 rfl rfl 0 (by decide) (List.mem_of_getElem? (i := 1) rfl) rfl rfl dX8_undo_39 ?_
    refine pb_iconst (v := 1) (pc := 42) C dX8_undo_42 pb_kI_1 ?_
    refine pb_aload_n (pc := 43) C dX8_undo_43 rfl 1 rfl ?_
    refine pb_get (pc := 44) C hnX8_undo_X8 0 rfl rfl 0 (by decide) (List.mem_of_getElem? (i := 1) rfl) rfl rfl dX8_undo_44 ?_
    refine pb_iload_n (pc := 47) C dX8_undo_47 rfl 0 rfl ?_
    obtain ⟨g48, hf⟩ := pb_grd hf
    refine pb_iald (pc := 48) C 1 1 rfl rfl g48 dX8_undo_48 ?_
    obtain ⟨u49, eu49, hf⟩ := pb_bind hf
    have eu49 := Option.some.inj eu49
    refine pb_iast (pc := 49) (ws' := (wwX8_undo cyB cyI cyJ cyZ cyS a_t a_t_w a_t_isKept a_t_text a_t_refused a_t_numbers a_t_weights c_t_texted c_t_above c_t_below c_t_at c_t_start c_t_isWord c_t_isFigures c_t_all c_t_known c_t_truth c_t_x c_t_h u49 c_t_refused)) C 1 1 rfl rfl pb_ok_1_1508 ((congrArg (fun k => upd u23 k (u23 (Int32.toNatClampNeg x37))) pb_kN_1).trans eu49) rfl dX8_undo_49 ?_
    refine pb_iconst (v := 0) (pc := 50) C dX8_undo_50 pb_kI_0 ?_
    refine pb_istore_n (lv' := [(2, .int 0), (1, .int x37), (0, .ref a_t)]) (pc := 51) C dX8_undo_51 rfl (by decide) rfl ?_
    obtain ⟨z52, hz52, hk52⟩ := pb_bind hf
    have E52 : ∀ (e52_2 : Int32) (e52_c_t_w : (Nat → Int32)), fX8_undo_E52 c_t_refused e52_2 e52_c_t_w = some out → pb_V p l e rmX8_undo s m (([.ref a_t] : List Value).toArray) below meth c 3 (dC, dI) vwCl A 0 0 (pb_MQ below (([.ref a_t] : List Value).toArray) s (dC, dI) vwCl (wwX8_undo cyB cyI cyJ cyZ cyS a_t a_t_w a_t_isKept a_t_text a_t_refused a_t_numbers a_t_weights c_t_texted c_t_above c_t_below c_t_at c_t_start c_t_isWord c_t_isFigures c_t_all c_t_known c_t_truth c_t_x c_t_h c_t_w c_t_refused) (wwX8_undo cyB cyI cyJ cyZ cyS a_t a_t_w a_t_isKept a_t_text a_t_refused a_t_numbers a_t_weights c_t_texted c_t_above c_t_below c_t_at c_t_start c_t_isWord c_t_isFigures c_t_all c_t_known c_t_truth c_t_x c_t_h out.2.1 out.2.2) (some (.int out.1)) A) (wwX8_undo cyB cyI cyJ cyZ cyS a_t a_t_w a_t_isKept a_t_text a_t_refused a_t_numbers a_t_weights c_t_texted c_t_above c_t_below c_t_at c_t_start c_t_isWord c_t_isFigures c_t_all c_t_known c_t_truth c_t_x c_t_h e52_c_t_w c_t_refused) [(0, .ref a_t)] [] 83 := by
      intro e52_2 e52_c_t_w hf
      unfold fX8_undo_E52 at hf
      refine pb_aload_n (pc := 83) C dX8_undo_83 rfl 0 rfl ?_
      refine pb_get (pc := 84) C hnX8_undo_X8 0 rfl rfl 0 (by decide) (List.mem_of_getElem? (i := 1) rfl) rfl rfl dX8_undo_84 ?_
      refine pb_iconst (v := 1) (pc := 87) C dX8_undo_87 pb_kI_1 ?_
      refine pb_iald (pc := 88) C 1 1 rfl rfl pb_ok_1_1508 dX8_undo_88 ?_
      refine pb_topi (congrArg e52_c_t_w pb_kN_1) ?_
      obtain rfl := Option.some.inj hf
      exact pb_iret (pc := 89) C hr hlk hA dX8_undo_89
    have L52 : ∀ (n : Nat) (l52_2 : Int32) (l52_c_t_w : (Nat → Int32)), pb_lp (fun y => fX8_undo_L52 x37 y.1 y.2) n (l52_2, l52_c_t_w) = some z52 → pb_V p l e rmX8_undo s m (([.ref a_t] : List Value).toArray) below meth c 3 (dC, dI) vwCl A 0 0 (pb_MQ below (([.ref a_t] : List Value).toArray) s (dC, dI) vwCl (wwX8_undo cyB cyI cyJ cyZ cyS a_t a_t_w a_t_isKept a_t_text a_t_refused a_t_numbers a_t_weights c_t_texted c_t_above c_t_below c_t_at c_t_start c_t_isWord c_t_isFigures c_t_all c_t_known c_t_truth c_t_x c_t_h c_t_w c_t_refused) (wwX8_undo cyB cyI cyJ cyZ cyS a_t a_t_w a_t_isKept a_t_text a_t_refused a_t_numbers a_t_weights c_t_texted c_t_above c_t_below c_t_at c_t_start c_t_isWord c_t_isFigures c_t_all c_t_known c_t_truth c_t_x c_t_h out.2.1 out.2.2) (some (.int out.1)) A) (wwX8_undo cyB cyI cyJ cyZ cyS a_t a_t_w a_t_isKept a_t_text a_t_refused a_t_numbers a_t_weights c_t_texted c_t_above c_t_below c_t_at c_t_start c_t_isWord c_t_isFigures c_t_all c_t_known c_t_truth c_t_x c_t_h l52_c_t_w c_t_refused) [(0, .ref a_t), (1, .int x37), (2, .int l52_2)] [] 52 := by
      intro n
      induction n with
      | zero => intro l52_2 l52_c_t_w hf; exact (pb_lp_zero hf).elim
      | succ n ih52 =>
        intro l52_2 l52_c_t_w hf
        obtain ⟨y52, hf, hl52⟩ := pb_lp_succ hf
        have hf : fX8_undo_L52 x37 l52_2 l52_c_t_w = some y52 := hf
        unfold fX8_undo_L52 at hf
        refine pb_iload_n (pc := 52) C dX8_undo_52 rfl 2 rfl ?_
        refine pb_bipush (v := 30) (pc := 53) C dX8_undo_53 pb_kB_30 ?_
        refine pb_icmp_ge (pc := 55) (tgt := 83) C dX8_undo_55 (by decide) (fun hc55 => ?_) (fun hc55 => ?_)
        · have hf := pb_pos hf hc55
          obtain rfl := Option.some.inj hf
          obtain rfl := pb_esc hl52
          refine pb_sub [0] rfl ?_
          exact E52 l52_2 l52_c_t_w hk52
        · have hf := pb_neg hf hc55
          refine pb_aload_n (pc := 58) C dX8_undo_58 rfl 0 rfl ?_
          refine pb_get (pc := 59) C hnX8_undo_X8 0 rfl rfl 0 (by decide) (List.mem_of_getElem? (i := 1) rfl) rfl rfl dX8_undo_59 ?_
          refine pb_bipush (v := 29) (pc := 62) C dX8_undo_62 pb_kB_29 ?_
          refine pb_iload_n (pc := 64) C dX8_undo_64 rfl 2 rfl ?_
          refine pb_iadd (pc := 65) C dX8_undo_65 ?_
          refine pb_aload_n (pc := 66) C dX8_undo_66 rfl 0 rfl ?_
          refine pb_get (pc := 67) C hnX8_undo_X8 0 rfl rfl 0 (by decide) (List.mem_of_getElem? (i := 1) rfl) rfl rfl dX8_undo_67 ?_
          refine pb_iload_n (pc := 70) C dX8_undo_70 rfl 1 rfl ?_
          refine pb_iconst (v := 1) (pc := 71) C dX8_undo_71 pb_kI_1 ?_
          refine pb_iadd (pc := 72) C dX8_undo_72 ?_
          refine pb_iload_n (pc := 73) C dX8_undo_73 rfl 2 rfl ?_
          refine pb_iadd (pc := 74) C dX8_undo_74 ?_
          obtain ⟨g75, hf⟩ := pb_grd hf
          refine pb_iald (pc := 75) C 1 1 rfl rfl g75 dX8_undo_75 ?_
          obtain ⟨g76, hf⟩ := pb_grd hf
          obtain ⟨u76, eu76, hf⟩ := pb_bind hf
          have eu76 := Option.some.inj eu76
          refine pb_iast (pc := 76) (ws' := (wwX8_undo cyB cyI cyJ cyZ cyS a_t a_t_w a_t_isKept a_t_text a_t_refused a_t_numbers a_t_weights c_t_texted c_t_above c_t_below c_t_at c_t_start c_t_isWord c_t_isFigures c_t_all c_t_known c_t_truth c_t_x c_t_h u76 c_t_refused)) C 1 1 rfl rfl g76 eu76 rfl dX8_undo_76 ?_
          refine pb_iinc (v := l52_2 + 1) (lv' := [(2, .int (l52_2 + 1)), (0, .ref a_t), (1, .int x37)]) (pc := 77) C dX8_undo_77 2 rfl (pb_inc pb_kI_1 rfl) (by decide) rfl ?_
          refine pb_goto (pc := 80) (tgt := 52) C dX8_undo_80 (by decide) ?_
          obtain rfl := Option.some.inj hf
          refine pb_sub [1, 2, 0] rfl ?_
          have hl52 := pb_inl hl52
          exact ih52 (l52_2 + 1) u76 hl52
    refine pb_sub [2, 1, 0] rfl ?_
    exact L52 pb_FU 0 u49 hz52
  · have hf := pb_pos hf hc6
    refine pb_aload_n (pc := 9) C dX8_undo_9 rfl 0 rfl ?_
    obtain ⟨r10, hr10, hf⟩ := pb_bind hf
    refine pb_callV (pc := 10) (n0 := 3) (ws' := (wwX8_undo cyB cyI cyJ cyZ cyS a_t a_t_w a_t_isKept a_t_text a_t_refused a_t_numbers a_t_weights c_t_texted c_t_above c_t_below c_t_at c_t_start c_t_isWord c_t_isFigures c_t_all c_t_known c_t_truth c_t_x c_t_h c_t_w r10.2)) (rest := []) (st2 := [.int r10.1]) C (kcX8_no l dC dI cyB cyI cyJ cyZ cyS a_t a_t_w a_t_isKept a_t_text a_t_refused a_t_numbers a_t_weights c_t_texted c_t_above c_t_below c_t_at c_t_start c_t_isWord c_t_isFigures c_t_all c_t_known c_t_truth c_t_x c_t_h c_t_refused r10 hr10) pb_NW_b (pb_NW_x hX) (cwV 0 C.1.2.2.2.2 gX8_undo_X8_no rfl rfl rfl kdV_X8_no ⟨Nat.le_of_ble_eq_true rfl, Nat.le_of_ble_eq_true rfl⟩) 0 rfl rfl [0, 2] [1] rfl rfl ⟨⟨_, rfl, rfl⟩, trivial⟩ rfl (by decide +kernel) (adl := [a_t, a_t_refused]) rfl rfl rfl rfl rfl (Nat.le_of_ble_eq_true rfl) ⟨Nat.le_refl _, Nat.le_refl _⟩ dX8_undo_10 rfl ?_
    obtain rfl := Option.some.inj hf
    exact pb_iret (pc := 13) C hr hlk hA dX8_undo_13
def rmX8_isStake : Room := { frames := 3, cells := 0, slots := 0, locals := 67 }
def wwX8_isStake (cyB cyI cyJ cyZ cyS : ClassId) : va_W := []
set_option maxHeartbeats 4000000 in
set_option maxRecDepth 100000 in
theorem kcX8_isStake (l : Launch) (dC : Nat → ClassId) (dI : Nat → Nat → Nat) (cyB cyI cyJ cyZ cyS : ClassId) (p1 : Int32) (p2 : Int32) (p3 : Int32) (p4 : Int32) (p5 : Int32) (out : Int32) (hf : fX8_isStake p1 p2 p3 p4 p5 = some out) : pb_K l yX8_isStake wsX8_isStake rmX8_isStake (dC, dI) vwCl (pb_tys cyB cyI cyJ cyZ cyS) pb_NW [.int p1, .int p2, .int p3, .int p4, .int p5] (wwX8_isStake cyB cyI cyJ cyZ cyS) (wwX8_isStake cyB cyI cyJ cyZ cyS) (some (.int out)) := by
  unfold fX8_isStake at hf
  refine pb_K.ofV (cc := cX8_isStake) (maxL := 5) (ret := (some .boolean)) (lv0 := [(0, .int p1), (1, .int p2), (2, .int p3), (3, .int p4), (4, .int p5)]) (by decide) rfl (Nat.le_of_ble_eq_true rfl) rfl ?_
  intro p e s m below meth c A C hX hr hlk hA
  refine pb_iload_n (pc := 0) C dX8_isStake_0 rfl 0 rfl ?_
  refine pb_iload_n (pc := 1) C dX8_isStake_1 rfl 1 rfl ?_
  refine pb_iload_n (pc := 2) C dX8_isStake_2 rfl 2 rfl ?_
  obtain ⟨r3, hr3, hf⟩ := pb_bind hf
  refine pb_callS (pc := 3) (n0 := 0) (ws' := (wwX8_isStake cyB cyI cyJ cyZ cyS)) (rest := []) (st2 := [.int r3]) C (kcX8_isClaim l dC dI cyB cyI cyJ cyZ cyS p1 p2 p3 r3 hr3) pb_NW_b (pb_NW_x hX) (va_cwS 3 C.1.2.2.2.2 gX8_isStake_X8_isClaim rfl rfl rfl kdS_X8_isClaim ⟨Nat.le_of_ble_eq_true rfl, Nat.le_of_ble_eq_true rfl⟩) [] [] rfl rfl trivial rfl (by decide +kernel) (adl := []) rfl rfl rfl rfl rfl (Nat.le_of_ble_eq_true rfl) ⟨Nat.le_refl _, Nat.le_refl _⟩ dX8_isStake_3 rfl ?_
  refine pb_if_eq (pc := 6) (tgt := 38) C dX8_isStake_6 (by decide) (fun hc6 => ?_) (fun hc6 => ?_)
  · have hf := pb_pos hf hc6
    refine pb_iconst (v := 0) (pc := 38) C dX8_isStake_38 pb_kI_0 ?_
    obtain rfl := Option.some.inj hf
    exact pb_zret (pc := 39) C hr hlk hA pb_isB0 dX8_isStake_39
  · have hf := pb_neg hf hc6
    refine pb_iload_n (pc := 9) C dX8_isStake_9 rfl 3 rfl ?_
    refine pb_i2l (pc := 10) C dX8_isStake_10 ?_
    refine pb_lconst (v := 1) (pc := 11) C dX8_isStake_11 pb_kL_1 ?_
    refine pb_ldc2 (v := 99) (pc := 12) C dX8_isStake_12 (List.mem_of_getElem? (i := 1) rfl) ?_
    obtain ⟨r15, hr15, hf⟩ := pb_bind hf
    refine pb_callS (pc := 15) (n0 := 0) (ws' := (wwX8_isStake cyB cyI cyJ cyZ cyS)) (rest := []) (st2 := [.int r15]) C (kcX8_in l dC dI cyB cyI cyJ cyZ cyS (Int32.toInt64 p4) 1 99 r15 hr15) pb_NW_b (pb_NW_x hX) (va_cwS 3 C.1.2.2.2.2 gX8_isStake_X8_in rfl rfl rfl kdS_X8_in ⟨Nat.le_of_ble_eq_true rfl, Nat.le_of_ble_eq_true rfl⟩) [] [] rfl rfl trivial rfl (by decide +kernel) (adl := []) rfl rfl rfl rfl rfl (Nat.le_of_ble_eq_true rfl) ⟨Nat.le_refl _, Nat.le_refl _⟩ dX8_isStake_15 rfl ?_
    refine pb_if_eq (pc := 18) (tgt := 38) C dX8_isStake_18 (by decide) (fun hc18 => ?_) (fun hc18 => ?_)
    · have hf := pb_pos hf hc18
      refine pb_iconst (v := 0) (pc := 38) C dX8_isStake_38 pb_kI_0 ?_
      obtain rfl := Option.some.inj hf
      exact pb_zret (pc := 39) C hr hlk hA pb_isB0 dX8_isStake_39
    · have hf := pb_neg hf hc18
      refine pb_iload (pc := 21) C dX8_isStake_21 4 rfl ?_
      refine pb_i2l (pc := 23) C dX8_isStake_23 ?_
      refine pb_lconst (v := 0) (pc := 24) C dX8_isStake_24 pb_kL_0 ?_
      refine pb_ldc2 (v := 99) (pc := 25) C dX8_isStake_25 (List.mem_of_getElem? (i := 1) rfl) ?_
      obtain ⟨r28, hr28, hf⟩ := pb_bind hf
      refine pb_callS (pc := 28) (n0 := 0) (ws' := (wwX8_isStake cyB cyI cyJ cyZ cyS)) (rest := []) (st2 := [.int r28]) C (kcX8_in l dC dI cyB cyI cyJ cyZ cyS (Int32.toInt64 p5) 0 99 r28 hr28) pb_NW_b (pb_NW_x hX) (va_cwS 3 C.1.2.2.2.2 gX8_isStake_X8_in rfl rfl rfl kdS_X8_in ⟨Nat.le_of_ble_eq_true rfl, Nat.le_of_ble_eq_true rfl⟩) [] [] rfl rfl trivial rfl (by decide +kernel) (adl := []) rfl rfl rfl rfl rfl (Nat.le_of_ble_eq_true rfl) ⟨Nat.le_refl _, Nat.le_refl _⟩ dX8_isStake_28 rfl ?_
      refine pb_if_eq (pc := 31) (tgt := 38) C dX8_isStake_31 (by decide) (fun hc31 => ?_) (fun hc31 => ?_)
      · have hf := pb_pos hf hc31
        refine pb_iconst (v := 0) (pc := 38) C dX8_isStake_38 pb_kI_0 ?_
        obtain rfl := Option.some.inj hf
        exact pb_zret (pc := 39) C hr hlk hA pb_isB0 dX8_isStake_39
      · have hf := pb_neg hf hc31
        refine pb_iconst (v := 1) (pc := 34) C dX8_isStake_34 pb_kI_1 ?_
        refine pb_goto (pc := 35) (tgt := 39) C dX8_isStake_35 (by decide) ?_
        obtain rfl := Option.some.inj hf
        exact pb_zret (pc := 39) C hr hlk hA pb_isB1 dX8_isStake_39
