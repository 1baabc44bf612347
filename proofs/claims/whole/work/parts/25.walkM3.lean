def rmX8_takesItem : Room := { frames := 4, cells := 0, slots := 0, locals := 90 }
def wwX8_takesItem (cyB cyI cyJ cyZ cyS : ClassId) (a_t a_t_w a_t_isKept a_t_text a_t_refused a_t_numbers a_t_weights : Nat) (c_t_texted : Int32) (c_t_above : Int64) (c_t_below : Int64) (c_t_at : Int32) (c_t_start : Int32) (c_t_isWord : Int32) (c_t_isFigures : Int32) (c_t_all : Int64) (c_t_known : Int32) (c_t_truth : Int32) (c_t_x : Int64) (c_t_h : Int64) (c_t_w : (Nat → Int32)) (c_t_text : (Nat → Int32)) (c_t_numbers : (Nat → Int32)) : va_W := [(a_t, .inr (8, [.ref a_t_w, .ref a_t_isKept, .ref a_t_text, .int c_t_texted, .ref a_t_refused, .long c_t_above, .long c_t_below, .int c_t_at, .int c_t_start, .int c_t_isWord, .int c_t_isFigures, .ref a_t_numbers, .ref a_t_weights, .long c_t_all, .int c_t_known, .int c_t_truth, .long c_t_x, .long c_t_h])), (a_t_w, .inl (cyI, 1508, .inl c_t_w)), (a_t_text, .inl (cyI, 150, .inl c_t_text)), (a_t_numbers, .inl (cyI, 5, .inl c_t_numbers))]
theorem hnX8_takesItem_X8 : ∀ w ∈ wsX80, w ∈ wsX8_takesItem := fun _ h => List.mem_cons_of_mem _ (List.mem_append_right _ h)
set_option maxHeartbeats 4000000 in
set_option maxRecDepth 100000 in
theorem kcX8_takesItem (l : Launch) (dC : Nat → ClassId) (dI : Nat → Nat → Nat) (cyB cyI cyJ cyZ cyS : ClassId) (a_t a_t_w a_t_isKept a_t_text a_t_refused a_t_numbers a_t_weights : Nat) (c_t_texted : Int32) (c_t_above : Int64) (c_t_below : Int64) (c_t_at : Int32) (c_t_start : Int32) (c_t_isWord : Int32) (c_t_isFigures : Int32) (c_t_all : Int64) (c_t_known : Int32) (c_t_truth : Int32) (c_t_x : Int64) (c_t_h : Int64) (c_t_w : (Nat → Int32)) (c_t_text : (Nat → Int32)) (c_t_numbers : (Nat → Int32)) (p1 : Int32) (out : (Int32 × Int32 × Int32 × Int32 × Int32 × (Nat → Int32) × (Nat → Int32))) (hf : fX8_takesItem c_t_texted c_t_at c_t_start c_t_isWord c_t_isFigures c_t_w c_t_text c_t_numbers p1 = some out) : pb_K l yX8_takesItem wsX8_takesItem rmX8_takesItem (dC, dI) vwCl (pb_tys cyB cyI cyJ cyZ cyS) pb_NW [.ref a_t, .int p1] (wwX8_takesItem cyB cyI cyJ cyZ cyS a_t a_t_w a_t_isKept a_t_text a_t_refused a_t_numbers a_t_weights c_t_texted c_t_above c_t_below c_t_at c_t_start c_t_isWord c_t_isFigures c_t_all c_t_known c_t_truth c_t_x c_t_h c_t_w c_t_text c_t_numbers) (wwX8_takesItem cyB cyI cyJ cyZ cyS a_t a_t_w a_t_isKept a_t_text a_t_refused a_t_numbers a_t_weights c_t_texted c_t_above c_t_below out.2.1 out.2.2.1 out.2.2.2.1 out.2.2.2.2.1 c_t_all c_t_known c_t_truth c_t_x c_t_h out.2.2.2.2.2.1 c_t_text out.2.2.2.2.2.2) (some (.int out.1)) := by
  unfold fX8_takesItem at hf
  refine pb_K.ofV (cc := cX8_takesItem) (maxL := 4) (ret := (some .boolean)) (lv0 := [(0, .ref a_t), (1, .int p1)]) (by decide) rfl (Nat.le_of_ble_eq_true rfl) rfl ?_
  intro p e s m below meth c A C hX hr hlk hA
  refine pb_aload_n (pc := 0) C dX8_takesItem_0 rfl 0 rfl ?_
  obtain ⟨r1, hr1, hf⟩ := pb_bind hf
  refine pb_callV (pc := 1) (n0 := 4) (ws' := (wwX8_takesItem cyB cyI cyJ cyZ cyS a_t a_t_w a_t_isKept a_t_text a_t_refused a_t_numbers a_t_weights c_t_texted c_t_above c_t_below c_t_at c_t_start c_t_isWord c_t_isFigures c_t_all c_t_known c_t_truth c_t_x c_t_h c_t_w c_t_text c_t_numbers)) (rest := []) (st2 := [.int r1]) C (kcX8_wordNow l dC dI cyB cyI cyJ cyZ cyS a_t a_t_w a_t_isKept a_t_text a_t_refused a_t_numbers a_t_weights c_t_texted c_t_above c_t_below c_t_at c_t_start c_t_isWord c_t_isFigures c_t_all c_t_known c_t_truth c_t_x c_t_h c_t_text r1 hr1) pb_NW_b (pb_NW_x hX) (cwV 0 C.1.2.2.2.2 gX8_takesItem_X8_wordNow rfl rfl rfl kdV_X8_wordNow ⟨Nat.le_of_ble_eq_true rfl, Nat.le_of_ble_eq_true rfl⟩) 0 rfl rfl [0, 2] [1, 3] rfl rfl ⟨⟨_, rfl, rfl⟩, ⟨⟨_, rfl, rfl⟩, trivial⟩⟩ rfl (by decide +kernel) (adl := [a_t, a_t_text]) rfl rfl rfl rfl rfl (Nat.le_of_ble_eq_true rfl) ⟨Nat.le_refl _, Nat.le_refl _⟩ dX8_takesItem_1 rfl ?_
  refine pb_istore_n (lv' := [(2, .int r1), (0, .ref a_t), (1, .int p1)]) (pc := 4) C dX8_takesItem_4 rfl (by decide) rfl ?_
  refine pb_iload_n (pc := 5) C dX8_takesItem_5 rfl 0 rfl ?_
  refine pb_iconst (v := (-1)) (pc := 6) C dX8_takesItem_6 pb_kI_m1 ?_
  refine pb_icmp_eq (pc := 7) (tgt := 31) C dX8_takesItem_7 (by decide) (fun hc7 => ?_) (fun hc7 => ?_)
  · have hf := pb_pos hf hc7
    refine pb_iconst (v := 0) (pc := 31) C dX8_takesItem_31 pb_kI_0 ?_
    obtain rfl := Option.some.inj hf
    exact pb_zret (pc := 32) C hr hlk hA pb_isB0 dX8_takesItem_32
  · have hf := pb_neg hf hc7
    refine pb_iload_n (pc := 10) C dX8_takesItem_10 rfl 0 rfl ?_
    obtain ⟨y19, hf, hk19⟩ := pb_bind hf
    have J19 : ∀ (j19_s0 : Int32), fX8_takesItem_J19 c_t_texted c_t_at c_t_start c_t_isWord c_t_isFigures c_t_w c_t_text c_t_numbers p1 r1 j19_s0 = some out → pb_V p l e rmX8_takesItem s m (([.ref a_t, .int p1] : List Value).toArray) below meth c 4 (dC, dI) vwCl A 0 0 (pb_MQ below (([.ref a_t, .int p1] : List Value).toArray) s (dC, dI) vwCl (wwX8_takesItem cyB cyI cyJ cyZ cyS a_t a_t_w a_t_isKept a_t_text a_t_refused a_t_numbers a_t_weights c_t_texted c_t_above c_t_below c_t_at c_t_start c_t_isWord c_t_isFigures c_t_all c_t_known c_t_truth c_t_x c_t_h c_t_w c_t_text c_t_numbers) (wwX8_takesItem cyB cyI cyJ cyZ cyS a_t a_t_w a_t_isKept a_t_text a_t_refused a_t_numbers a_t_weights c_t_texted c_t_above c_t_below out.2.1 out.2.2.1 out.2.2.2.1 out.2.2.2.2.1 c_t_all c_t_known c_t_truth c_t_x c_t_h out.2.2.2.2.2.1 c_t_text out.2.2.2.2.2.2) (some (.int out.1)) A) (wwX8_takesItem cyB cyI cyJ cyZ cyS a_t a_t_w a_t_isKept a_t_text a_t_refused a_t_numbers a_t_weights c_t_texted c_t_above c_t_below c_t_at c_t_start c_t_isWord c_t_isFigures c_t_all c_t_known c_t_truth c_t_x c_t_h c_t_w c_t_text c_t_numbers) [(0, .ref a_t), (1, .int p1), (2, .int r1)] [.int j19_s0] 19 := by
      intro j19_s0 hf
      unfold fX8_takesItem_J19 at hf
      refine pb_iload_n (pc := 19) C dX8_takesItem_19 rfl 1 rfl ?_
      obtain ⟨y28, hf, hk28⟩ := pb_bind hf
      have J28 : ∀ (j28_s1 : Int32), fX8_takesItem_J28 c_t_texted c_t_at c_t_start c_t_isWord c_t_isFigures c_t_w c_t_text c_t_numbers j19_s0 r1 j28_s1 = some out → pb_V p l e rmX8_takesItem s m (([.ref a_t, .int p1] : List Value).toArray) below meth c 4 (dC, dI) vwCl A 0 0 (pb_MQ below (([.ref a_t, .int p1] : List Value).toArray) s (dC, dI) vwCl (wwX8_takesItem cyB cyI cyJ cyZ cyS a_t a_t_w a_t_isKept a_t_text a_t_refused a_t_numbers a_t_weights c_t_texted c_t_above c_t_below c_t_at c_t_start c_t_isWord c_t_isFigures c_t_all c_t_known c_t_truth c_t_x c_t_h c_t_w c_t_text c_t_numbers) (wwX8_takesItem cyB cyI cyJ cyZ cyS a_t a_t_w a_t_isKept a_t_text a_t_refused a_t_numbers a_t_weights c_t_texted c_t_above c_t_below out.2.1 out.2.2.1 out.2.2.2.1 out.2.2.2.2.1 c_t_all c_t_known c_t_truth c_t_x c_t_h out.2.2.2.2.2.1 c_t_text out.2.2.2.2.2.2) (some (.int out.1)) A) (wwX8_takesItem cyB cyI cyJ cyZ cyS a_t a_t_w a_t_isKept a_t_text a_t_refused a_t_numbers a_t_weights c_t_texted c_t_above c_t_below c_t_at c_t_start c_t_isWord c_t_isFigures c_t_all c_t_known c_t_truth c_t_x c_t_h c_t_w c_t_text c_t_numbers) [(0, .ref a_t), (2, .int r1)] [.int j28_s1, .int j19_s0] 28 := by
        intro j28_s1 hf
        unfold fX8_takesItem_J28 at hf
        refine pb_icmp_eq (pc := 28) (tgt := 33) C dX8_takesItem_28 (by decide) (fun hc28 => ?_) (fun hc28 => ?_)
        · have hf := pb_pos hf hc28
          refine pb_iload_n (pc := 33) C dX8_takesItem_33 rfl 1 rfl ?_
          obtain ⟨y79, hf, hk79⟩ := pb_bind hf
          have J79 : ∀ (j79_s0 : Int32) (j79_c_t_at : Int32) (j79_c_t_start : Int32) (j79_c_t_isWord : Int32) (j79_c_t_isFigures : Int32) (j79_c_t_w : (Nat → Int32)) (j79_c_t_numbers : (Nat → Int32)), fX8_takesItem_J79 c_t_texted c_t_text j79_s0 j79_c_t_at j79_c_t_start j79_c_t_isWord j79_c_t_isFigures j79_c_t_w j79_c_t_numbers = some out → pb_V p l e rmX8_takesItem s m (([.ref a_t, .int p1] : List Value).toArray) below meth c 4 (dC, dI) vwCl A 0 0 (pb_MQ below (([.ref a_t, .int p1] : List Value).toArray) s (dC, dI) vwCl (wwX8_takesItem cyB cyI cyJ cyZ cyS a_t a_t_w a_t_isKept a_t_text a_t_refused a_t_numbers a_t_weights c_t_texted c_t_above c_t_below c_t_at c_t_start c_t_isWord c_t_isFigures c_t_all c_t_known c_t_truth c_t_x c_t_h c_t_w c_t_text c_t_numbers) (wwX8_takesItem cyB cyI cyJ cyZ cyS a_t a_t_w a_t_isKept a_t_text a_t_refused a_t_numbers a_t_weights c_t_texted c_t_above c_t_below out.2.1 out.2.2.1 out.2.2.2.1 out.2.2.2.2.1 c_t_all c_t_known c_t_truth c_t_x c_t_h out.2.2.2.2.2.1 c_t_text out.2.2.2.2.2.2) (some (.int out.1)) A) (wwX8_takesItem cyB cyI cyJ cyZ cyS a_t a_t_w a_t_isKept a_t_text a_t_refused a_t_numbers a_t_weights c_t_texted c_t_above c_t_below j79_c_t_at j79_c_t_start j79_c_t_isWord j79_c_t_isFigures c_t_all c_t_known c_t_truth c_t_x c_t_h j79_c_t_w c_t_text j79_c_t_numbers) [(0, .ref a_t)] [.int j79_s0] 79 := by
            intro j79_s0 j79_c_t_at j79_c_t_start j79_c_t_isWord j79_c_t_isFigures j79_c_t_w j79_c_t_numbers hf
            unfold fX8_takesItem_J79 at hf
            refine pb_istore_n (lv' := [(3, .int j79_s0), (0, .ref a_t)]) (pc := 79) C dX8_takesItem_79 rfl (by decide) rfl ?_
            refine pb_iload_n (pc := 80) C dX8_takesItem_80 rfl 0 rfl ?_
            refine pb_if_ne (pc := 81) (tgt := 86) C dX8_takesItem_81 (by decide) (fun hc81 => ?_) (fun hc81 => ?_)
            · have hf := pb_neg hf hc81
              refine pb_aload_n (pc := 86) C dX8_takesItem_86 rfl 1 rfl ?_
              obtain ⟨r87, hr87, hf⟩ := pb_bind hf
              refine pb_callV (pc := 87) (n0 := 4) (ws' := (wwX8_takesItem cyB cyI cyJ cyZ cyS a_t a_t_w a_t_isKept a_t_text a_t_refused a_t_numbers a_t_weights c_t_texted c_t_above c_t_below r87.1 r87.2.1 r87.2.2.1 r87.2.2.2 c_t_all c_t_known c_t_truth c_t_x c_t_h j79_c_t_w c_t_text j79_c_t_numbers)) (rest := []) (st2 := []) C (kcX8_token l dC dI cyB cyI cyJ cyZ cyS a_t a_t_w a_t_isKept a_t_text a_t_refused a_t_numbers a_t_weights c_t_texted c_t_above c_t_below j79_c_t_at j79_c_t_start j79_c_t_isWord j79_c_t_isFigures c_t_all c_t_known c_t_truth c_t_x c_t_h c_t_text r87 hr87) pb_NW_b (pb_NW_x hX) (cwV 0 C.1.2.2.2.2 gX8_takesItem_X8_token rfl rfl rfl kdV_X8_token ⟨Nat.le_of_ble_eq_true rfl, Nat.le_of_ble_eq_true rfl⟩) 0 rfl rfl [0, 2] [1, 3] rfl rfl ⟨⟨_, rfl, rfl⟩, ⟨⟨_, rfl, rfl⟩, trivial⟩⟩ rfl (by decide +kernel) (adl := [a_t, a_t_text]) rfl rfl rfl rfl rfl (Nat.le_of_ble_eq_true rfl) ⟨Nat.le_refl _, Nat.le_refl _⟩ dX8_takesItem_87 rfl ?_
              refine pb_aload_n (pc := 90) C dX8_takesItem_90 rfl 1 rfl ?_
              refine pb_aload_n (pc := 91) C dX8_takesItem_91 rfl 1 rfl ?_
              refine pb_get (pc := 92) C hnX8_takesItem_X8 0 rfl rfl 8 (by decide) (List.mem_of_getElem? (i := 1) rfl) rfl rfl dX8_takesItem_92 ?_
              obtain ⟨r95, hr95, hf⟩ := pb_bind hf
              refine pb_callV (pc := 95) (n0 := 4) (ws' := (wwX8_takesItem cyB cyI cyJ cyZ cyS a_t a_t_w a_t_isKept a_t_text a_t_refused a_t_numbers a_t_weights c_t_texted c_t_above c_t_below r87.1 r87.2.1 r87.2.2.1 r87.2.2.2 c_t_all c_t_known c_t_truth c_t_x c_t_h j79_c_t_w c_t_text j79_c_t_numbers)) (rest := []) (st2 := [.int r95]) C (kcX8_byteAt l dC dI cyB cyI cyJ cyZ cyS a_t a_t_w a_t_isKept a_t_text a_t_refused a_t_numbers a_t_weights c_t_texted c_t_above c_t_below r87.1 r87.2.1 r87.2.2.1 r87.2.2.2 c_t_all c_t_known c_t_truth c_t_x c_t_h c_t_text r87.2.1 r95 hr95) pb_NW_b (pb_NW_x hX) (cwV 1 C.1.2.2.2.2 gX8_takesItem_X8_byteAt rfl rfl rfl kdV_X8_byteAt ⟨Nat.le_of_ble_eq_true rfl, Nat.le_of_ble_eq_true rfl⟩) 0 rfl rfl [0, 2] [1, 3] rfl rfl ⟨⟨_, rfl, rfl⟩, ⟨⟨_, rfl, rfl⟩, trivial⟩⟩ rfl (by decide +kernel) (adl := [a_t, a_t_text]) rfl rfl rfl rfl rfl (Nat.le_of_ble_eq_true rfl) ⟨Nat.le_refl _, Nat.le_refl _⟩ dX8_takesItem_95 rfl ?_
              refine pb_bipush (v := 59) (pc := 98) C dX8_takesItem_98 pb_kB_59 ?_
              refine pb_icmp_ne (pc := 100) (tgt := 107) C dX8_takesItem_100 (by decide) (fun hc100 => ?_) (fun hc100 => ?_)
              · have hf := pb_neg hf hc100
                refine pb_iconst (v := 0) (pc := 107) C dX8_takesItem_107 pb_kI_0 ?_
                obtain rfl := Option.some.inj hf
                exact pb_zret (pc := 108) C hr hlk hA pb_isB0 dX8_takesItem_108
              · have hf := pb_pos hf hc100
                refine pb_iconst (v := 1) (pc := 103) C dX8_takesItem_103 pb_kI_1 ?_
                refine pb_goto (pc := 104) (tgt := 108) C dX8_takesItem_104 (by decide) ?_
                obtain rfl := Option.some.inj hf
                exact pb_zret (pc := 108) C hr hlk hA pb_isB1 dX8_takesItem_108
            · have hf := pb_pos hf hc81
              refine pb_iconst (v := 0) (pc := 84) C dX8_takesItem_84 pb_kI_0 ?_
              obtain rfl := Option.some.inj hf
              exact pb_zret (pc := 85) C hr hlk hA pb_isB0 dX8_takesItem_85
          refine pb_if_eq (pc := 34) (tgt := 74) C dX8_takesItem_34 (by decide) (fun hc34 => ?_) (fun hc34 => ?_)
          · have hf := pb_pos hf hc34
            refine pb_iconst (v := 1) (pc := 74) C dX8_takesItem_74 pb_kI_1 ?_
            refine pb_goto (pc := 75) (tgt := 79) C dX8_takesItem_75 (by decide) ?_
            obtain rfl := Option.some.inj hf
            refine pb_sub [0] rfl ?_
            exact J79 1 c_t_at c_t_start c_t_isWord c_t_isFigures c_t_w c_t_numbers hk79
          · have hf := pb_neg hf hc34
            refine pb_iload_n (pc := 37) C dX8_takesItem_37 rfl 1 rfl ?_
            refine pb_iconst (v := 1) (pc := 38) C dX8_takesItem_38 pb_kI_1 ?_
            refine pb_icmp_ne (pc := 39) (tgt := 52) C dX8_takesItem_39 (by decide) (fun hc39 => ?_) (fun hc39 => ?_)
            · have hf := pb_neg hf hc39
              refine pb_iload_n (pc := 52) C dX8_takesItem_52 rfl 1 rfl ?_
              refine pb_iconst (v := 2) (pc := 53) C dX8_takesItem_53 pb_kI_2 ?_
              refine pb_icmp_ne (pc := 54) (tgt := 67) C dX8_takesItem_54 (by decide) (fun hc54 => ?_) (fun hc54 => ?_)
              · have hf := pb_neg hf hc54
                refine pb_aload_n (pc := 67) C dX8_takesItem_67 rfl 0 rfl ?_
                obtain ⟨r68, hr68, hf⟩ := pb_bind hf
                refine pb_callV (pc := 68) (n0 := 4) (ws' := (wwX8_takesItem cyB cyI cyJ cyZ cyS a_t a_t_w a_t_isKept a_t_text a_t_refused a_t_numbers a_t_weights c_t_texted c_t_above c_t_below r68.2.1 r68.2.2.1 r68.2.2.2.1 r68.2.2.2.2.1 c_t_all c_t_known c_t_truth c_t_x c_t_h r68.2.2.2.2.2.1 c_t_text r68.2.2.2.2.2.2)) (rest := []) (st2 := [.int r68.1]) C (kcX8_takesBet l dC dI cyB cyI cyJ cyZ cyS a_t a_t_w a_t_isKept a_t_text a_t_refused a_t_numbers a_t_weights c_t_texted c_t_above c_t_below c_t_at c_t_start c_t_isWord c_t_isFigures c_t_all c_t_known c_t_truth c_t_x c_t_h c_t_w c_t_text c_t_numbers r68 hr68) pb_NW_b (pb_NW_x hX) (cwV 0 C.1.2.2.2.2 gX8_takesItem_X8_takesBet rfl rfl rfl kdV_X8_takesBet ⟨Nat.le_of_ble_eq_true rfl, Nat.le_of_ble_eq_true rfl⟩) 0 rfl rfl [0, 1, 2, 3] [] rfl rfl trivial rfl (by decide +kernel) (adl := [a_t, a_t_w, a_t_text, a_t_numbers]) rfl rfl rfl rfl rfl (Nat.le_of_ble_eq_true rfl) ⟨Nat.le_refl _, Nat.le_refl _⟩ dX8_takesItem_68 rfl ?_
                refine pb_if_eq (pc := 71) (tgt := 78) C dX8_takesItem_71 (by decide) (fun hc71 => ?_) (fun hc71 => ?_)
                · have hf := pb_pos hf hc71
                  refine pb_iconst (v := 0) (pc := 78) C dX8_takesItem_78 pb_kI_0 ?_
                  obtain rfl := Option.some.inj hf
                  refine pb_sub [0] rfl ?_
                  exact J79 0 r68.2.1 r68.2.2.1 r68.2.2.2.1 r68.2.2.2.2.1 r68.2.2.2.2.2.1 r68.2.2.2.2.2.2 hk79
                · have hf := pb_neg hf hc71
                  refine pb_iconst (v := 1) (pc := 74) C dX8_takesItem_74 pb_kI_1 ?_
                  refine pb_goto (pc := 75) (tgt := 79) C dX8_takesItem_75 (by decide) ?_
                  obtain rfl := Option.some.inj hf
                  refine pb_sub [0] rfl ?_
                  exact J79 1 r68.2.1 r68.2.2.1 r68.2.2.2.1 r68.2.2.2.2.1 r68.2.2.2.2.2.1 r68.2.2.2.2.2.2 hk79
              · have hf := pb_pos hf hc54
                refine pb_aload_n (pc := 57) C dX8_takesItem_57 rfl 0 rfl ?_
                obtain ⟨r58, hr58, hf⟩ := pb_bind hf
                refine pb_callV (pc := 58) (n0 := 4) (ws' := (wwX8_takesItem cyB cyI cyJ cyZ cyS a_t a_t_w a_t_isKept a_t_text a_t_refused a_t_numbers a_t_weights c_t_texted c_t_above c_t_below r58.2.1 r58.2.2.1 r58.2.2.2.1 r58.2.2.2.2.1 c_t_all c_t_known c_t_truth c_t_x c_t_h r58.2.2.2.2.2.1 c_t_text r58.2.2.2.2.2.2)) (rest := []) (st2 := [.int r58.1]) C (kcX8_takesFind l dC dI cyB cyI cyJ cyZ cyS a_t a_t_w a_t_isKept a_t_text a_t_refused a_t_numbers a_t_weights c_t_texted c_t_above c_t_below c_t_at c_t_start c_t_isWord c_t_isFigures c_t_all c_t_known c_t_truth c_t_x c_t_h c_t_w c_t_text c_t_numbers r58 hr58) pb_NW_b (pb_NW_x hX) (cwV 0 C.1.2.2.2.2 gX8_takesItem_X8_takesFind rfl rfl rfl kdV_X8_takesFind ⟨Nat.le_of_ble_eq_true rfl, Nat.le_of_ble_eq_true rfl⟩) 0 rfl rfl [0, 1, 2, 3] [] rfl rfl trivial rfl (by decide +kernel) (adl := [a_t, a_t_w, a_t_text, a_t_numbers]) rfl rfl rfl rfl rfl (Nat.le_of_ble_eq_true rfl) ⟨Nat.le_refl _, Nat.le_refl _⟩ dX8_takesItem_58 rfl ?_
                refine pb_if_eq (pc := 61) (tgt := 78) C dX8_takesItem_61 (by decide) (fun hc61 => ?_) (fun hc61 => ?_)
                · have hf := pb_pos hf hc61
                  refine pb_iconst (v := 0) (pc := 78) C dX8_takesItem_78 pb_kI_0 ?_
                  obtain rfl := Option.some.inj hf
                  refine pb_sub [0] rfl ?_
                  exact J79 0 r58.2.1 r58.2.2.1 r58.2.2.2.1 r58.2.2.2.2.1 r58.2.2.2.2.2.1 r58.2.2.2.2.2.2 hk79
                · have hf := pb_neg hf hc61
                  refine pb_goto (pc := 64) (tgt := 74) C dX8_takesItem_64 (by decide) ?_
                  refine pb_iconst (v := 1) (pc := 74) C dX8_takesItem_74 pb_kI_1 ?_
                  refine pb_goto (pc := 75) (tgt := 79) C dX8_takesItem_75 (by decide) ?_
                  obtain rfl := Option.some.inj hf
                  refine pb_sub [0] rfl ?_
                  exact J79 1 r58.2.1 r58.2.2.1 r58.2.2.2.1 r58.2.2.2.2.1 r58.2.2.2.2.2.1 r58.2.2.2.2.2.2 hk79
            · have hf := pb_pos hf hc39
              refine pb_aload_n (pc := 42) C dX8_takesItem_42 rfl 0 rfl ?_
              obtain ⟨r43, hr43, hf⟩ := pb_bind hf
              refine pb_callV (pc := 43) (n0 := 4) (ws' := (wwX8_takesItem cyB cyI cyJ cyZ cyS a_t a_t_w a_t_isKept a_t_text a_t_refused a_t_numbers a_t_weights c_t_texted c_t_above c_t_below r43.2.1 r43.2.2.1 r43.2.2.2.1 r43.2.2.2.2.1 c_t_all c_t_known c_t_truth c_t_x c_t_h r43.2.2.2.2.2.1 c_t_text r43.2.2.2.2.2.2)) (rest := []) (st2 := [.int r43.1]) C (kcX8_takesRule l dC dI cyB cyI cyJ cyZ cyS a_t a_t_w a_t_isKept a_t_text a_t_refused a_t_numbers a_t_weights c_t_texted c_t_above c_t_below c_t_at c_t_start c_t_isWord c_t_isFigures c_t_all c_t_known c_t_truth c_t_x c_t_h c_t_w c_t_text c_t_numbers r43 hr43) pb_NW_b (pb_NW_x hX) (cwV 0 C.1.2.2.2.2 gX8_takesItem_X8_takesRule rfl rfl rfl kdV_X8_takesRule ⟨Nat.le_of_ble_eq_true rfl, Nat.le_of_ble_eq_true rfl⟩) 0 rfl rfl [0, 1, 2, 3] [] rfl rfl trivial rfl (by decide +kernel) (adl := [a_t, a_t_w, a_t_text, a_t_numbers]) rfl rfl rfl rfl rfl (Nat.le_of_ble_eq_true rfl) ⟨Nat.le_refl _, Nat.le_refl _⟩ dX8_takesItem_43 rfl ?_
              refine pb_if_eq (pc := 46) (tgt := 78) C dX8_takesItem_46 (by decide) (fun hc46 => ?_) (fun hc46 => ?_)
              · have hf := pb_pos hf hc46
                refine pb_iconst (v := 0) (pc := 78) C dX8_takesItem_78 pb_kI_0 ?_
                obtain rfl := Option.some.inj hf
                refine pb_sub [0] rfl ?_
                exact J79 0 r43.2.1 r43.2.2.1 r43.2.2.2.1 r43.2.2.2.2.1 r43.2.2.2.2.2.1 r43.2.2.2.2.2.2 hk79
              · have hf := pb_neg hf hc46
                refine pb_goto (pc := 49) (tgt := 74) C dX8_takesItem_49 (by decide) ?_
                refine pb_iconst (v := 1) (pc := 74) C dX8_takesItem_74 pb_kI_1 ?_
                refine pb_goto (pc := 75) (tgt := 79) C dX8_takesItem_75 (by decide) ?_
                obtain rfl := Option.some.inj hf
                refine pb_sub [0] rfl ?_
                exact J79 1 r43.2.1 r43.2.2.1 r43.2.2.2.1 r43.2.2.2.2.1 r43.2.2.2.2.2.1 r43.2.2.2.2.2.2 hk79
        · have hf := pb_neg hf hc28
          refine pb_iconst (v := 0) (pc := 31) C dX8_takesItem_31 pb_kI_0 ?_
          obtain rfl := Option.some.inj hf
          exact pb_zret (pc := 32) C hr hlk hA pb_isB0 dX8_takesItem_32
      refine pb_if_ne (pc := 20) (tgt := 27) C dX8_takesItem_20 (by decide) (fun hc20 => ?_) (fun hc20 => ?_)
      · have hf := pb_neg hf hc20
        refine pb_iconst (v := 0) (pc := 27) C dX8_takesItem_27 pb_kI_0 ?_
        obtain rfl := Option.some.inj hf
        refine pb_sub [0, 2] rfl ?_
        exact J28 0 hk28
      · have hf := pb_pos hf hc20
        refine pb_iconst (v := 1) (pc := 23) C dX8_takesItem_23 pb_kI_1 ?_
        refine pb_goto (pc := 24) (tgt := 28) C dX8_takesItem_24 (by decide) ?_
        obtain rfl := Option.some.inj hf
        refine pb_sub [0, 2] rfl ?_
        exact J28 1 hk28
    refine pb_if_ne (pc := 11) (tgt := 18) C dX8_takesItem_11 (by decide) (fun hc11 => ?_) (fun hc11 => ?_)
    · have hf := pb_neg hf hc11
      refine pb_iconst (v := 0) (pc := 18) C dX8_takesItem_18 pb_kI_0 ?_
      obtain rfl := Option.some.inj hf
      refine pb_sub [1, 2, 0] rfl ?_
      exact J19 0 hk19
    · have hf := pb_pos hf hc11
      refine pb_iconst (v := 1) (pc := 14) C dX8_takesItem_14 pb_kI_1 ?_
      refine pb_goto (pc := 15) (tgt := 19) C dX8_takesItem_15 (by decide) ?_
      obtain rfl := Option.some.inj hf
      refine pb_sub [1, 2, 0] rfl ?_
      exact J19 1 hk19
def rmX8_read : Room := { frames := 5, cells := 0, slots := 0, locals := 113 }
def wwX8_read (cyB cyI cyJ cyZ cyS : ClassId) (a_t a_t_w a_t_isKept a_t_text a_t_refused a_t_numbers a_t_weights : Nat) (c_t_texted : Int32) (c_t_above : Int64) (c_t_below : Int64) (c_t_at : Int32) (c_t_start : Int32) (c_t_isWord : Int32) (c_t_isFigures : Int32) (c_t_all : Int64) (c_t_known : Int32) (c_t_truth : Int32) (c_t_x : Int64) (c_t_h : Int64) (c_t_w : (Nat → Int32)) (c_t_text : (Nat → Int32)) (c_t_numbers : (Nat → Int32)) : va_W := [(a_t, .inr (8, [.ref a_t_w, .ref a_t_isKept, .ref a_t_text, .int c_t_texted, .ref a_t_refused, .long c_t_above, .long c_t_below, .int c_t_at, .int c_t_start, .int c_t_isWord, .int c_t_isFigures, .ref a_t_numbers, .ref a_t_weights, .long c_t_all, .int c_t_known, .int c_t_truth, .long c_t_x, .long c_t_h])), (a_t_w, .inl (cyI, 1508, .inl c_t_w)), (a_t_text, .inl (cyI, 150, .inl c_t_text)), (a_t_numbers, .inl (cyI, 5, .inl c_t_numbers))]
theorem hnX8_read_X8 : ∀ w ∈ wsX80, w ∈ wsX8_read := fun _ h => List.mem_cons_of_mem _ (List.mem_append_right _ h)
set_option maxHeartbeats 4000000 in
set_option maxRecDepth 100000 in
theorem kcX8_read (l : Launch) (dC : Nat → ClassId) (dI : Nat → Nat → Nat) (cyB cyI cyJ cyZ cyS : ClassId) (a_t a_t_w a_t_isKept a_t_text a_t_refused a_t_numbers a_t_weights : Nat) (c_t_texted : Int32) (c_t_above : Int64) (c_t_below : Int64) (c_t_at : Int32) (c_t_start : Int32) (c_t_isWord : Int32) (c_t_isFigures : Int32) (c_t_all : Int64) (c_t_known : Int32) (c_t_truth : Int32) (c_t_x : Int64) (c_t_h : Int64) (c_t_w : (Nat → Int32)) (c_t_text : (Nat → Int32)) (c_t_numbers : (Nat → Int32)) (out : (Int32 × Int32 × Int32 × Int32 × Int32 × (Nat → Int32) × (Nat → Int32))) (hf : fX8_read c_t_texted c_t_at c_t_start c_t_isWord c_t_isFigures c_t_w c_t_text c_t_numbers = some out) : pb_K l yX8_read wsX8_read rmX8_read (dC, dI) vwCl (pb_tys cyB cyI cyJ cyZ cyS) pb_NW [.ref a_t] (wwX8_read cyB cyI cyJ cyZ cyS a_t a_t_w a_t_isKept a_t_text a_t_refused a_t_numbers a_t_weights c_t_texted c_t_above c_t_below c_t_at c_t_start c_t_isWord c_t_isFigures c_t_all c_t_known c_t_truth c_t_x c_t_h c_t_w c_t_text c_t_numbers) (wwX8_read cyB cyI cyJ cyZ cyS a_t a_t_w a_t_isKept a_t_text a_t_refused a_t_numbers a_t_weights c_t_texted c_t_above c_t_below out.2.1 out.2.2.1 out.2.2.2.1 out.2.2.2.2.1 c_t_all c_t_known c_t_truth c_t_x c_t_h out.2.2.2.2.2.1 c_t_text out.2.2.2.2.2.2) (some (.int out.1)) := by
  unfold fX8_read at hf
  refine pb_K.ofV (cc := cX8_read) (maxL := 2) (ret := (some .int)) (lv0 := [(0, .ref a_t)]) (by decide) rfl (Nat.le_of_ble_eq_true rfl) rfl ?_
  intro p e s m below meth c A C hX hr hlk hA
  refine pb_aload_n (pc := 0) C dX8_read_0 rfl 0 rfl ?_
  refine pb_iconst (v := 0) (pc := 1) C dX8_read_1 pb_kI_0 ?_
  refine pb_put (pc := 2) (ws' := (wwX8_read cyB cyI cyJ cyZ cyS a_t a_t_w a_t_isKept a_t_text a_t_refused a_t_numbers a_t_weights c_t_texted c_t_above c_t_below 0 c_t_start c_t_isWord c_t_isFigures c_t_all c_t_known c_t_truth c_t_x c_t_h c_t_w c_t_text c_t_numbers)) C hnX8_read_X8 tyX8 tyX8_ok nmX8 0 rfl rfl 7 (by decide) (List.mem_of_getElem? (i := 1) rfl) rfl rfl rfl rfl (Nat.le_of_ble_eq_true rfl) rfl dX8_read_2 ?_
  refine pb_iconst (v := 0) (pc := 5) C dX8_read_5 pb_kI_0 ?_
  refine pb_istore_n (lv' := [(1, .int 0), (0, .ref a_t)]) (pc := 6) C dX8_read_6 rfl (by decide) rfl ?_
  refine pb_aload_n (pc := 7) C dX8_read_7 rfl 1 rfl ?_
  refine pb_sipush (v := 1131) (pc := 8) C dX8_read_8 pb_kS_1131 ?_
  obtain ⟨r11, hr11, hf⟩ := pb_bind hf
  refine pb_callV (pc := 11) (n0 := 4) (ws' := (wwX8_read cyB cyI cyJ cyZ cyS a_t a_t_w a_t_isKept a_t_text a_t_refused a_t_numbers a_t_weights c_t_texted c_t_above c_t_below 0 c_t_start c_t_isWord c_t_isFigures c_t_all c_t_known c_t_truth c_t_x c_t_h r11 c_t_text c_t_numbers)) (rest := []) (st2 := []) C (kcX8_begins l dC dI cyB cyI cyJ cyZ cyS a_t a_t_w a_t_isKept a_t_text a_t_refused a_t_numbers a_t_weights c_t_texted c_t_above c_t_below 0 c_t_start c_t_isWord c_t_isFigures c_t_all c_t_known c_t_truth c_t_x c_t_h c_t_w 1131 r11 hr11) pb_NW_b (pb_NW_x hX) (cwV 1 C.1.2.2.2.2 gX8_read_X8_begins rfl rfl rfl kdV_X8_begins ⟨Nat.le_of_ble_eq_true rfl, Nat.le_of_ble_eq_true rfl⟩) 0 rfl rfl [0, 1] [2, 3] rfl rfl ⟨⟨_, rfl, rfl⟩, ⟨⟨_, rfl, rfl⟩, trivial⟩⟩ rfl (by decide +kernel) (adl := [a_t, a_t_w]) rfl rfl rfl rfl rfl (Nat.le_of_ble_eq_true rfl) ⟨Nat.le_refl _, Nat.le_refl _⟩ dX8_read_11 rfl ?_
  refine pb_aload_n (pc := 14) C dX8_read_14 rfl 1 rfl ?_
  obtain ⟨r15, hr15, hf⟩ := pb_bind hf
  refine pb_callV (pc := 15) (n0 := 4) (ws' := (wwX8_read cyB cyI cyJ cyZ cyS a_t a_t_w a_t_isKept a_t_text a_t_refused a_t_numbers a_t_weights c_t_texted c_t_above c_t_below r15.1 r15.2.1 r15.2.2.1 r15.2.2.2 c_t_all c_t_known c_t_truth c_t_x c_t_h r11 c_t_text c_t_numbers)) (rest := []) (st2 := []) C (kcX8_token l dC dI cyB cyI cyJ cyZ cyS a_t a_t_w a_t_isKept a_t_text a_t_refused a_t_numbers a_t_weights c_t_texted c_t_above c_t_below 0 c_t_start c_t_isWord c_t_isFigures c_t_all c_t_known c_t_truth c_t_x c_t_h c_t_text r15 hr15) pb_NW_b (pb_NW_x hX) (cwV 0 C.1.2.2.2.2 gX8_read_X8_token rfl rfl rfl kdV_X8_token ⟨Nat.le_of_ble_eq_true rfl, Nat.le_of_ble_eq_true rfl⟩) 0 rfl rfl [0, 2] [1, 3] rfl rfl ⟨⟨_, rfl, rfl⟩, ⟨⟨_, rfl, rfl⟩, trivial⟩⟩ rfl (by decide +kernel) (adl := [a_t, a_t_text]) rfl rfl rfl rfl rfl (Nat.le_of_ble_eq_true rfl) ⟨Nat.le_refl _, Nat.le_refl _⟩ dX8_read_15 rfl ?_
  obtain ⟨z18, hz18, hk18⟩ := pb_bind hf
  have E18 : ∀ (e18_1 : Int32) (e18_c_t_at : Int32) (e18_c_t_start : Int32) (e18_c_t_isWord : Int32) (e18_c_t_isFigures : Int32) (e18_c_t_w : (Nat → Int32)) (e18_c_t_numbers : (Nat → Int32)), fX8_read_E18 e18_1 e18_c_t_at e18_c_t_start e18_c_t_isWord e18_c_t_isFigures e18_c_t_w e18_c_t_numbers = some out → pb_V p l e rmX8_read s m (([.ref a_t] : List Value).toArray) below meth c 2 (dC, dI) vwCl A 0 0 (pb_MQ below (([.ref a_t] : List Value).toArray) s (dC, dI) vwCl (wwX8_read cyB cyI cyJ cyZ cyS a_t a_t_w a_t_isKept a_t_text a_t_refused a_t_numbers a_t_weights c_t_texted c_t_above c_t_below c_t_at c_t_start c_t_isWord c_t_isFigures c_t_all c_t_known c_t_truth c_t_x c_t_h c_t_w c_t_text c_t_numbers) (wwX8_read cyB cyI cyJ cyZ cyS a_t a_t_w a_t_isKept a_t_text a_t_refused a_t_numbers a_t_weights c_t_texted c_t_above c_t_below out.2.1 out.2.2.1 out.2.2.2.1 out.2.2.2.2.1 c_t_all c_t_known c_t_truth c_t_x c_t_h out.2.2.2.2.2.1 c_t_text out.2.2.2.2.2.2) (some (.int out.1)) A) (wwX8_read cyB cyI cyJ cyZ cyS a_t a_t_w a_t_isKept a_t_text a_t_refused a_t_numbers a_t_weights c_t_texted c_t_above c_t_below e18_c_t_at e18_c_t_start e18_c_t_isWord e18_c_t_isFigures c_t_all c_t_known c_t_truth c_t_x c_t_h e18_c_t_w c_t_text e18_c_t_numbers) [(0, .ref a_t), (1, .int e18_1)] [] 59 := by
    intro e18_1 e18_c_t_at e18_c_t_start e18_c_t_isWord e18_c_t_isFigures e18_c_t_w e18_c_t_numbers hf
    unfold fX8_read_E18 at hf
    refine pb_aload_n (pc := 59) C dX8_read_59 rfl 0 rfl ?_
    refine pb_sipush (v := 1131) (pc := 60) C dX8_read_60 pb_kS_1131 ?_
    refine pb_iconst (v := 0) (pc := 63) C dX8_read_63 pb_kI_0 ?_
    obtain ⟨r64, hr64, hf⟩ := pb_bind hf
    refine pb_callV (pc := 64) (n0 := 4) (ws' := (wwX8_read cyB cyI cyJ cyZ cyS a_t a_t_w a_t_isKept a_t_text a_t_refused a_t_numbers a_t_weights c_t_texted c_t_above c_t_below e18_c_t_at e18_c_t_start e18_c_t_isWord e18_c_t_isFigures c_t_all c_t_known c_t_truth c_t_x c_t_h r64 c_t_text e18_c_t_numbers)) (rest := []) (st2 := []) C (kcX8_copy l dC dI cyB cyI cyJ cyZ cyS a_t a_t_w a_t_isKept a_t_text a_t_refused a_t_numbers a_t_weights c_t_texted c_t_above c_t_below e18_c_t_at e18_c_t_start e18_c_t_isWord e18_c_t_isFigures c_t_all c_t_known c_t_truth c_t_x c_t_h e18_c_t_w 1131 0 r64 hr64) pb_NW_b (pb_NW_x hX) (cwV 2 C.1.2.2.2.2 gX8_read_X8_copy rfl rfl rfl kdV_X8_copy ⟨Nat.le_of_ble_eq_true rfl, Nat.le_of_ble_eq_true rfl⟩) 0 rfl rfl [0, 1] [2, 3] rfl rfl ⟨⟨_, rfl, rfl⟩, ⟨⟨_, rfl, rfl⟩, trivial⟩⟩ rfl (by decide +kernel) (adl := [a_t, a_t_w]) rfl rfl rfl rfl rfl (Nat.le_of_ble_eq_true rfl) ⟨Nat.le_refl _, Nat.le_refl _⟩ dX8_read_64 rfl ?_
    refine pb_iload_n (pc := 67) C dX8_read_67 rfl 1 rfl ?_
    obtain rfl := Option.some.inj hf
    exact pb_iret (pc := 68) C hr hlk hA dX8_read_68
  have L18 : ∀ (n : Nat) (l18_1 : Int32) (l18_c_t_at : Int32) (l18_c_t_start : Int32) (l18_c_t_isWord : Int32) (l18_c_t_isFigures : Int32) (l18_c_t_w : (Nat → Int32)) (l18_c_t_numbers : (Nat → Int32)), pb_lp (fun y => fX8_read_L18 c_t_texted c_t_text y.1 y.2.1 y.2.2.1 y.2.2.2.1 y.2.2.2.2.1 y.2.2.2.2.2.1 y.2.2.2.2.2.2) n (l18_1, l18_c_t_at, l18_c_t_start, l18_c_t_isWord, l18_c_t_isFigures, l18_c_t_w, l18_c_t_numbers) = some z18 → pb_V p l e rmX8_read s m (([.ref a_t] : List Value).toArray) below meth c 2 (dC, dI) vwCl A 0 0 (pb_MQ below (([.ref a_t] : List Value).toArray) s (dC, dI) vwCl (wwX8_read cyB cyI cyJ cyZ cyS a_t a_t_w a_t_isKept a_t_text a_t_refused a_t_numbers a_t_weights c_t_texted c_t_above c_t_below c_t_at c_t_start c_t_isWord c_t_isFigures c_t_all c_t_known c_t_truth c_t_x c_t_h c_t_w c_t_text c_t_numbers) (wwX8_read cyB cyI cyJ cyZ cyS a_t a_t_w a_t_isKept a_t_text a_t_refused a_t_numbers a_t_weights c_t_texted c_t_above c_t_below out.2.1 out.2.2.1 out.2.2.2.1 out.2.2.2.2.1 c_t_all c_t_known c_t_truth c_t_x c_t_h out.2.2.2.2.2.1 c_t_text out.2.2.2.2.2.2) (some (.int out.1)) A) (wwX8_read cyB cyI cyJ cyZ cyS a_t a_t_w a_t_isKept a_t_text a_t_refused a_t_numbers a_t_weights c_t_texted c_t_above c_t_below l18_c_t_at l18_c_t_start l18_c_t_isWord l18_c_t_isFigures c_t_all c_t_known c_t_truth c_t_x c_t_h l18_c_t_w c_t_text l18_c_t_numbers) [(0, .ref a_t), (1, .int l18_1)] [] 18 := by
    intro n
    induction n with
    | zero => intro l18_1 l18_c_t_at l18_c_t_start l18_c_t_isWord l18_c_t_isFigures l18_c_t_w l18_c_t_numbers hf; exact (pb_lp_zero hf).elim
    | succ n ih18 =>
      intro l18_1 l18_c_t_at l18_c_t_start l18_c_t_isWord l18_c_t_isFigures l18_c_t_w l18_c_t_numbers hf
      obtain ⟨y18, hf, hl18⟩ := pb_lp_succ hf
      have hf : fX8_read_L18 c_t_texted c_t_text l18_1 l18_c_t_at l18_c_t_start l18_c_t_isWord l18_c_t_isFigures l18_c_t_w l18_c_t_numbers = some y18 := hf
      unfold fX8_read_L18 at hf
      refine pb_aload_n (pc := 18) C dX8_read_18 rfl 0 rfl ?_
      refine pb_get (pc := 19) C hnX8_read_X8 0 rfl rfl 8 (by decide) (List.mem_of_getElem? (i := 2) rfl) rfl rfl dX8_read_19 ?_
      refine pb_aload_n (pc := 22) C dX8_read_22 rfl 0 rfl ?_
      refine pb_get (pc := 23) C hnX8_read_X8 0 rfl rfl 3 (by decide) (List.mem_of_getElem? (i := 3) rfl) rfl rfl dX8_read_23 ?_
      obtain ⟨y33, hf, hk33⟩ := pb_bind hf
      have J33 : fX8_read_J33 c_t_texted c_t_text l18_1 l18_c_t_at l18_c_t_isFigures l18_c_t_isWord l18_c_t_numbers l18_c_t_start l18_c_t_w = some y18 → pb_V p l e rmX8_read s m (([.ref a_t] : List Value).toArray) below meth c 2 (dC, dI) vwCl A 0 0 (pb_MQ below (([.ref a_t] : List Value).toArray) s (dC, dI) vwCl (wwX8_read cyB cyI cyJ cyZ cyS a_t a_t_w a_t_isKept a_t_text a_t_refused a_t_numbers a_t_weights c_t_texted c_t_above c_t_below c_t_at c_t_start c_t_isWord c_t_isFigures c_t_all c_t_known c_t_truth c_t_x c_t_h c_t_w c_t_text c_t_numbers) (wwX8_read cyB cyI cyJ cyZ cyS a_t a_t_w a_t_isKept a_t_text a_t_refused a_t_numbers a_t_weights c_t_texted c_t_above c_t_below out.2.1 out.2.2.1 out.2.2.2.1 out.2.2.2.2.1 c_t_all c_t_known c_t_truth c_t_x c_t_h out.2.2.2.2.2.1 c_t_text out.2.2.2.2.2.2) (some (.int out.1)) A) (wwX8_read cyB cyI cyJ cyZ cyS a_t a_t_w a_t_isKept a_t_text a_t_refused a_t_numbers a_t_weights c_t_texted c_t_above c_t_below l18_c_t_at l18_c_t_start l18_c_t_isWord l18_c_t_isFigures c_t_all c_t_known c_t_truth c_t_x c_t_h l18_c_t_w c_t_text l18_c_t_numbers) [(0, .ref a_t), (1, .int l18_1)] [] 33 := by
        intro hf
        unfold fX8_read_J33 at hf
        refine pb_aload_n (pc := 33) C dX8_read_33 rfl 0 rfl ?_
        refine pb_iload_n (pc := 34) C dX8_read_34 rfl 1 rfl ?_
        obtain ⟨r35, hr35, hf⟩ := pb_bind hf
        refine pb_callV (pc := 35) (n0 := 4) (ws' := (wwX8_read cyB cyI cyJ cyZ cyS a_t a_t_w a_t_isKept a_t_text a_t_refused a_t_numbers a_t_weights c_t_texted c_t_above c_t_below r35.2.1 r35.2.2.1 r35.2.2.2.1 r35.2.2.2.2.1 c_t_all c_t_known c_t_truth c_t_x c_t_h r35.2.2.2.2.2.1 c_t_text r35.2.2.2.2.2.2)) (rest := []) (st2 := [.int r35.1]) C (kcX8_takesItem l dC dI cyB cyI cyJ cyZ cyS a_t a_t_w a_t_isKept a_t_text a_t_refused a_t_numbers a_t_weights c_t_texted c_t_above c_t_below l18_c_t_at l18_c_t_start l18_c_t_isWord l18_c_t_isFigures c_t_all c_t_known c_t_truth c_t_x c_t_h l18_c_t_w c_t_text l18_c_t_numbers l18_1 r35 hr35) pb_NW_b (pb_NW_x hX) (cwV 1 C.1.2.2.2.2 gX8_read_X8_takesItem rfl rfl rfl kdV_X8_takesItem ⟨Nat.le_of_ble_eq_true rfl, Nat.le_of_ble_eq_true rfl⟩) 0 rfl rfl [0, 1, 2, 3] [] rfl rfl trivial rfl (by decide +kernel) (adl := [a_t, a_t_w, a_t_text, a_t_numbers]) rfl rfl rfl rfl rfl (Nat.le_of_ble_eq_true rfl) ⟨Nat.le_refl _, Nat.le_refl _⟩ dX8_read_35 rfl ?_
        refine pb_if_ne (pc := 38) (tgt := 49) C dX8_read_38 (by decide) (fun hc38 => ?_) (fun hc38 => ?_)
        · have hf := pb_neg hf hc38
          refine pb_iinc (v := l18_1 + 1) (lv' := [(1, .int (l18_1 + 1)), (0, .ref a_t)]) (pc := 49) C dX8_read_49 1 rfl (pb_inc pb_kI_1 rfl) (by decide) rfl ?_
          refine pb_aload_n (pc := 52) C dX8_read_52 rfl 1 rfl ?_
          obtain ⟨r53, hr53, hf⟩ := pb_bind hf
          refine pb_callV (pc := 53) (n0 := 4) (ws' := (wwX8_read cyB cyI cyJ cyZ cyS a_t a_t_w a_t_isKept a_t_text a_t_refused a_t_numbers a_t_weights c_t_texted c_t_above c_t_below r53.1 r53.2.1 r53.2.2.1 r53.2.2.2 c_t_all c_t_known c_t_truth c_t_x c_t_h r35.2.2.2.2.2.1 c_t_text r35.2.2.2.2.2.2)) (rest := []) (st2 := []) C (kcX8_token l dC dI cyB cyI cyJ cyZ cyS a_t a_t_w a_t_isKept a_t_text a_t_refused a_t_numbers a_t_weights c_t_texted c_t_above c_t_below r35.2.1 r35.2.2.1 r35.2.2.2.1 r35.2.2.2.2.1 c_t_all c_t_known c_t_truth c_t_x c_t_h c_t_text r53 hr53) pb_NW_b (pb_NW_x hX) (cwV 0 C.1.2.2.2.2 gX8_read_X8_token rfl rfl rfl kdV_X8_token ⟨Nat.le_of_ble_eq_true rfl, Nat.le_of_ble_eq_true rfl⟩) 0 rfl rfl [0, 2] [1, 3] rfl rfl ⟨⟨_, rfl, rfl⟩, ⟨⟨_, rfl, rfl⟩, trivial⟩⟩ rfl (by decide +kernel) (adl := [a_t, a_t_text]) rfl rfl rfl rfl rfl (Nat.le_of_ble_eq_true rfl) ⟨Nat.le_refl _, Nat.le_refl _⟩ dX8_read_53 rfl ?_
          refine pb_goto (pc := 56) (tgt := 18) C dX8_read_56 (by decide) ?_
          obtain rfl := Option.some.inj hf
          refine pb_sub [1, 0] rfl ?_
          have hl18 := pb_inl hl18
          exact ih18 (l18_1 + 1) r53.1 r53.2.1 r53.2.2.1 r53.2.2.2 r35.2.2.2.2.2.1 r35.2.2.2.2.2.2 hl18
        · have hf := pb_pos hf hc38
          refine pb_bipush (v := (-10)) (pc := 41) C dX8_read_41 pb_kB_m10 ?_
          refine pb_aload_n (pc := 43) C dX8_read_43 rfl 0 rfl ?_
          refine pb_get (pc := 44) C hnX8_read_X8 0 rfl rfl 8 (by decide) (List.mem_of_getElem? (i := 2) rfl) rfl rfl dX8_read_44 ?_
          refine pb_isub (pc := 47) C dX8_read_47 ?_
          obtain rfl := Option.some.inj hf
          obtain rfl := pb_esc hl18
          obtain rfl := pb_esc hk18
          exact pb_iret (pc := 48) C hr hlk hA dX8_read_48
      refine pb_icmp_lt (pc := 26) (tgt := 33) C dX8_read_26 (by decide) (fun hc26 => ?_) (fun hc26 => ?_)
      · have hf := pb_pos hf hc26
        obtain rfl := Option.some.inj hf
        have hk33 := pb_inl hk33
        exact J33  hk33
      · have hf := pb_neg hf hc26
        refine pb_iload_n (pc := 29) C dX8_read_29 rfl 1 rfl ?_
        refine pb_if_ne (pc := 30) (tgt := 59) C dX8_read_30 (by decide) (fun hc30 => ?_) (fun hc30 => ?_)
        · have hf := pb_neg hf hc30
          obtain rfl := Option.some.inj hf
          obtain rfl := pb_esc hk33
          obtain rfl := pb_esc hl18
          have hk18 := pb_inl hk18
          exact E18 l18_1 l18_c_t_at l18_c_t_start l18_c_t_isWord l18_c_t_isFigures l18_c_t_w l18_c_t_numbers hk18
        · have hf := pb_pos hf hc30
          obtain rfl := Option.some.inj hf
          have hk33 := pb_inl hk33
          exact J33  hk33
  refine pb_sub [1, 0] rfl ?_
  exact L18 pb_FU 0 r15.1 r15.2.1 r15.2.2.1 r15.2.2.2 r11 c_t_numbers hz18
def rmX8_of : Room := { frames := 2, cells := 0, slots := 0, locals := 46 }
def wwX8_of (cyB cyI cyJ cyZ cyS : ClassId) (a_t a_t_w a_t_isKept a_t_text a_t_refused a_t_numbers a_t_weights : Nat) (c_t_texted : Int32) (c_t_above : Int64) (c_t_below : Int64) (c_t_at : Int32) (c_t_start : Int32) (c_t_isWord : Int32) (c_t_isFigures : Int32) (c_t_all : Int64) (c_t_known : Int32) (c_t_truth : Int32) (c_t_x : Int64) (c_t_h : Int64) (c_t_w : (Nat → Int32)) (c_t_refused : (Nat → Int32)) : va_W := [(a_t, .inr (8, [.ref a_t_w, .ref a_t_isKept, .ref a_t_text, .int c_t_texted, .ref a_t_refused, .long c_t_above, .long c_t_below, .int c_t_at, .int c_t_start, .int c_t_isWord, .int c_t_isFigures, .ref a_t_numbers, .ref a_t_weights, .long c_t_all, .int c_t_known, .int c_t_truth, .long c_t_x, .long c_t_h])), (a_t_w, .inl (cyI, 1508, .inl c_t_w)), (a_t_refused, .inl (cyI, 3, .inl c_t_refused))]
theorem hnX8_of_X8 : ∀ w ∈ wsX80, w ∈ wsX8_of := fun _ h => List.mem_cons_of_mem _ (List.mem_append_right _ h)
set_option maxHeartbeats 4000000 in
set_option maxRecDepth 100000 in
theorem kcX8_of (l : Launch) (dC : Nat → ClassId) (dI : Nat → Nat → Nat) (cyB cyI cyJ cyZ cyS : ClassId) (a_t a_t_w a_t_isKept a_t_text a_t_refused a_t_numbers a_t_weights : Nat) (c_t_texted : Int32) (c_t_above : Int64) (c_t_below : Int64) (c_t_at : Int32) (c_t_start : Int32) (c_t_isWord : Int32) (c_t_isFigures : Int32) (c_t_all : Int64) (c_t_known : Int32) (c_t_truth : Int32) (c_t_x : Int64) (c_t_h : Int64) (c_t_w : (Nat → Int32)) (c_t_refused : (Nat → Int32)) (p1 : Int32) (p2 : Int32) (out : (Int32 × (Nat → Int32))) (hf : fX8_of c_t_w c_t_refused p1 p2 = some out) : pb_K l yX8_of wsX8_of rmX8_of (dC, dI) vwCl (pb_tys cyB cyI cyJ cyZ cyS) pb_NW [.ref a_t, .int p1, .int p2] (wwX8_of cyB cyI cyJ cyZ cyS a_t a_t_w a_t_isKept a_t_text a_t_refused a_t_numbers a_t_weights c_t_texted c_t_above c_t_below c_t_at c_t_start c_t_isWord c_t_isFigures c_t_all c_t_known c_t_truth c_t_x c_t_h c_t_w c_t_refused) (wwX8_of cyB cyI cyJ cyZ cyS a_t a_t_w a_t_isKept a_t_text a_t_refused a_t_numbers a_t_weights c_t_texted c_t_above c_t_below c_t_at c_t_start c_t_isWord c_t_isFigures c_t_all c_t_known c_t_truth c_t_x c_t_h c_t_w out.2) (some (.int out.1)) := by
  unfold fX8_of at hf
  refine pb_K.ofV (cc := cX8_of) (maxL := 3) (ret := (some .int)) (lv0 := [(0, .ref a_t), (1, .int p1), (2, .int p2)]) (by decide) rfl (Nat.le_of_ble_eq_true rfl) rfl ?_
  intro p e s m below meth c A C hX hr hlk hA
  refine pb_aload_n (pc := 0) C dX8_of_0 rfl 0 rfl ?_
  refine pb_iload_n (pc := 1) C dX8_of_1 rfl 1 rfl ?_
  obtain ⟨r2, hr2, hf⟩ := pb_bind hf
  refine pb_callV (pc := 2) (n0 := 3) (ws' := (wwX8_of cyB cyI cyJ cyZ cyS a_t a_t_w a_t_isKept a_t_text a_t_refused a_t_numbers a_t_weights c_t_texted c_t_above c_t_below c_t_at c_t_start c_t_isWord c_t_isFigures c_t_all c_t_known c_t_truth c_t_x c_t_h c_t_w c_t_refused)) (rest := []) (st2 := [.int r2]) C (kcX8_isBet l dC dI cyB cyI cyJ cyZ cyS a_t a_t_w a_t_isKept a_t_text a_t_refused a_t_numbers a_t_weights c_t_texted c_t_above c_t_below c_t_at c_t_start c_t_isWord c_t_isFigures c_t_all c_t_known c_t_truth c_t_x c_t_h c_t_w p1 r2 hr2) pb_NW_b (pb_NW_x hX) (cwV 1 C.1.2.2.2.2 gX8_of_X8_isBet rfl rfl rfl kdV_X8_isBet ⟨Nat.le_of_ble_eq_true rfl, Nat.le_of_ble_eq_true rfl⟩) 0 rfl rfl [0, 1] [2] rfl rfl ⟨⟨_, rfl, rfl⟩, trivial⟩ rfl (by decide +kernel) (adl := [a_t, a_t_w]) rfl rfl rfl rfl rfl (Nat.le_of_ble_eq_true rfl) ⟨Nat.le_refl _, Nat.le_refl _⟩ dX8_of_2 rfl ?_
  refine pb_if_eq (pc := 5) (tgt := 36) C dX8_of_5 (by decide) (fun hc5 => ?_) (fun hc5 => ?_)
  · have hf := pb_pos hf hc5
    refine pb_aload_n (pc := 36) C dX8_of_36 rfl 0 rfl ?_
    obtain ⟨r37, hr37, hf⟩ := pb_bind hf
    refine pb_callV (pc := 37) (n0 := 3) (ws' := (wwX8_of cyB cyI cyJ cyZ cyS a_t a_t_w a_t_isKept a_t_text a_t_refused a_t_numbers a_t_weights c_t_texted c_t_above c_t_below c_t_at c_t_start c_t_isWord c_t_isFigures c_t_all c_t_known c_t_truth c_t_x c_t_h c_t_w r37.2)) (rest := []) (st2 := [.int r37.1]) C (kcX8_bad l dC dI cyB cyI cyJ cyZ cyS a_t a_t_w a_t_isKept a_t_text a_t_refused a_t_numbers a_t_weights c_t_texted c_t_above c_t_below c_t_at c_t_start c_t_isWord c_t_isFigures c_t_all c_t_known c_t_truth c_t_x c_t_h c_t_refused r37 hr37) pb_NW_b (pb_NW_x hX) (cwV 0 C.1.2.2.2.2 gX8_of_X8_bad rfl rfl rfl kdV_X8_bad ⟨Nat.le_of_ble_eq_true rfl, Nat.le_of_ble_eq_true rfl⟩) 0 rfl rfl [0, 2] [1] rfl rfl ⟨⟨_, rfl, rfl⟩, trivial⟩ rfl (by decide +kernel) (adl := [a_t, a_t_refused]) rfl rfl rfl rfl rfl (Nat.le_of_ble_eq_true rfl) ⟨Nat.le_refl _, Nat.le_refl _⟩ dX8_of_37 rfl ?_
    obtain rfl := Option.some.inj hf
    exact pb_iret (pc := 40) C hr hlk hA dX8_of_40
  · have hf := pb_neg hf hc5
    refine pb_iload_n (pc := 8) C dX8_of_8 rfl 2 rfl ?_
    refine pb_i2l (pc := 9) C dX8_of_9 ?_
    refine pb_lconst (v := 0) (pc := 10) C dX8_of_10 pb_kL_0 ?_
    refine pb_ldc2 (v := 4) (pc := 11) C dX8_of_11 (List.mem_of_getElem? (i := 1) rfl) ?_
    obtain ⟨r14, hr14, hf⟩ := pb_bind hf
    refine pb_callS (pc := 14) (n0 := 3) (ws' := (wwX8_of cyB cyI cyJ cyZ cyS a_t a_t_w a_t_isKept a_t_text a_t_refused a_t_numbers a_t_weights c_t_texted c_t_above c_t_below c_t_at c_t_start c_t_isWord c_t_isFigures c_t_all c_t_known c_t_truth c_t_x c_t_h c_t_w c_t_refused)) (rest := []) (st2 := [.int r14]) C (kcX8_in l dC dI cyB cyI cyJ cyZ cyS (Int32.toInt64 p2) 0 4 r14 hr14) pb_NW_b (pb_NW_x hX) (va_cwS 3 C.1.2.2.2.2 gX8_of_X8_in rfl rfl rfl kdS_X8_in ⟨Nat.le_of_ble_eq_true rfl, Nat.le_of_ble_eq_true rfl⟩) [] [0, 1, 2] rfl rfl ⟨⟨_, rfl, rfl⟩, ⟨⟨_, rfl, rfl⟩, ⟨⟨_, rfl, rfl⟩, trivial⟩⟩⟩ rfl (by decide +kernel) (adl := []) rfl rfl rfl rfl rfl (Nat.le_of_ble_eq_true rfl) ⟨Nat.le_refl _, Nat.le_refl _⟩ dX8_of_14 rfl ?_
    refine pb_if_eq (pc := 17) (tgt := 36) C dX8_of_17 (by decide) (fun hc17 => ?_) (fun hc17 => ?_)
    · have hf := pb_pos hf hc17
      refine pb_aload_n (pc := 36) C dX8_of_36 rfl 0 rfl ?_
      obtain ⟨r37, hr37, hf⟩ := pb_bind hf
      refine pb_callV (pc := 37) (n0 := 3) (ws' := (wwX8_of cyB cyI cyJ cyZ cyS a_t a_t_w a_t_isKept a_t_text a_t_refused a_t_numbers a_t_weights c_t_texted c_t_above c_t_below c_t_at c_t_start c_t_isWord c_t_isFigures c_t_all c_t_known c_t_truth c_t_x c_t_h c_t_w r37.2)) (rest := []) (st2 := [.int r37.1]) C (kcX8_bad l dC dI cyB cyI cyJ cyZ cyS a_t a_t_w a_t_isKept a_t_text a_t_refused a_t_numbers a_t_weights c_t_texted c_t_above c_t_below c_t_at c_t_start c_t_isWord c_t_isFigures c_t_all c_t_known c_t_truth c_t_x c_t_h c_t_refused r37 hr37) pb_NW_b (pb_NW_x hX) (cwV 0 C.1.2.2.2.2 gX8_of_X8_bad rfl rfl rfl kdV_X8_bad ⟨Nat.le_of_ble_eq_true rfl, Nat.le_of_ble_eq_true rfl⟩) 0 rfl rfl [0, 2] [1] rfl rfl ⟨⟨_, rfl, rfl⟩, trivial⟩ rfl (by decide +kernel) (adl := [a_t, a_t_refused]) rfl rfl rfl rfl rfl (Nat.le_of_ble_eq_true rfl) ⟨Nat.le_refl _, Nat.le_refl _⟩ dX8_of_37 rfl ?_
      obtain rfl := Option.some.inj hf
      exact pb_iret (pc := 40) C hr hlk hA dX8_of_40
    · have hf := pb_neg hf hc17
      refine pb_aload_n (pc := 20) C dX8_of_20 rfl 0 rfl ?_
      refine pb_get (pc := 21) C hnX8_of_X8 0 rfl rfl 0 (by decide) (List.mem_of_getElem? (i := 2) rfl) rfl rfl dX8_of_21 ?_
      refine pb_bipush (v := 59) (pc := 24) C dX8_of_24 pb_kB_59 ?_
      refine pb_iconst (v := 5) (pc := 26) C dX8_of_26 pb_kI_5 ?_
      refine pb_iload_n (pc := 27) C dX8_of_27 rfl 1 rfl ?_
      refine pb_imul (pc := 28) C dX8_of_28 ?_
      refine pb_iadd (pc := 29) C dX8_of_29 ?_
      refine pb_iload_n (pc := 30) C dX8_of_30 rfl 2 rfl ?_
      refine pb_iadd (pc := 31) C dX8_of_31 ?_
      obtain ⟨g32, hf⟩ := pb_grd hf
      refine pb_iald (pc := 32) C 1 1 rfl rfl g32 dX8_of_32 ?_
      refine pb_goto (pc := 33) (tgt := 40) C dX8_of_33 (by decide) ?_
      obtain rfl := Option.some.inj hf
      exact pb_iret (pc := 40) C hr hlk hA dX8_of_40
def rmX8_isPossible : Room := { frames := 1, cells := 0, slots := 0, locals := 21 }
def wwX8_isPossible (cyB cyI cyJ cyZ cyS : ClassId) (a_t a_t_w a_t_isKept a_t_text a_t_refused a_t_numbers a_t_weights : Nat) (c_t_texted : Int32) (c_t_above : Int64) (c_t_below : Int64) (c_t_at : Int32) (c_t_start : Int32) (c_t_isWord : Int32) (c_t_isFigures : Int32) (c_t_all : Int64) (c_t_known : Int32) (c_t_truth : Int32) (c_t_x : Int64) (c_t_h : Int64) (c_t_w : (Nat → Int32)) : va_W := [(a_t, .inr (8, [.ref a_t_w, .ref a_t_isKept, .ref a_t_text, .int c_t_texted, .ref a_t_refused, .long c_t_above, .long c_t_below, .int c_t_at, .int c_t_start, .int c_t_isWord, .int c_t_isFigures, .ref a_t_numbers, .ref a_t_weights, .long c_t_all, .int c_t_known, .int c_t_truth, .long c_t_x, .long c_t_h])), (a_t_w, .inl (cyI, 1508, .inl c_t_w))]
theorem hnX8_isPossible_X8 : ∀ w ∈ wsX80, w ∈ wsX8_isPossible := fun _ h => List.mem_cons_of_mem _ (List.mem_append_right _ h)
set_option maxHeartbeats 4000000 in
set_option maxRecDepth 100000 in
theorem kcX8_isPossible (l : Launch) (dC : Nat → ClassId) (dI : Nat → Nat → Nat) (cyB cyI cyJ cyZ cyS : ClassId) (a_t a_t_w a_t_isKept a_t_text a_t_refused a_t_numbers a_t_weights : Nat) (c_t_texted : Int32) (c_t_above : Int64) (c_t_below : Int64) (c_t_at : Int32) (c_t_start : Int32) (c_t_isWord : Int32) (c_t_isFigures : Int32) (c_t_all : Int64) (c_t_known : Int32) (c_t_truth : Int32) (c_t_x : Int64) (c_t_h : Int64) (c_t_w : (Nat → Int32)) (p1 : Int32) (out : Int32) (hf : fX8_isPossible c_t_w p1 = some out) : pb_K l yX8_isPossible wsX8_isPossible rmX8_isPossible (dC, dI) vwCl (pb_tys cyB cyI cyJ cyZ cyS) pb_NW [.ref a_t, .int p1] (wwX8_isPossible cyB cyI cyJ cyZ cyS a_t a_t_w a_t_isKept a_t_text a_t_refused a_t_numbers a_t_weights c_t_texted c_t_above c_t_below c_t_at c_t_start c_t_isWord c_t_isFigures c_t_all c_t_known c_t_truth c_t_x c_t_h c_t_w) (wwX8_isPossible cyB cyI cyJ cyZ cyS a_t a_t_w a_t_isKept a_t_text a_t_refused a_t_numbers a_t_weights c_t_texted c_t_above c_t_below c_t_at c_t_start c_t_isWord c_t_isFigures c_t_all c_t_known c_t_truth c_t_x c_t_h c_t_w) (some (.int out)) := by
  unfold fX8_isPossible at hf
  refine pb_K.ofV (cc := cX8_isPossible) (maxL := 7) (ret := (some .boolean)) (lv0 := [(0, .ref a_t), (1, .int p1)]) (by decide) rfl (Nat.le_of_ble_eq_true rfl) rfl ?_
  intro p e s m below meth c A C hX hr hlk hA
  refine pb_iconst (v := 1) (pc := 0) C dX8_isPossible_0 pb_kI_1 ?_
  refine pb_istore_n (lv' := [(2, .int 1), (0, .ref a_t), (1, .int p1)]) (pc := 1) C dX8_isPossible_1 rfl (by decide) rfl ?_
  refine pb_iconst (v := 0) (pc := 2) C dX8_isPossible_2 pb_kI_0 ?_
  refine pb_istore_n (lv' := [(3, .int 0), (2, .int 1), (0, .ref a_t), (1, .int p1)]) (pc := 3) C dX8_isPossible_3 rfl (by decide) rfl ?_
  obtain ⟨z4, hz4, hk4⟩ := pb_bind hf
  have E4 : ∀ (e4_2 : Int32) (e4_3 : Int32), fX8_isPossible_E4 e4_2 e4_3 = some out → pb_V p l e rmX8_isPossible s m (([.ref a_t, .int p1] : List Value).toArray) below meth c 7 (dC, dI) vwCl A 0 0 (pb_MQ below (([.ref a_t, .int p1] : List Value).toArray) s (dC, dI) vwCl (wwX8_isPossible cyB cyI cyJ cyZ cyS a_t a_t_w a_t_isKept a_t_text a_t_refused a_t_numbers a_t_weights c_t_texted c_t_above c_t_below c_t_at c_t_start c_t_isWord c_t_isFigures c_t_all c_t_known c_t_truth c_t_x c_t_h c_t_w) (wwX8_isPossible cyB cyI cyJ cyZ cyS a_t a_t_w a_t_isKept a_t_text a_t_refused a_t_numbers a_t_weights c_t_texted c_t_above c_t_below c_t_at c_t_start c_t_isWord c_t_isFigures c_t_all c_t_known c_t_truth c_t_x c_t_h c_t_w) (some (.int out)) A) (wwX8_isPossible cyB cyI cyJ cyZ cyS a_t a_t_w a_t_isKept a_t_text a_t_refused a_t_numbers a_t_weights c_t_texted c_t_above c_t_below c_t_at c_t_start c_t_isWord c_t_isFigures c_t_all c_t_known c_t_truth c_t_x c_t_h c_t_w) [(2, .int e4_2)] [] 141 := by
    intro e4_2 e4_3 hf
    unfold fX8_isPossible_E4 at hf
    refine pb_iload_n (pc := 141) C dX8_isPossible_141 rfl 0 rfl ?_
    obtain ⟨g142, hf⟩ := pb_grd hf
    obtain rfl := Option.some.inj hf
    exact pb_zret (pc := 142) C hr hlk hA g142 dX8_isPossible_142
  have L4 : ∀ (n : Nat) (l4_2 : Int32) (l4_3 : Int32), pb_lp (fun y => fX8_isPossible_L4 c_t_w p1 y.1 y.2) n (l4_2, l4_3) = some z4 → pb_V p l e rmX8_isPossible s m (([.ref a_t, .int p1] : List Value).toArray) below meth c 7 (dC, dI) vwCl A 0 0 (pb_MQ below (([.ref a_t, .int p1] : List Value).toArray) s (dC, dI) vwCl (wwX8_isPossible cyB cyI cyJ cyZ cyS a_t a_t_w a_t_isKept a_t_text a_t_refused a_t_numbers a_t_weights c_t_texted c_t_above c_t_below c_t_at c_t_start c_t_isWord c_t_isFigures c_t_all c_t_known c_t_truth c_t_x c_t_h c_t_w) (wwX8_isPossible cyB cyI cyJ cyZ cyS a_t a_t_w a_t_isKept a_t_text a_t_refused a_t_numbers a_t_weights c_t_texted c_t_above c_t_below c_t_at c_t_start c_t_isWord c_t_isFigures c_t_all c_t_known c_t_truth c_t_x c_t_h c_t_w) (some (.int out)) A) (wwX8_isPossible cyB cyI cyJ cyZ cyS a_t a_t_w a_t_isKept a_t_text a_t_refused a_t_numbers a_t_weights c_t_texted c_t_above c_t_below c_t_at c_t_start c_t_isWord c_t_isFigures c_t_all c_t_known c_t_truth c_t_x c_t_h c_t_w) [(0, .ref a_t), (1, .int p1), (2, .int l4_2), (3, .int l4_3)] [] 4 := by
    intro n
    induction n with
    | zero => intro l4_2 l4_3 hf; exact (pb_lp_zero hf).elim
    | succ n ih4 =>
      intro l4_2 l4_3 hf
      obtain ⟨y4, hf, hl4⟩ := pb_lp_succ hf
      have hf : fX8_isPossible_L4 c_t_w p1 l4_2 l4_3 = some y4 := hf
      unfold fX8_isPossible_L4 at hf
      refine pb_iload_n (pc := 4) C dX8_isPossible_4 rfl 3 rfl ?_
      refine pb_aload_n (pc := 5) C dX8_isPossible_5 rfl 0 rfl ?_
      refine pb_get (pc := 6) C hnX8_isPossible_X8 0 rfl rfl 0 (by decide) (List.mem_of_getElem? (i := 1) rfl) rfl rfl dX8_isPossible_6 ?_
      refine pb_iconst (v := 0) (pc := 9) C dX8_isPossible_9 pb_kI_0 ?_
      refine pb_iald (pc := 10) C 1 1 rfl rfl pb_ok_0_1508 dX8_isPossible_10 ?_
      refine pb_topi (congrArg c_t_w pb_kN_0) ?_
      refine pb_icmp_ge (pc := 11) (tgt := 141) C dX8_isPossible_11 (by decide) (fun hc11 => ?_) (fun hc11 => ?_)
      · have hf := pb_pos hf hc11
        obtain rfl := Option.some.inj hf
        obtain rfl := pb_esc hl4
        refine pb_sub [2] rfl ?_
        exact E4 l4_2 l4_3 hk4
      · have hf := pb_neg hf hc11
        refine pb_iload_n (pc := 14) C dX8_isPossible_14 rfl 1 rfl ?_
        refine pb_aload_n (pc := 15) C dX8_isPossible_15 rfl 0 rfl ?_
        refine pb_get (pc := 16) C hnX8_isPossible_X8 0 rfl rfl 0 (by decide) (List.mem_of_getElem? (i := 1) rfl) rfl rfl dX8_isPossible_16 ?_
        refine pb_iconst (v := 5) (pc := 19) C dX8_isPossible_19 pb_kI_5 ?_
        refine pb_iconst (v := 3) (pc := 20) C dX8_isPossible_20 pb_kI_3 ?_
        refine pb_iload_n (pc := 21) C dX8_isPossible_21 rfl 3 rfl ?_
        refine pb_imul (pc := 22) C dX8_isPossible_22 ?_
        refine pb_iadd (pc := 23) C dX8_isPossible_23 ?_
        refine pb_iconst (v := 1) (pc := 24) C dX8_isPossible_24 pb_kI_1 ?_
        refine pb_iadd (pc := 25) C dX8_isPossible_25 ?_
        obtain ⟨g26, hf⟩ := pb_grd hf
        refine pb_iald (pc := 26) C 1 1 rfl rfl g26 dX8_isPossible_26 ?_
        obtain ⟨r27, hr27, hf⟩ := pb_bind hf
        refine pb_callS (pc := 27) (n0 := 2) (ws' := (wwX8_isPossible cyB cyI cyJ cyZ cyS a_t a_t_w a_t_isKept a_t_text a_t_refused a_t_numbers a_t_weights c_t_texted c_t_above c_t_below c_t_at c_t_start c_t_isWord c_t_isFigures c_t_all c_t_known c_t_truth c_t_x c_t_h c_t_w)) (rest := []) (st2 := [.int r27]) C (kcX8_has l dC dI cyB cyI cyJ cyZ cyS p1 (c_t_w (Int32.toNatClampNeg ((5 + (3 * l4_3)) + 1))) r27 hr27) pb_NW_b (pb_NW_x hX) (va_cwS 2 C.1.2.2.2.2 gX8_isPossible_X8_has rfl rfl rfl kdS_X8_has ⟨Nat.le_of_ble_eq_true rfl, Nat.le_of_ble_eq_true rfl⟩) [] [0, 1] rfl rfl ⟨⟨_, rfl, rfl⟩, ⟨⟨_, rfl, rfl⟩, trivial⟩⟩ rfl (by decide +kernel) (adl := []) rfl rfl rfl rfl rfl (Nat.le_of_ble_eq_true rfl) ⟨Nat.le_refl _, Nat.le_refl _⟩ dX8_isPossible_27 rfl ?_
        refine pb_istore (lv' := [(4, .int r27), (0, .ref a_t), (1, .int p1), (2, .int l4_2), (3, .int l4_3)]) (pc := 30) C dX8_isPossible_30 (by decide) rfl ?_
        refine pb_iload_n (pc := 32) C dX8_isPossible_32 rfl 2 rfl ?_
        refine pb_aload_n (pc := 33) C dX8_isPossible_33 rfl 1 rfl ?_
        refine pb_get (pc := 34) C hnX8_isPossible_X8 0 rfl rfl 0 (by decide) (List.mem_of_getElem? (i := 1) rfl) rfl rfl dX8_isPossible_34 ?_
        refine pb_iconst (v := 5) (pc := 37) C dX8_isPossible_37 pb_kI_5 ?_
        refine pb_iconst (v := 3) (pc := 38) C dX8_isPossible_38 pb_kI_3 ?_
        refine pb_iload_n (pc := 39) C dX8_isPossible_39 rfl 4 rfl ?_
        refine pb_imul (pc := 40) C dX8_isPossible_40 ?_
        refine pb_iadd (pc := 41) C dX8_isPossible_41 ?_
        refine pb_iconst (v := 2) (pc := 42) C dX8_isPossible_42 pb_kI_2 ?_
        refine pb_iadd (pc := 43) C dX8_isPossible_43 ?_
        obtain ⟨g44, hf⟩ := pb_grd hf
        refine pb_iald (pc := 44) C 1 1 rfl rfl g44 dX8_isPossible_44 ?_
        obtain ⟨r45, hr45, hf⟩ := pb_bind hf
        refine pb_callS (pc := 45) (n0 := 2) (ws' := (wwX8_isPossible cyB cyI cyJ cyZ cyS a_t a_t_w a_t_isKept a_t_text a_t_refused a_t_numbers a_t_weights c_t_texted c_t_above c_t_below c_t_at c_t_start c_t_isWord c_t_isFigures c_t_all c_t_known c_t_truth c_t_x c_t_h c_t_w)) (rest := []) (st2 := [.int r45]) C (kcX8_has l dC dI cyB cyI cyJ cyZ cyS p1 (c_t_w (Int32.toNatClampNeg ((5 + (3 * l4_3)) + 2))) r45 hr45) pb_NW_b (pb_NW_x hX) (va_cwS 2 C.1.2.2.2.2 gX8_isPossible_X8_has rfl rfl rfl kdS_X8_has ⟨Nat.le_of_ble_eq_true rfl, Nat.le_of_ble_eq_true rfl⟩) [] [0, 1] rfl rfl ⟨⟨_, rfl, rfl⟩, ⟨⟨_, rfl, rfl⟩, trivial⟩⟩ rfl (by decide +kernel) (adl := []) rfl rfl rfl rfl rfl (Nat.le_of_ble_eq_true rfl) ⟨Nat.le_refl _, Nat.le_refl _⟩ dX8_isPossible_45 rfl ?_
        refine pb_istore (lv' := [(5, .int r45), (4, .int r27), (0, .ref a_t), (1, .int p1), (2, .int l4_2), (3, .int l4_3)]) (pc := 48) C dX8_isPossible_48 (by decide) rfl ?_
        refine pb_aload_n (pc := 50) C dX8_isPossible_50 rfl 2 rfl ?_
        refine pb_get (pc := 51) C hnX8_isPossible_X8 0 rfl rfl 0 (by decide) (List.mem_of_getElem? (i := 1) rfl) rfl rfl dX8_isPossible_51 ?_
        refine pb_iconst (v := 5) (pc := 54) C dX8_isPossible_54 pb_kI_5 ?_
        refine pb_iconst (v := 3) (pc := 55) C dX8_isPossible_55 pb_kI_3 ?_
        refine pb_iload_n (pc := 56) C dX8_isPossible_56 rfl 5 rfl ?_
        refine pb_imul (pc := 57) C dX8_isPossible_57 ?_
        refine pb_iadd (pc := 58) C dX8_isPossible_58 ?_
        obtain ⟨g59, hf⟩ := pb_grd hf
        refine pb_iald (pc := 59) C 1 1 rfl rfl g59 dX8_isPossible_59 ?_
        obtain ⟨x60, ex60, hf⟩ := pb_bind hf
        have ex60 := Option.some.inj ex60
        refine pb_topi ex60 ?_
        refine pb_istore (lv' := [(6, .int x60), (5, .int r45), (4, .int r27), (0, .ref a_t), (1, .int p1), (2, .int l4_2), (3, .int l4_3)]) (pc := 60) C dX8_isPossible_60 (by decide) rfl ?_
        refine pb_iload_n (pc := 62) C dX8_isPossible_62 rfl 5 rfl ?_
        refine pb_if_eq (pc := 63) (tgt := 133) C dX8_isPossible_63 (by decide) (fun hc63 => ?_) (fun hc63 => ?_)
        · have hf := pb_pos hf hc63
          refine pb_iconst (v := 0) (pc := 133) C dX8_isPossible_133 pb_kI_0 ?_
          refine pb_istore_n (lv' := [(2, .int 0), (6, .int x60), (5, .int r45), (4, .int r27), (0, .ref a_t), (1, .int p1), (3, .int l4_3)]) (pc := 134) C dX8_isPossible_134 rfl (by decide) rfl ?_
          refine pb_iinc (v := l4_3 + 1) (lv' := [(3, .int (l4_3 + 1)), (2, .int 0), (6, .int x60), (5, .int r45), (4, .int r27), (0, .ref a_t), (1, .int p1)]) (pc := 135) C dX8_isPossible_135 6 rfl (pb_inc pb_kI_1 rfl) (by decide) rfl ?_
          refine pb_goto (pc := 138) (tgt := 4) C dX8_isPossible_138 (by decide) ?_
          obtain rfl := Option.some.inj hf
          refine pb_sub [5, 6, 1, 0] rfl ?_
          have hl4 := pb_inl hl4
          exact ih4 0 (l4_3 + 1) hl4
        · have hf := pb_neg hf hc63
          refine pb_iload (pc := 66) C dX8_isPossible_66 0 rfl ?_
          refine pb_if_ne (pc := 68) (tgt := 84) C dX8_isPossible_68 (by decide) (fun hc68 => ?_) (fun hc68 => ?_)
          · have hf := pb_neg hf hc68
            refine pb_iload (pc := 84) C dX8_isPossible_84 0 rfl ?_
            refine pb_iconst (v := 1) (pc := 86) C dX8_isPossible_86 pb_kI_1 ?_
            refine pb_icmp_ne (pc := 87) (tgt := 103) C dX8_isPossible_87 (by decide) (fun hc87 => ?_) (fun hc87 => ?_)
            · have hf := pb_neg hf hc87
              refine pb_iload (pc := 103) C dX8_isPossible_103 0 rfl ?_
              refine pb_iconst (v := 2) (pc := 105) C dX8_isPossible_105 pb_kI_2 ?_
              refine pb_icmp_ne (pc := 106) (tgt := 122) C dX8_isPossible_106 (by decide) (fun hc106 => ?_) (fun hc106 => ?_)
              · have hf := pb_neg hf hc106
                refine pb_iload (pc := 122) C dX8_isPossible_122 2 rfl ?_
                refine pb_iload (pc := 124) C dX8_isPossible_124 1 rfl ?_
                refine pb_icmp_ne (pc := 126) (tgt := 133) C dX8_isPossible_126 (by decide) (fun hc126 => ?_) (fun hc126 => ?_)
                · have hf := pb_neg hf hc126
                  refine pb_iconst (v := 0) (pc := 133) C dX8_isPossible_133 pb_kI_0 ?_
                  refine pb_istore_n (lv' := [(2, .int 0), (6, .int x60), (5, .int r45), (4, .int r27), (0, .ref a_t), (1, .int p1), (3, .int l4_3)]) (pc := 134) C dX8_isPossible_134 rfl (by decide) rfl ?_
                  refine pb_iinc (v := l4_3 + 1) (lv' := [(3, .int (l4_3 + 1)), (2, .int 0), (6, .int x60), (5, .int r45), (4, .int r27), (0, .ref a_t), (1, .int p1)]) (pc := 135) C dX8_isPossible_135 6 rfl (pb_inc pb_kI_1 rfl) (by decide) rfl ?_
                  refine pb_goto (pc := 138) (tgt := 4) C dX8_isPossible_138 (by decide) ?_
                  obtain rfl := Option.some.inj hf
                  refine pb_sub [5, 6, 1, 0] rfl ?_
                  have hl4 := pb_inl hl4
                  exact ih4 0 (l4_3 + 1) hl4
                · have hf := pb_pos hf hc126
                  refine pb_iconst (v := 1) (pc := 129) C dX8_isPossible_129 pb_kI_1 ?_
                  refine pb_goto (pc := 130) (tgt := 134) C dX8_isPossible_130 (by decide) ?_
                  refine pb_istore_n (lv' := [(2, .int 1), (6, .int x60), (5, .int r45), (4, .int r27), (0, .ref a_t), (1, .int p1), (3, .int l4_3)]) (pc := 134) C dX8_isPossible_134 rfl (by decide) rfl ?_
                  refine pb_iinc (v := l4_3 + 1) (lv' := [(3, .int (l4_3 + 1)), (2, .int 1), (6, .int x60), (5, .int r45), (4, .int r27), (0, .ref a_t), (1, .int p1)]) (pc := 135) C dX8_isPossible_135 6 rfl (pb_inc pb_kI_1 rfl) (by decide) rfl ?_
                  refine pb_goto (pc := 138) (tgt := 4) C dX8_isPossible_138 (by decide) ?_
                  obtain rfl := Option.some.inj hf
                  refine pb_sub [5, 6, 1, 0] rfl ?_
                  have hl4 := pb_inl hl4
                  exact ih4 1 (l4_3 + 1) hl4
              · have hf := pb_pos hf hc106
                refine pb_iload (pc := 109) C dX8_isPossible_109 2 rfl ?_
                refine pb_if_ne (pc := 111) (tgt := 129) C dX8_isPossible_111 (by decide) (fun hc111 => ?_) (fun hc111 => ?_)
                · have hf := pb_neg hf hc111
                  refine pb_iconst (v := 1) (pc := 129) C dX8_isPossible_129 pb_kI_1 ?_
                  refine pb_goto (pc := 130) (tgt := 134) C dX8_isPossible_130 (by decide) ?_
                  refine pb_istore_n (lv' := [(2, .int 1), (6, .int x60), (5, .int r45), (4, .int r27), (0, .ref a_t), (1, .int p1), (3, .int l4_3)]) (pc := 134) C dX8_isPossible_134 rfl (by decide) rfl ?_
                  refine pb_iinc (v := l4_3 + 1) (lv' := [(3, .int (l4_3 + 1)), (2, .int 1), (6, .int x60), (5, .int r45), (4, .int r27), (0, .ref a_t), (1, .int p1)]) (pc := 135) C dX8_isPossible_135 6 rfl (pb_inc pb_kI_1 rfl) (by decide) rfl ?_
                  refine pb_goto (pc := 138) (tgt := 4) C dX8_isPossible_138 (by decide) ?_
                  obtain rfl := Option.some.inj hf
                  refine pb_sub [5, 6, 1, 0] rfl ?_
                  have hl4 := pb_inl hl4
                  exact ih4 1 (l4_3 + 1) hl4
                · have hf := pb_pos hf hc111
                  refine pb_iload (pc := 114) C dX8_isPossible_114 1 rfl ?_
                  refine pb_if_eq (pc := 116) (tgt := 133) C dX8_isPossible_116 (by decide) (fun hc116 => ?_) (fun hc116 => ?_)
                  · have hf := pb_pos hf hc116
                    refine pb_iconst (v := 0) (pc := 133) C dX8_isPossible_133 pb_kI_0 ?_
                    refine pb_istore_n (lv' := [(2, .int 0), (6, .int x60), (5, .int r45), (4, .int r27), (0, .ref a_t), (1, .int p1), (3, .int l4_3)]) (pc := 134) C dX8_isPossible_134 rfl (by decide) rfl ?_
                    refine pb_iinc (v := l4_3 + 1) (lv' := [(3, .int (l4_3 + 1)), (2, .int 0), (6, .int x60), (5, .int r45), (4, .int r27), (0, .ref a_t), (1, .int p1)]) (pc := 135) C dX8_isPossible_135 6 rfl (pb_inc pb_kI_1 rfl) (by decide) rfl ?_
                    refine pb_goto (pc := 138) (tgt := 4) C dX8_isPossible_138 (by decide) ?_
                    obtain rfl := Option.some.inj hf
                    refine pb_sub [5, 6, 1, 0] rfl ?_
                    have hl4 := pb_inl hl4
                    exact ih4 0 (l4_3 + 1) hl4
                  · have hf := pb_neg hf hc116
                    refine pb_goto (pc := 119) (tgt := 129) C dX8_isPossible_119 (by decide) ?_
                    refine pb_iconst (v := 1) (pc := 129) C dX8_isPossible_129 pb_kI_1 ?_
                    refine pb_goto (pc := 130) (tgt := 134) C dX8_isPossible_130 (by decide) ?_
                    refine pb_istore_n (lv' := [(2, .int 1), (6, .int x60), (5, .int r45), (4, .int r27), (0, .ref a_t), (1, .int p1), (3, .int l4_3)]) (pc := 134) C dX8_isPossible_134 rfl (by decide) rfl ?_
                    refine pb_iinc (v := l4_3 + 1) (lv' := [(3, .int (l4_3 + 1)), (2, .int 1), (6, .int x60), (5, .int r45), (4, .int r27), (0, .ref a_t), (1, .int p1)]) (pc := 135) C dX8_isPossible_135 6 rfl (pb_inc pb_kI_1 rfl) (by decide) rfl ?_
                    refine pb_goto (pc := 138) (tgt := 4) C dX8_isPossible_138 (by decide) ?_
                    obtain rfl := Option.some.inj hf
                    refine pb_sub [5, 6, 1, 0] rfl ?_
                    have hl4 := pb_inl hl4
                    exact ih4 1 (l4_3 + 1) hl4
            · have hf := pb_pos hf hc87
              refine pb_iload (pc := 90) C dX8_isPossible_90 2 rfl ?_
              refine pb_if_eq (pc := 92) (tgt := 129) C dX8_isPossible_92 (by decide) (fun hc92 => ?_) (fun hc92 => ?_)
              · have hf := pb_pos hf hc92
                refine pb_iconst (v := 1) (pc := 129) C dX8_isPossible_129 pb_kI_1 ?_
                refine pb_goto (pc := 130) (tgt := 134) C dX8_isPossible_130 (by decide) ?_
                refine pb_istore_n (lv' := [(2, .int 1), (6, .int x60), (5, .int r45), (4, .int r27), (0, .ref a_t), (1, .int p1), (3, .int l4_3)]) (pc := 134) C dX8_isPossible_134 rfl (by decide) rfl ?_
                refine pb_iinc (v := l4_3 + 1) (lv' := [(3, .int (l4_3 + 1)), (2, .int 1), (6, .int x60), (5, .int r45), (4, .int r27), (0, .ref a_t), (1, .int p1)]) (pc := 135) C dX8_isPossible_135 6 rfl (pb_inc pb_kI_1 rfl) (by decide) rfl ?_
                refine pb_goto (pc := 138) (tgt := 4) C dX8_isPossible_138 (by decide) ?_
                obtain rfl := Option.some.inj hf
                refine pb_sub [5, 6, 1, 0] rfl ?_
                have hl4 := pb_inl hl4
                exact ih4 1 (l4_3 + 1) hl4
              · have hf := pb_neg hf hc92
                refine pb_iload (pc := 95) C dX8_isPossible_95 1 rfl ?_
                refine pb_if_ne (pc := 97) (tgt := 133) C dX8_isPossible_97 (by decide) (fun hc97 => ?_) (fun hc97 => ?_)
                · have hf := pb_neg hf hc97
                  refine pb_iconst (v := 0) (pc := 133) C dX8_isPossible_133 pb_kI_0 ?_
                  refine pb_istore_n (lv' := [(2, .int 0), (6, .int x60), (5, .int r45), (4, .int r27), (0, .ref a_t), (1, .int p1), (3, .int l4_3)]) (pc := 134) C dX8_isPossible_134 rfl (by decide) rfl ?_
                  refine pb_iinc (v := l4_3 + 1) (lv' := [(3, .int (l4_3 + 1)), (2, .int 0), (6, .int x60), (5, .int r45), (4, .int r27), (0, .ref a_t), (1, .int p1)]) (pc := 135) C dX8_isPossible_135 6 rfl (pb_inc pb_kI_1 rfl) (by decide) rfl ?_
                  refine pb_goto (pc := 138) (tgt := 4) C dX8_isPossible_138 (by decide) ?_
                  obtain rfl := Option.some.inj hf
                  refine pb_sub [5, 6, 1, 0] rfl ?_
                  have hl4 := pb_inl hl4
                  exact ih4 0 (l4_3 + 1) hl4
                · have hf := pb_pos hf hc97
                  refine pb_goto (pc := 100) (tgt := 129) C dX8_isPossible_100 (by decide) ?_
                  refine pb_iconst (v := 1) (pc := 129) C dX8_isPossible_129 pb_kI_1 ?_
                  refine pb_goto (pc := 130) (tgt := 134) C dX8_isPossible_130 (by decide) ?_
                  refine pb_istore_n (lv' := [(2, .int 1), (6, .int x60), (5, .int r45), (4, .int r27), (0, .ref a_t), (1, .int p1), (3, .int l4_3)]) (pc := 134) C dX8_isPossible_134 rfl (by decide) rfl ?_
                  refine pb_iinc (v := l4_3 + 1) (lv' := [(3, .int (l4_3 + 1)), (2, .int 1), (6, .int x60), (5, .int r45), (4, .int r27), (0, .ref a_t), (1, .int p1)]) (pc := 135) C dX8_isPossible_135 6 rfl (pb_inc pb_kI_1 rfl) (by decide) rfl ?_
                  refine pb_goto (pc := 138) (tgt := 4) C dX8_isPossible_138 (by decide) ?_
                  obtain rfl := Option.some.inj hf
                  refine pb_sub [5, 6, 1, 0] rfl ?_
                  have hl4 := pb_inl hl4
                  exact ih4 1 (l4_3 + 1) hl4
          · have hf := pb_pos hf hc68
            refine pb_iload (pc := 71) C dX8_isPossible_71 2 rfl ?_
            refine pb_if_eq (pc := 73) (tgt := 129) C dX8_isPossible_73 (by decide) (fun hc73 => ?_) (fun hc73 => ?_)
            · have hf := pb_pos hf hc73
              refine pb_iconst (v := 1) (pc := 129) C dX8_isPossible_129 pb_kI_1 ?_
              refine pb_goto (pc := 130) (tgt := 134) C dX8_isPossible_130 (by decide) ?_
              refine pb_istore_n (lv' := [(2, .int 1), (6, .int x60), (5, .int r45), (4, .int r27), (0, .ref a_t), (1, .int p1), (3, .int l4_3)]) (pc := 134) C dX8_isPossible_134 rfl (by decide) rfl ?_
              refine pb_iinc (v := l4_3 + 1) (lv' := [(3, .int (l4_3 + 1)), (2, .int 1), (6, .int x60), (5, .int r45), (4, .int r27), (0, .ref a_t), (1, .int p1)]) (pc := 135) C dX8_isPossible_135 6 rfl (pb_inc pb_kI_1 rfl) (by decide) rfl ?_
              refine pb_goto (pc := 138) (tgt := 4) C dX8_isPossible_138 (by decide) ?_
              obtain rfl := Option.some.inj hf
              refine pb_sub [5, 6, 1, 0] rfl ?_
              have hl4 := pb_inl hl4
              exact ih4 1 (l4_3 + 1) hl4
            · have hf := pb_neg hf hc73
              refine pb_iload (pc := 76) C dX8_isPossible_76 1 rfl ?_
              refine pb_if_eq (pc := 78) (tgt := 133) C dX8_isPossible_78 (by decide) (fun hc78 => ?_) (fun hc78 => ?_)
              · have hf := pb_pos hf hc78
                refine pb_iconst (v := 0) (pc := 133) C dX8_isPossible_133 pb_kI_0 ?_
                refine pb_istore_n (lv' := [(2, .int 0), (6, .int x60), (5, .int r45), (4, .int r27), (0, .ref a_t), (1, .int p1), (3, .int l4_3)]) (pc := 134) C dX8_isPossible_134 rfl (by decide) rfl ?_
                refine pb_iinc (v := l4_3 + 1) (lv' := [(3, .int (l4_3 + 1)), (2, .int 0), (6, .int x60), (5, .int r45), (4, .int r27), (0, .ref a_t), (1, .int p1)]) (pc := 135) C dX8_isPossible_135 6 rfl (pb_inc pb_kI_1 rfl) (by decide) rfl ?_
                refine pb_goto (pc := 138) (tgt := 4) C dX8_isPossible_138 (by decide) ?_
                obtain rfl := Option.some.inj hf
                refine pb_sub [5, 6, 1, 0] rfl ?_
                have hl4 := pb_inl hl4
                exact ih4 0 (l4_3 + 1) hl4
              · have hf := pb_neg hf hc78
                refine pb_goto (pc := 81) (tgt := 129) C dX8_isPossible_81 (by decide) ?_
                refine pb_iconst (v := 1) (pc := 129) C dX8_isPossible_129 pb_kI_1 ?_
                refine pb_goto (pc := 130) (tgt := 134) C dX8_isPossible_130 (by decide) ?_
                refine pb_istore_n (lv' := [(2, .int 1), (6, .int x60), (5, .int r45), (4, .int r27), (0, .ref a_t), (1, .int p1), (3, .int l4_3)]) (pc := 134) C dX8_isPossible_134 rfl (by decide) rfl ?_
                refine pb_iinc (v := l4_3 + 1) (lv' := [(3, .int (l4_3 + 1)), (2, .int 1), (6, .int x60), (5, .int r45), (4, .int r27), (0, .ref a_t), (1, .int p1)]) (pc := 135) C dX8_isPossible_135 6 rfl (pb_inc pb_kI_1 rfl) (by decide) rfl ?_
                refine pb_goto (pc := 138) (tgt := 4) C dX8_isPossible_138 (by decide) ?_
                obtain rfl := Option.some.inj hf
                refine pb_sub [5, 6, 1, 0] rfl ?_
                have hl4 := pb_inl hl4
                exact ih4 1 (l4_3 + 1) hl4
  refine pb_sub [2, 3, 1, 0] rfl ?_
  exact L4 pb_FU 1 0 hz4
def rmX8_weighed : Room := { frames := 2, cells := 0, slots := 0, locals := 47 }
def wwX8_weighed (cyB cyI cyJ cyZ cyS : ClassId) (a_t a_t_w a_t_isKept a_t_text a_t_refused a_t_numbers a_t_weights : Nat) (c_t_texted : Int32) (c_t_above : Int64) (c_t_below : Int64) (c_t_at : Int32) (c_t_start : Int32) (c_t_isWord : Int32) (c_t_isFigures : Int32) (c_t_all : Int64) (c_t_known : Int32) (c_t_truth : Int32) (c_t_x : Int64) (c_t_h : Int64) (c_t_w : (Nat → Int32)) : va_W := [(a_t, .inr (8, [.ref a_t_w, .ref a_t_isKept, .ref a_t_text, .int c_t_texted, .ref a_t_refused, .long c_t_above, .long c_t_below, .int c_t_at, .int c_t_start, .int c_t_isWord, .int c_t_isFigures, .ref a_t_numbers, .ref a_t_weights, .long c_t_all, .int c_t_known, .int c_t_truth, .long c_t_x, .long c_t_h])), (a_t_w, .inl (cyI, 1508, .inl c_t_w))]
theorem hnX8_weighed_X8 : ∀ w ∈ wsX80, w ∈ wsX8_weighed := fun _ h => List.mem_cons_of_mem _ (List.mem_append_right _ h)
set_option maxHeartbeats 4000000 in
set_option maxRecDepth 100000 in
theorem kcX8_weighed (l : Launch) (dC : Nat → ClassId) (dI : Nat → Nat → Nat) (cyB cyI cyJ cyZ cyS : ClassId) (a_t a_t_w a_t_isKept a_t_text a_t_refused a_t_numbers a_t_weights : Nat) (c_t_texted : Int32) (c_t_above : Int64) (c_t_below : Int64) (c_t_at : Int32) (c_t_start : Int32) (c_t_isWord : Int32) (c_t_isFigures : Int32) (c_t_all : Int64) (c_t_known : Int32) (c_t_truth : Int32) (c_t_x : Int64) (c_t_h : Int64) (c_t_w : (Nat → Int32)) (p1 : Int32) (p2 : Int32) (out : Int64) (hf : fX8_weighed c_t_w p1 p2 = some out) : pb_K l yX8_weighed wsX8_weighed rmX8_weighed (dC, dI) vwCl (pb_tys cyB cyI cyJ cyZ cyS) pb_NW [.ref a_t, .int p1, .int p2] (wwX8_weighed cyB cyI cyJ cyZ cyS a_t a_t_w a_t_isKept a_t_text a_t_refused a_t_numbers a_t_weights c_t_texted c_t_above c_t_below c_t_at c_t_start c_t_isWord c_t_isFigures c_t_all c_t_known c_t_truth c_t_x c_t_h c_t_w) (wwX8_weighed cyB cyI cyJ cyZ cyS a_t a_t_w a_t_isKept a_t_text a_t_refused a_t_numbers a_t_weights c_t_texted c_t_above c_t_below c_t_at c_t_start c_t_isWord c_t_isFigures c_t_all c_t_known c_t_truth c_t_x c_t_h c_t_w) (some (.long out)) := by
  unfold fX8_weighed at hf
  refine pb_K.ofV (cc := cX8_weighed) (maxL := 8) (ret := (some .long)) (lv0 := [(0, .ref a_t), (1, .int p1), (2, .int p2)]) (by decide) rfl (Nat.le_of_ble_eq_true rfl) rfl ?_
  intro p e s m below meth c A C hX hr hlk hA
  refine pb_aload_n (pc := 0) C dX8_weighed_0 rfl 0 rfl ?_
  refine pb_iload_n (pc := 1) C dX8_weighed_1 rfl 1 rfl ?_
  obtain ⟨r2, hr2, hf⟩ := pb_bind hf
  refine pb_callV (pc := 2) (n0 := 2) (ws' := (wwX8_weighed cyB cyI cyJ cyZ cyS a_t a_t_w a_t_isKept a_t_text a_t_refused a_t_numbers a_t_weights c_t_texted c_t_above c_t_below c_t_at c_t_start c_t_isWord c_t_isFigures c_t_all c_t_known c_t_truth c_t_x c_t_h c_t_w)) (rest := []) (st2 := [.int r2]) C (kcX8_isPossible l dC dI cyB cyI cyJ cyZ cyS a_t a_t_w a_t_isKept a_t_text a_t_refused a_t_numbers a_t_weights c_t_texted c_t_above c_t_below c_t_at c_t_start c_t_isWord c_t_isFigures c_t_all c_t_known c_t_truth c_t_x c_t_h c_t_w p1 r2 hr2) pb_NW_b (pb_NW_x hX) (cwV 1 C.1.2.2.2.2 gX8_weighed_X8_isPossible rfl rfl rfl kdV_X8_isPossible ⟨Nat.le_of_ble_eq_true rfl, Nat.le_of_ble_eq_true rfl⟩) 0 rfl rfl [0, 1] [] rfl rfl trivial rfl (by decide +kernel) (adl := [a_t, a_t_w]) rfl rfl rfl rfl rfl (Nat.le_of_ble_eq_true rfl) ⟨Nat.le_refl _, Nat.le_refl _⟩ dX8_weighed_2 rfl ?_
  obtain ⟨y13, hf, hk13⟩ := pb_bind hf
  have J13 : ∀ (j13_s0 : Int64), fX8_weighed_J13 c_t_w p1 p2 j13_s0 = some out → pb_V p l e rmX8_weighed s m (([.ref a_t, .int p1, .int p2] : List Value).toArray) below meth c 8 (dC, dI) vwCl A 0 0 (pb_MQ below (([.ref a_t, .int p1, .int p2] : List Value).toArray) s (dC, dI) vwCl (wwX8_weighed cyB cyI cyJ cyZ cyS a_t a_t_w a_t_isKept a_t_text a_t_refused a_t_numbers a_t_weights c_t_texted c_t_above c_t_below c_t_at c_t_start c_t_isWord c_t_isFigures c_t_all c_t_known c_t_truth c_t_x c_t_h c_t_w) (wwX8_weighed cyB cyI cyJ cyZ cyS a_t a_t_w a_t_isKept a_t_text a_t_refused a_t_numbers a_t_weights c_t_texted c_t_above c_t_below c_t_at c_t_start c_t_isWord c_t_isFigures c_t_all c_t_known c_t_truth c_t_x c_t_h c_t_w) (some (.long out)) A) (wwX8_weighed cyB cyI cyJ cyZ cyS a_t a_t_w a_t_isKept a_t_text a_t_refused a_t_numbers a_t_weights c_t_texted c_t_above c_t_below c_t_at c_t_start c_t_isWord c_t_isFigures c_t_all c_t_known c_t_truth c_t_x c_t_h c_t_w) [(0, .ref a_t), (1, .int p1), (2, .int p2)] [.long j13_s0] 13 := by
    intro j13_s0 hf
    unfold fX8_weighed_J13 at hf
    refine pb_lstore_n (lv' := [(3, .long j13_s0), (0, .ref a_t), (1, .int p1), (2, .int p2)]) (pc := 13) C dX8_weighed_13 rfl (by decide) rfl ?_
    refine pb_iconst (v := 0) (pc := 14) C dX8_weighed_14 pb_kI_0 ?_
    refine pb_istore (lv' := [(5, .int 0), (3, .long j13_s0), (0, .ref a_t), (1, .int p1), (2, .int p2)]) (pc := 15) C dX8_weighed_15 (by decide) rfl ?_
    obtain ⟨z17, hz17, hk17⟩ := pb_bind hf
    have E17 : ∀ (e17_3 : Int64) (e17_5 : Int32), fX8_weighed_E17 e17_3 e17_5 = some out → pb_V p l e rmX8_weighed s m (([.ref a_t, .int p1, .int p2] : List Value).toArray) below meth c 8 (dC, dI) vwCl A 0 0 (pb_MQ below (([.ref a_t, .int p1, .int p2] : List Value).toArray) s (dC, dI) vwCl (wwX8_weighed cyB cyI cyJ cyZ cyS a_t a_t_w a_t_isKept a_t_text a_t_refused a_t_numbers a_t_weights c_t_texted c_t_above c_t_below c_t_at c_t_start c_t_isWord c_t_isFigures c_t_all c_t_known c_t_truth c_t_x c_t_h c_t_w) (wwX8_weighed cyB cyI cyJ cyZ cyS a_t a_t_w a_t_isKept a_t_text a_t_refused a_t_numbers a_t_weights c_t_texted c_t_above c_t_below c_t_at c_t_start c_t_isWord c_t_isFigures c_t_all c_t_known c_t_truth c_t_x c_t_h c_t_w) (some (.long out)) A) (wwX8_weighed cyB cyI cyJ cyZ cyS a_t a_t_w a_t_isKept a_t_text a_t_refused a_t_numbers a_t_weights c_t_texted c_t_above c_t_below c_t_at c_t_start c_t_isWord c_t_isFigures c_t_all c_t_known c_t_truth c_t_x c_t_h c_t_w) [(3, .long e17_3)] [] 132 := by
      intro e17_3 e17_5 hf
      unfold fX8_weighed_E17 at hf
      refine pb_lload_n (pc := 132) C dX8_weighed_132 rfl 0 rfl ?_
      obtain rfl := Option.some.inj hf
      exact pb_lret (pc := 133) C hr hlk hA dX8_weighed_133
    have L17 : ∀ (n : Nat) (l17_3 : Int64) (l17_5 : Int32), pb_lp (fun y => fX8_weighed_L17 c_t_w p1 p2 y.1 y.2) n (l17_3, l17_5) = some z17 → pb_V p l e rmX8_weighed s m (([.ref a_t, .int p1, .int p2] : List Value).toArray) below meth c 8 (dC, dI) vwCl A 0 0 (pb_MQ below (([.ref a_t, .int p1, .int p2] : List Value).toArray) s (dC, dI) vwCl (wwX8_weighed cyB cyI cyJ cyZ cyS a_t a_t_w a_t_isKept a_t_text a_t_refused a_t_numbers a_t_weights c_t_texted c_t_above c_t_below c_t_at c_t_start c_t_isWord c_t_isFigures c_t_all c_t_known c_t_truth c_t_x c_t_h c_t_w) (wwX8_weighed cyB cyI cyJ cyZ cyS a_t a_t_w a_t_isKept a_t_text a_t_refused a_t_numbers a_t_weights c_t_texted c_t_above c_t_below c_t_at c_t_start c_t_isWord c_t_isFigures c_t_all c_t_known c_t_truth c_t_x c_t_h c_t_w) (some (.long out)) A) (wwX8_weighed cyB cyI cyJ cyZ cyS a_t a_t_w a_t_isKept a_t_text a_t_refused a_t_numbers a_t_weights c_t_texted c_t_above c_t_below c_t_at c_t_start c_t_isWord c_t_isFigures c_t_all c_t_known c_t_truth c_t_x c_t_h c_t_w) [(0, .ref a_t), (1, .int p1), (2, .int p2), (3, .long l17_3), (5, .int l17_5)] [] 17 := by
      intro n
      induction n with
      | zero => intro l17_3 l17_5 hf; exact (pb_lp_zero hf).elim
      | succ n ih17 =>
        intro l17_3 l17_5 hf
        obtain ⟨y17, hf, hl17⟩ := pb_lp_succ hf
        have hf : fX8_weighed_L17 c_t_w p1 p2 l17_3 l17_5 = some y17 := hf
        unfold fX8_weighed_L17 at hf
        refine pb_iload (pc := 17) C dX8_weighed_17 4 rfl ?_
        refine pb_aload_n (pc := 19) C dX8_weighed_19 rfl 0 rfl ?_
        refine pb_get (pc := 20) C hnX8_weighed_X8 0 rfl rfl 0 (by decide) (List.mem_of_getElem? (i := 1) rfl) rfl rfl dX8_weighed_20 ?_
        refine pb_iconst (v := 1) (pc := 23) C dX8_weighed_23 pb_kI_1 ?_
        refine pb_iald (pc := 24) C 1 1 rfl rfl pb_ok_1_1508 dX8_weighed_24 ?_
        refine pb_topi (congrArg c_t_w pb_kN_1) ?_
        refine pb_icmp_ge (pc := 25) (tgt := 132) C dX8_weighed_25 (by decide) (fun hc25 => ?_) (fun hc25 => ?_)
        · have hf := pb_pos hf hc25
          obtain rfl := Option.some.inj hf
          obtain rfl := pb_esc hl17
          refine pb_sub [3] rfl ?_
          exact E17 l17_3 l17_5 hk17
        · have hf := pb_neg hf hc25
          refine pb_iload_n (pc := 28) C dX8_weighed_28 rfl 1 rfl ?_
          refine pb_aload_n (pc := 29) C dX8_weighed_29 rfl 0 rfl ?_
          refine pb_get (pc := 30) C hnX8_weighed_X8 0 rfl rfl 0 (by decide) (List.mem_of_getElem? (i := 1) rfl) rfl rfl dX8_weighed_30 ?_
          refine pb_bipush (v := 29) (pc := 33) C dX8_weighed_33 pb_kB_29 ?_
          refine pb_iconst (v := 3) (pc := 35) C dX8_weighed_35 pb_kI_3 ?_
          refine pb_iload (pc := 36) C dX8_weighed_36 4 rfl ?_
          refine pb_imul (pc := 38) C dX8_weighed_38 ?_
          refine pb_iadd (pc := 39) C dX8_weighed_39 ?_
          obtain ⟨g40, hf⟩ := pb_grd hf
          refine pb_iald (pc := 40) C 1 1 rfl rfl g40 dX8_weighed_40 ?_
          obtain ⟨r41, hr41, hf⟩ := pb_bind hf
          refine pb_callS (pc := 41) (n0 := 2) (ws' := (wwX8_weighed cyB cyI cyJ cyZ cyS a_t a_t_w a_t_isKept a_t_text a_t_refused a_t_numbers a_t_weights c_t_texted c_t_above c_t_below c_t_at c_t_start c_t_isWord c_t_isFigures c_t_all c_t_known c_t_truth c_t_x c_t_h c_t_w)) (rest := []) (st2 := [.int r41]) C (kcX8_has l dC dI cyB cyI cyJ cyZ cyS p1 (c_t_w (Int32.toNatClampNeg (29 + (3 * l17_5)))) r41 hr41) pb_NW_b (pb_NW_x hX) (va_cwS 2 C.1.2.2.2.2 gX8_weighed_X8_has rfl rfl rfl kdS_X8_has ⟨Nat.le_of_ble_eq_true rfl, Nat.le_of_ble_eq_true rfl⟩) [] [0, 1] rfl rfl ⟨⟨_, rfl, rfl⟩, ⟨⟨_, rfl, rfl⟩, trivial⟩⟩ rfl (by decide +kernel) (adl := []) rfl rfl rfl rfl rfl (Nat.le_of_ble_eq_true rfl) ⟨Nat.le_refl _, Nat.le_refl _⟩ dX8_weighed_41 rfl ?_
          refine pb_aload_n (pc := 44) C dX8_weighed_44 rfl 0 rfl ?_
          refine pb_get (pc := 45) C hnX8_weighed_X8 0 rfl rfl 0 (by decide) (List.mem_of_getElem? (i := 1) rfl) rfl rfl dX8_weighed_45 ?_
          refine pb_bipush (v := 29) (pc := 48) C dX8_weighed_48 pb_kB_29 ?_
          refine pb_iconst (v := 3) (pc := 50) C dX8_weighed_50 pb_kI_3 ?_
          refine pb_iload (pc := 51) C dX8_weighed_51 4 rfl ?_
          refine pb_imul (pc := 53) C dX8_weighed_53 ?_
          refine pb_iadd (pc := 54) C dX8_weighed_54 ?_
          refine pb_iconst (v := 1) (pc := 55) C dX8_weighed_55 pb_kI_1 ?_
          refine pb_iadd (pc := 56) C dX8_weighed_56 ?_
          obtain ⟨g57, hf⟩ := pb_grd hf
          refine pb_iald (pc := 57) C 1 1 rfl rfl g57 dX8_weighed_57 ?_
          refine pb_iconst (v := 1) (pc := 58) C dX8_weighed_58 pb_kI_1 ?_
          obtain ⟨y67, hf, hk67⟩ := pb_bind hf
          have J67 : ∀ (j67_s1 : Int32), fX8_weighed_J67 c_t_w p2 l17_3 l17_5 r41 j67_s1 = some y17 → pb_V p l e rmX8_weighed s m (([.ref a_t, .int p1, .int p2] : List Value).toArray) below meth c 8 (dC, dI) vwCl A 0 0 (pb_MQ below (([.ref a_t, .int p1, .int p2] : List Value).toArray) s (dC, dI) vwCl (wwX8_weighed cyB cyI cyJ cyZ cyS a_t a_t_w a_t_isKept a_t_text a_t_refused a_t_numbers a_t_weights c_t_texted c_t_above c_t_below c_t_at c_t_start c_t_isWord c_t_isFigures c_t_all c_t_known c_t_truth c_t_x c_t_h c_t_w) (wwX8_weighed cyB cyI cyJ cyZ cyS a_t a_t_w a_t_isKept a_t_text a_t_refused a_t_numbers a_t_weights c_t_texted c_t_above c_t_below c_t_at c_t_start c_t_isWord c_t_isFigures c_t_all c_t_known c_t_truth c_t_x c_t_h c_t_w) (some (.long out)) A) (wwX8_weighed cyB cyI cyJ cyZ cyS a_t a_t_w a_t_isKept a_t_text a_t_refused a_t_numbers a_t_weights c_t_texted c_t_above c_t_below c_t_at c_t_start c_t_isWord c_t_isFigures c_t_all c_t_known c_t_truth c_t_x c_t_h c_t_w) [(0, .ref a_t), (1, .int p1), (2, .int p2), (3, .long l17_3), (5, .int l17_5)] [.int j67_s1, .int r41] 67 := by
            intro j67_s1 hf
            unfold fX8_weighed_J67 at hf
            obtain ⟨y75, hf, hk75⟩ := pb_bind hf
            have J75 : ∀ (j75_s0 : Int32), fX8_weighed_J75 c_t_w p2 l17_3 l17_5 j75_s0 = some y17 → pb_V p l e rmX8_weighed s m (([.ref a_t, .int p1, .int p2] : List Value).toArray) below meth c 8 (dC, dI) vwCl A 0 0 (pb_MQ below (([.ref a_t, .int p1, .int p2] : List Value).toArray) s (dC, dI) vwCl (wwX8_weighed cyB cyI cyJ cyZ cyS a_t a_t_w a_t_isKept a_t_text a_t_refused a_t_numbers a_t_weights c_t_texted c_t_above c_t_below c_t_at c_t_start c_t_isWord c_t_isFigures c_t_all c_t_known c_t_truth c_t_x c_t_h c_t_w) (wwX8_weighed cyB cyI cyJ cyZ cyS a_t a_t_w a_t_isKept a_t_text a_t_refused a_t_numbers a_t_weights c_t_texted c_t_above c_t_below c_t_at c_t_start c_t_isWord c_t_isFigures c_t_all c_t_known c_t_truth c_t_x c_t_h c_t_w) (some (.long out)) A) (wwX8_weighed cyB cyI cyJ cyZ cyS a_t a_t_w a_t_isKept a_t_text a_t_refused a_t_numbers a_t_weights c_t_texted c_t_above c_t_below c_t_at c_t_start c_t_isWord c_t_isFigures c_t_all c_t_known c_t_truth c_t_x c_t_h c_t_w) [(0, .ref a_t), (1, .int p1), (2, .int p2), (3, .long l17_3), (5, .int l17_5)] [.int j75_s0] 75 := by
              intro j75_s0 hf
              unfold fX8_weighed_J75 at hf
              refine pb_istore (lv' := [(6, .int j75_s0), (0, .ref a_t), (1, .int p1), (2, .int p2), (3, .long l17_3), (5, .int l17_5)]) (pc := 75) C dX8_weighed_75 (by decide) rfl ?_
              refine pb_aload_n (pc := 77) C dX8_weighed_77 rfl 1 rfl ?_
              refine pb_get (pc := 78) C hnX8_weighed_X8 0 rfl rfl 0 (by decide) (List.mem_of_getElem? (i := 1) rfl) rfl rfl dX8_weighed_78 ?_
              refine pb_bipush (v := 29) (pc := 81) C dX8_weighed_81 pb_kB_29 ?_
              refine pb_iconst (v := 3) (pc := 83) C dX8_weighed_83 pb_kI_3 ?_
              refine pb_iload (pc := 84) C dX8_weighed_84 5 rfl ?_
              refine pb_imul (pc := 86) C dX8_weighed_86 ?_
              refine pb_iadd (pc := 87) C dX8_weighed_87 ?_
              refine pb_iconst (v := 2) (pc := 88) C dX8_weighed_88 pb_kI_2 ?_
              refine pb_iadd (pc := 89) C dX8_weighed_89 ?_
              obtain ⟨g90, hf⟩ := pb_grd hf
              refine pb_iald (pc := 90) C 1 1 rfl rfl g90 dX8_weighed_90 ?_
              obtain ⟨x91, ex91, hf⟩ := pb_bind hf
              have ex91 := Option.some.inj ex91
              refine pb_topi ex91 ?_
              refine pb_istore (lv' := [(7, .int x91), (6, .int j75_s0), (0, .ref a_t), (1, .int p1), (2, .int p2), (3, .long l17_3), (5, .int l17_5)]) (pc := 91) C dX8_weighed_91 (by decide) rfl ?_
              refine pb_lload_n (pc := 93) C dX8_weighed_93 rfl 5 rfl ?_
              refine pb_iload_n (pc := 94) C dX8_weighed_94 rfl 4 rfl ?_
              refine pb_iload (pc := 95) C dX8_weighed_95 6 rfl ?_
              obtain ⟨r97, hr97, hf⟩ := pb_bind hf
              refine pb_callS (pc := 97) (n0 := 2) (ws' := (wwX8_weighed cyB cyI cyJ cyZ cyS a_t a_t_w a_t_isKept a_t_text a_t_refused a_t_numbers a_t_weights c_t_texted c_t_above c_t_below c_t_at c_t_start c_t_isWord c_t_isFigures c_t_all c_t_known c_t_truth c_t_x c_t_h c_t_w)) (rest := [.long l17_3]) (st2 := [.int r97, .long l17_3]) C (kcX8_has l dC dI cyB cyI cyJ cyZ cyS p2 l17_5 r97 hr97) pb_NW_b (pb_NW_x hX) (va_cwS 2 C.1.2.2.2.2 gX8_weighed_X8_has rfl rfl rfl kdS_X8_has ⟨Nat.le_of_ble_eq_true rfl, Nat.le_of_ble_eq_true rfl⟩) [] [0, 1] rfl rfl ⟨⟨_, rfl, rfl⟩, ⟨⟨_, rfl, rfl⟩, trivial⟩⟩ rfl (by decide +kernel) (adl := []) rfl rfl rfl rfl rfl (Nat.le_of_ble_eq_true rfl) ⟨Nat.le_refl _, Nat.le_refl _⟩ dX8_weighed_97 rfl ?_
              refine pb_if_eq (pc := 100) (tgt := 107) C dX8_weighed_100 (by decide) (fun hc100 => ?_) (fun hc100 => ?_)
              · have hf := pb_pos hf hc100
                refine pb_iload (pc := 107) C dX8_weighed_107 1 rfl ?_
                refine pb_if_eq (pc := 109) (tgt := 118) C dX8_weighed_109 (by decide) (fun hc109 => ?_) (fun hc109 => ?_)
                · have hf := pb_pos hf hc109
                  refine pb_bipush (v := 10) (pc := 118) C dX8_weighed_118 pb_kB_10 ?_
                  refine pb_iload (pc := 120) C dX8_weighed_120 0 rfl ?_
                  refine pb_isub (pc := 122) C dX8_weighed_122 ?_
                  refine pb_i2l (pc := 123) C dX8_weighed_123 ?_
                  refine pb_lmul (pc := 124) C dX8_weighed_124 ?_
                  obtain ⟨x125, ex125, hf⟩ := pb_bind hf
                  have ex125 := Option.some.inj ex125
                  refine pb_topl ex125 ?_
                  refine pb_lstore_n (lv' := [(3, .long x125), (7, .int x91), (6, .int j75_s0), (0, .ref a_t), (1, .int p1), (2, .int p2), (5, .int l17_5)]) (pc := 125) C dX8_weighed_125 rfl (by decide) rfl ?_
                  refine pb_iinc (v := l17_5 + 1) (lv' := [(5, .int (l17_5 + 1)), (3, .long x125), (7, .int x91), (6, .int j75_s0), (0, .ref a_t), (1, .int p1), (2, .int p2)]) (pc := 126) C dX8_weighed_126 6 rfl (pb_inc pb_kI_1 rfl) (by decide) rfl ?_
                  refine pb_goto (pc := 129) (tgt := 17) C dX8_weighed_129 (by decide) ?_
                  obtain rfl := Option.some.inj hf
                  refine pb_sub [4, 5, 6, 1, 0] rfl ?_
                  have hl17 := pb_inl hl17
                  exact ih17 x125 (l17_5 + 1) hl17
                · have hf := pb_neg hf hc109
                  refine pb_iload (pc := 112) C dX8_weighed_112 0 rfl ?_
                  refine pb_i2l (pc := 114) C dX8_weighed_114 ?_
                  refine pb_goto (pc := 115) (tgt := 124) C dX8_weighed_115 (by decide) ?_
                  refine pb_lmul (pc := 124) C dX8_weighed_124 ?_
                  obtain ⟨x125, ex125, hf⟩ := pb_bind hf
                  have ex125 := Option.some.inj ex125
                  refine pb_topl ex125 ?_
                  refine pb_lstore_n (lv' := [(3, .long x125), (7, .int x91), (6, .int j75_s0), (0, .ref a_t), (1, .int p1), (2, .int p2), (5, .int l17_5)]) (pc := 125) C dX8_weighed_125 rfl (by decide) rfl ?_
                  refine pb_iinc (v := l17_5 + 1) (lv' := [(5, .int (l17_5 + 1)), (3, .long x125), (7, .int x91), (6, .int j75_s0), (0, .ref a_t), (1, .int p1), (2, .int p2)]) (pc := 126) C dX8_weighed_126 6 rfl (pb_inc pb_kI_1 rfl) (by decide) rfl ?_
                  refine pb_goto (pc := 129) (tgt := 17) C dX8_weighed_129 (by decide) ?_
                  obtain rfl := Option.some.inj hf
                  refine pb_sub [4, 5, 6, 1, 0] rfl ?_
                  have hl17 := pb_inl hl17
                  exact ih17 x125 (l17_5 + 1) hl17
              · have hf := pb_neg hf hc100
                refine pb_lconst (v := 1) (pc := 103) C dX8_weighed_103 pb_kL_1 ?_
                refine pb_goto (pc := 104) (tgt := 124) C dX8_weighed_104 (by decide) ?_
                refine pb_lmul (pc := 124) C dX8_weighed_124 ?_
                obtain ⟨x125, ex125, hf⟩ := pb_bind hf
                have ex125 := Option.some.inj ex125
                refine pb_topl ex125 ?_
                refine pb_lstore_n (lv' := [(3, .long x125), (7, .int x91), (6, .int j75_s0), (0, .ref a_t), (1, .int p1), (2, .int p2), (5, .int l17_5)]) (pc := 125) C dX8_weighed_125 rfl (by decide) rfl ?_
                refine pb_iinc (v := l17_5 + 1) (lv' := [(5, .int (l17_5 + 1)), (3, .long x125), (7, .int x91), (6, .int j75_s0), (0, .ref a_t), (1, .int p1), (2, .int p2)]) (pc := 126) C dX8_weighed_126 6 rfl (pb_inc pb_kI_1 rfl) (by decide) rfl ?_
                refine pb_goto (pc := 129) (tgt := 17) C dX8_weighed_129 (by decide) ?_
                obtain rfl := Option.some.inj hf
                refine pb_sub [4, 5, 6, 1, 0] rfl ?_
                have hl17 := pb_inl hl17
                exact ih17 x125 (l17_5 + 1) hl17
            refine pb_icmp_ne (pc := 67) (tgt := 74) C dX8_weighed_67 (by decide) (fun hc67 => ?_) (fun hc67 => ?_)
            · have hf := pb_neg hf hc67
              refine pb_iconst (v := 0) (pc := 74) C dX8_weighed_74 pb_kI_0 ?_
              obtain rfl := Option.some.inj hf
              exact J75 0 hk75
            · have hf := pb_pos hf hc67
              refine pb_iconst (v := 1) (pc := 70) C dX8_weighed_70 pb_kI_1 ?_
              refine pb_goto (pc := 71) (tgt := 75) C dX8_weighed_71 (by decide) ?_
              obtain rfl := Option.some.inj hf
              exact J75 1 hk75
          refine pb_icmp_ne (pc := 59) (tgt := 66) C dX8_weighed_59 (by decide) (fun hc59 => ?_) (fun hc59 => ?_)
          · have hf := pb_neg hf hc59
            refine pb_iconst (v := 0) (pc := 66) C dX8_weighed_66 pb_kI_0 ?_
            obtain rfl := Option.some.inj hf
            exact J67 0 hk67
          · have hf := pb_pos hf hc59
            refine pb_iconst (v := 1) (pc := 62) C dX8_weighed_62 pb_kI_1 ?_
            refine pb_goto (pc := 63) (tgt := 67) C dX8_weighed_63 (by decide) ?_
            obtain rfl := Option.some.inj hf
            exact J67 1 hk67
    refine pb_sub [2, 3, 4, 1, 0] rfl ?_
    exact L17 pb_FU j13_s0 0 hz17
  refine pb_if_eq (pc := 5) (tgt := 12) C dX8_weighed_5 (by decide) (fun hc5 => ?_) (fun hc5 => ?_)
  · have hf := pb_pos hf hc5
    refine pb_lconst (v := 0) (pc := 12) C dX8_weighed_12 pb_kL_0 ?_
    obtain rfl := Option.some.inj hf
    exact J13 0 hk13
  · have hf := pb_neg hf hc5
    refine pb_lconst (v := 1) (pc := 8) C dX8_weighed_8 pb_kL_1 ?_
    refine pb_goto (pc := 9) (tgt := 13) C dX8_weighed_9 (by decide) ?_
    obtain rfl := Option.some.inj hf
    exact J13 1 hk13
def rmX8_weighAll : Room := { frames := 3, cells := 0, slots := 0, locals := 74 }
def wwX8_weighAll (cyB cyI cyJ cyZ cyS : ClassId) (a_t a_t_w a_t_isKept a_t_text a_t_refused a_t_numbers a_t_weights : Nat) (c_t_texted : Int32) (c_t_above : Int64) (c_t_below : Int64) (c_t_at : Int32) (c_t_start : Int32) (c_t_isWord : Int32) (c_t_isFigures : Int32) (c_t_all : Int64) (c_t_known : Int32) (c_t_truth : Int32) (c_t_x : Int64) (c_t_h : Int64) (c_t_w : (Nat → Int32)) (c_t_weights : (Nat → Int64)) : va_W := [(a_t, .inr (8, [.ref a_t_w, .ref a_t_isKept, .ref a_t_text, .int c_t_texted, .ref a_t_refused, .long c_t_above, .long c_t_below, .int c_t_at, .int c_t_start, .int c_t_isWord, .int c_t_isFigures, .ref a_t_numbers, .ref a_t_weights, .long c_t_all, .int c_t_known, .int c_t_truth, .long c_t_x, .long c_t_h])), (a_t_w, .inl (cyI, 1508, .inl c_t_w)), (a_t_weights, .inl (cyJ, 128, .inr (.inl c_t_weights)))]
theorem hnX8_weighAll_X8 : ∀ w ∈ wsX80, w ∈ wsX8_weighAll := fun _ h => List.mem_cons_of_mem _ (List.mem_append_right _ h)
set_option maxHeartbeats 4000000 in
set_option maxRecDepth 100000 in
theorem kcX8_weighAll (l : Launch) (dC : Nat → ClassId) (dI : Nat → Nat → Nat) (cyB cyI cyJ cyZ cyS : ClassId) (a_t a_t_w a_t_isKept a_t_text a_t_refused a_t_numbers a_t_weights : Nat) (c_t_texted : Int32) (c_t_above : Int64) (c_t_below : Int64) (c_t_at : Int32) (c_t_start : Int32) (c_t_isWord : Int32) (c_t_isFigures : Int32) (c_t_all : Int64) (c_t_known : Int32) (c_t_truth : Int32) (c_t_x : Int64) (c_t_h : Int64) (c_t_w : (Nat → Int32)) (c_t_weights : (Nat → Int64)) (p1 : Int32) (out : (Int64 × (Nat → Int64))) (hf : fX8_weighAll c_t_all c_t_w c_t_weights p1 = some out) : pb_K l yX8_weighAll wsX8_weighAll rmX8_weighAll (dC, dI) vwCl (pb_tys cyB cyI cyJ cyZ cyS) pb_NW [.ref a_t, .int p1] (wwX8_weighAll cyB cyI cyJ cyZ cyS a_t a_t_w a_t_isKept a_t_text a_t_refused a_t_numbers a_t_weights c_t_texted c_t_above c_t_below c_t_at c_t_start c_t_isWord c_t_isFigures c_t_all c_t_known c_t_truth c_t_x c_t_h c_t_w c_t_weights) (wwX8_weighAll cyB cyI cyJ cyZ cyS a_t a_t_w a_t_isKept a_t_text a_t_refused a_t_numbers a_t_weights c_t_texted c_t_above c_t_below c_t_at c_t_start c_t_isWord c_t_isFigures out.1 c_t_known c_t_truth c_t_x c_t_h c_t_w out.2) none := by
  unfold fX8_weighAll at hf
  refine pb_K.ofV (cc := cX8_weighAll) (maxL := 3) (ret := none) (lv0 := [(0, .ref a_t), (1, .int p1)]) (by decide) rfl (Nat.le_of_ble_eq_true rfl) rfl ?_
  intro p e s m below meth c A C hX hr hlk hA
  refine pb_aload_n (pc := 0) C dX8_weighAll_0 rfl 0 rfl ?_
  refine pb_lconst (v := 0) (pc := 1) C dX8_weighAll_1 pb_kL_0 ?_
  refine pb_put (pc := 2) (ws' := (wwX8_weighAll cyB cyI cyJ cyZ cyS a_t a_t_w a_t_isKept a_t_text a_t_refused a_t_numbers a_t_weights c_t_texted c_t_above c_t_below c_t_at c_t_start c_t_isWord c_t_isFigures 0 c_t_known c_t_truth c_t_x c_t_h c_t_w c_t_weights)) C hnX8_weighAll_X8 tyX8 tyX8_ok nmX8 0 rfl rfl 13 (by decide) (List.mem_of_getElem? (i := 1) rfl) rfl rfl rfl rfl (Nat.le_of_ble_eq_true rfl) rfl dX8_weighAll_2 ?_
  refine pb_iconst (v := 0) (pc := 5) C dX8_weighAll_5 pb_kI_0 ?_
  refine pb_istore_n (lv' := [(2, .int 0), (0, .ref a_t), (1, .int p1)]) (pc := 6) C dX8_weighAll_6 rfl (by decide) rfl ?_
  obtain ⟨z7, hz7, hk7⟩ := pb_bind hf
  have E7 : ∀ (e7_2 : Int32) (e7_c_t_all : Int64) (e7_c_t_weights : (Nat → Int64)), fX8_weighAll_E7 e7_2 e7_c_t_all e7_c_t_weights = some out → pb_V p l e rmX8_weighAll s m (([.ref a_t, .int p1] : List Value).toArray) below meth c 3 (dC, dI) vwCl A 0 0 (pb_MQ below (([.ref a_t, .int p1] : List Value).toArray) s (dC, dI) vwCl (wwX8_weighAll cyB cyI cyJ cyZ cyS a_t a_t_w a_t_isKept a_t_text a_t_refused a_t_numbers a_t_weights c_t_texted c_t_above c_t_below c_t_at c_t_start c_t_isWord c_t_isFigures c_t_all c_t_known c_t_truth c_t_x c_t_h c_t_w c_t_weights) (wwX8_weighAll cyB cyI cyJ cyZ cyS a_t a_t_w a_t_isKept a_t_text a_t_refused a_t_numbers a_t_weights c_t_texted c_t_above c_t_below c_t_at c_t_start c_t_isWord c_t_isFigures out.1 c_t_known c_t_truth c_t_x c_t_h c_t_w out.2) none A) (wwX8_weighAll cyB cyI cyJ cyZ cyS a_t a_t_w a_t_isKept a_t_text a_t_refused a_t_numbers a_t_weights c_t_texted c_t_above c_t_below c_t_at c_t_start c_t_isWord c_t_isFigures e7_c_t_all c_t_known c_t_truth c_t_x c_t_h c_t_w e7_c_t_weights) [] [] 47 := by
    intro e7_2 e7_c_t_all e7_c_t_weights hf
    unfold fX8_weighAll_E7 at hf
    obtain rfl := Option.some.inj hf
    exact pb_vret (pc := 47) C hr hlk hA dX8_weighAll_47
  have L7 : ∀ (n : Nat) (l7_2 : Int32) (l7_c_t_all : Int64) (l7_c_t_weights : (Nat → Int64)), pb_lp (fun y => fX8_weighAll_L7 c_t_w p1 y.1 y.2.1 y.2.2) n (l7_2, l7_c_t_all, l7_c_t_weights) = some z7 → pb_V p l e rmX8_weighAll s m (([.ref a_t, .int p1] : List Value).toArray) below meth c 3 (dC, dI) vwCl A 0 0 (pb_MQ below (([.ref a_t, .int p1] : List Value).toArray) s (dC, dI) vwCl (wwX8_weighAll cyB cyI cyJ cyZ cyS a_t a_t_w a_t_isKept a_t_text a_t_refused a_t_numbers a_t_weights c_t_texted c_t_above c_t_below c_t_at c_t_start c_t_isWord c_t_isFigures c_t_all c_t_known c_t_truth c_t_x c_t_h c_t_w c_t_weights) (wwX8_weighAll cyB cyI cyJ cyZ cyS a_t a_t_w a_t_isKept a_t_text a_t_refused a_t_numbers a_t_weights c_t_texted c_t_above c_t_below c_t_at c_t_start c_t_isWord c_t_isFigures out.1 c_t_known c_t_truth c_t_x c_t_h c_t_w out.2) none A) (wwX8_weighAll cyB cyI cyJ cyZ cyS a_t a_t_w a_t_isKept a_t_text a_t_refused a_t_numbers a_t_weights c_t_texted c_t_above c_t_below c_t_at c_t_start c_t_isWord c_t_isFigures l7_c_t_all c_t_known c_t_truth c_t_x c_t_h c_t_w l7_c_t_weights) [(0, .ref a_t), (1, .int p1), (2, .int l7_2)] [] 7 := by
    intro n
    induction n with
    | zero => intro l7_2 l7_c_t_all l7_c_t_weights hf; exact (pb_lp_zero hf).elim
    | succ n ih7 =>
      intro l7_2 l7_c_t_all l7_c_t_weights hf
      obtain ⟨y7, hf, hl7⟩ := pb_lp_succ hf
      have hf : fX8_weighAll_L7 c_t_w p1 l7_2 l7_c_t_all l7_c_t_weights = some y7 := hf
      unfold fX8_weighAll_L7 at hf
      refine pb_iload_n (pc := 7) C dX8_weighAll_7 rfl 2 rfl ?_
      refine pb_sipush (v := 128) (pc := 8) C dX8_weighAll_8 pb_kS_128 ?_
      refine pb_icmp_ge (pc := 11) (tgt := 47) C dX8_weighAll_11 (by decide) (fun hc11 => ?_) (fun hc11 => ?_)
      · have hf := pb_pos hf hc11
        obtain rfl := Option.some.inj hf
        obtain rfl := pb_esc hl7
        refine pb_sub [] rfl ?_
        exact E7 l7_2 l7_c_t_all l7_c_t_weights hk7
      · have hf := pb_neg hf hc11
        refine pb_aload_n (pc := 14) C dX8_weighAll_14 rfl 0 rfl ?_
        refine pb_get (pc := 15) C hnX8_weighAll_X8 0 rfl rfl 12 (by decide) (List.mem_of_getElem? (i := 2) rfl) rfl rfl dX8_weighAll_15 ?_
        refine pb_iload_n (pc := 18) C dX8_weighAll_18 rfl 2 rfl ?_
        refine pb_aload_n (pc := 19) C dX8_weighAll_19 rfl 0 rfl ?_
        refine pb_iload_n (pc := 20) C dX8_weighAll_20 rfl 2 rfl ?_
        refine pb_iload_n (pc := 21) C dX8_weighAll_21 rfl 1 rfl ?_
        obtain ⟨r22, hr22, hf⟩ := pb_bind hf
        refine pb_callV (pc := 22) (n0 := 3) (ws' := (wwX8_weighAll cyB cyI cyJ cyZ cyS a_t a_t_w a_t_isKept a_t_text a_t_refused a_t_numbers a_t_weights c_t_texted c_t_above c_t_below c_t_at c_t_start c_t_isWord c_t_isFigures l7_c_t_all c_t_known c_t_truth c_t_x c_t_h c_t_w l7_c_t_weights)) (rest := [.int l7_2, .ref a_t_weights]) (st2 := [.long r22, .int l7_2, .ref a_t_weights]) C (kcX8_weighed l dC dI cyB cyI cyJ cyZ cyS a_t a_t_w a_t_isKept a_t_text a_t_refused a_t_numbers a_t_weights c_t_texted c_t_above c_t_below c_t_at c_t_start c_t_isWord c_t_isFigures l7_c_t_all c_t_known c_t_truth c_t_x c_t_h c_t_w l7_2 p1 r22 hr22) pb_NW_b (pb_NW_x hX) (cwV 2 C.1.2.2.2.2 gX8_weighAll_X8_weighed rfl rfl rfl kdV_X8_weighed ⟨Nat.le_of_ble_eq_true rfl, Nat.le_of_ble_eq_true rfl⟩) 0 rfl rfl [0, 1] [2] rfl rfl ⟨⟨_, rfl, rfl⟩, trivial⟩ rfl (by decide +kernel) (adl := [a_t, a_t_w]) rfl rfl rfl rfl rfl (Nat.le_of_ble_eq_true rfl) ⟨Nat.le_refl _, Nat.le_refl _⟩ dX8_weighAll_22 rfl ?_
        obtain ⟨g25, hf⟩ := pb_grd hf
        obtain ⟨u25, eu25, hf⟩ := pb_bind hf
        have eu25 := Option.some.inj eu25
        refine pb_last (pc := 25) (ws' := (wwX8_weighAll cyB cyI cyJ cyZ cyS a_t a_t_w a_t_isKept a_t_text a_t_refused a_t_numbers a_t_weights c_t_texted c_t_above c_t_below c_t_at c_t_start c_t_isWord c_t_isFigures l7_c_t_all c_t_known c_t_truth c_t_x c_t_h c_t_w u25)) C 2 2 rfl rfl g25 eu25 rfl dX8_weighAll_25 ?_
        refine pb_aload_n (pc := 26) C dX8_weighAll_26 rfl 0 rfl ?_
        refine pb_dup (pc := 27) C dX8_weighAll_27 rfl ?_
        refine pb_get (pc := 28) C hnX8_weighAll_X8 0 rfl rfl 13 (by decide) (List.mem_of_getElem? (i := 1) rfl) rfl rfl dX8_weighAll_28 ?_
        refine pb_aload_n (pc := 31) C dX8_weighAll_31 rfl 0 rfl ?_
        refine pb_get (pc := 32) C hnX8_weighAll_X8 0 rfl rfl 12 (by decide) (List.mem_of_getElem? (i := 2) rfl) rfl rfl dX8_weighAll_32 ?_
        refine pb_iload_n (pc := 35) C dX8_weighAll_35 rfl 2 rfl ?_
        obtain ⟨g36, hf⟩ := pb_grd hf
        refine pb_lald (pc := 36) C 2 2 rfl rfl g36 dX8_weighAll_36 ?_
        refine pb_ladd (pc := 37) C dX8_weighAll_37 ?_
        obtain ⟨x38, ex38, hf⟩ := pb_bind hf
        have ex38 := Option.some.inj ex38
        refine pb_topl ex38 ?_
        refine pb_put (pc := 38) (ws' := (wwX8_weighAll cyB cyI cyJ cyZ cyS a_t a_t_w a_t_isKept a_t_text a_t_refused a_t_numbers a_t_weights c_t_texted c_t_above c_t_below c_t_at c_t_start c_t_isWord c_t_isFigures x38 c_t_known c_t_truth c_t_x c_t_h c_t_w u25)) C hnX8_weighAll_X8 tyX8 tyX8_ok nmX8 0 rfl rfl 13 (by decide) (List.mem_of_getElem? (i := 1) rfl) rfl rfl rfl rfl (Nat.le_of_ble_eq_true rfl) rfl dX8_weighAll_38 ?_
        refine pb_iinc (v := l7_2 + 1) (lv' := [(2, .int (l7_2 + 1)), (0, .ref a_t), (1, .int p1)]) (pc := 41) C dX8_weighAll_41 2 rfl (pb_inc pb_kI_1 rfl) (by decide) rfl ?_
        refine pb_goto (pc := 44) (tgt := 7) C dX8_weighAll_44 (by decide) ?_
        obtain rfl := Option.some.inj hf
        refine pb_sub [1, 2, 0] rfl ?_
        have hl7 := pb_inl hl7
        exact ih7 (l7_2 + 1) x38 u25 hl7
  refine pb_sub [1, 2, 0] rfl ?_
  exact L7 pb_FU 0 0 c_t_weights hz7
def rmX8_fits : Room := { frames := 4, cells := 0, slots := 0, locals := 96 }
def wwX8_fits (cyB cyI cyJ cyZ cyS : ClassId) (a_t a_t_w a_t_isKept a_t_text a_t_refused a_t_numbers a_t_weights : Nat) (c_t_texted : Int32) (c_t_above : Int64) (c_t_below : Int64) (c_t_at : Int32) (c_t_start : Int32) (c_t_isWord : Int32) (c_t_isFigures : Int32) (c_t_all : Int64) (c_t_known : Int32) (c_t_truth : Int32) (c_t_x : Int64) (c_t_h : Int64) (c_t_w : (Nat → Int32)) (c_t_weights : (Nat → Int64)) : va_W := [(a_t, .inr (8, [.ref a_t_w, .ref a_t_isKept, .ref a_t_text, .int c_t_texted, .ref a_t_refused, .long c_t_above, .long c_t_below, .int c_t_at, .int c_t_start, .int c_t_isWord, .int c_t_isFigures, .ref a_t_numbers, .ref a_t_weights, .long c_t_all, .int c_t_known, .int c_t_truth, .long c_t_x, .long c_t_h])), (a_t_w, .inl (cyI, 1508, .inl c_t_w)), (a_t_weights, .inl (cyJ, 128, .inr (.inl c_t_weights)))]
theorem hnX8_fits_X8 : ∀ w ∈ wsX80, w ∈ wsX8_fits := fun _ h => List.mem_cons_of_mem _ (List.mem_append_right _ h)
set_option maxHeartbeats 4000000 in
set_option maxRecDepth 100000 in
theorem kcX8_fits (l : Launch) (dC : Nat → ClassId) (dI : Nat → Nat → Nat) (cyB cyI cyJ cyZ cyS : ClassId) (a_t a_t_w a_t_isKept a_t_text a_t_refused a_t_numbers a_t_weights : Nat) (c_t_texted : Int32) (c_t_above : Int64) (c_t_below : Int64) (c_t_at : Int32) (c_t_start : Int32) (c_t_isWord : Int32) (c_t_isFigures : Int32) (c_t_all : Int64) (c_t_known : Int32) (c_t_truth : Int32) (c_t_x : Int64) (c_t_h : Int64) (c_t_w : (Nat → Int32)) (c_t_weights : (Nat → Int64)) (out : (Int32 × Int64 × (Nat → Int64))) (hf : fX8_fits c_t_all c_t_w c_t_weights = some out) : pb_K l yX8_fits wsX8_fits rmX8_fits (dC, dI) vwCl (pb_tys cyB cyI cyJ cyZ cyS) pb_NW [.ref a_t] (wwX8_fits cyB cyI cyJ cyZ cyS a_t a_t_w a_t_isKept a_t_text a_t_refused a_t_numbers a_t_weights c_t_texted c_t_above c_t_below c_t_at c_t_start c_t_isWord c_t_isFigures c_t_all c_t_known c_t_truth c_t_x c_t_h c_t_w c_t_weights) (wwX8_fits cyB cyI cyJ cyZ cyS a_t a_t_w a_t_isKept a_t_text a_t_refused a_t_numbers a_t_weights c_t_texted c_t_above c_t_below c_t_at c_t_start c_t_isWord c_t_isFigures out.2.1 c_t_known c_t_truth c_t_x c_t_h c_t_w out.2.2) (some (.int out.1)) := by
  unfold fX8_fits at hf
  refine pb_K.ofV (cc := cX8_fits) (maxL := 1) (ret := (some .boolean)) (lv0 := [(0, .ref a_t)]) (by decide) rfl (Nat.le_of_ble_eq_true rfl) rfl ?_
  intro p e s m below meth c A C hX hr hlk hA
  refine pb_aload_n (pc := 0) C dX8_fits_0 rfl 0 rfl ?_
  refine pb_iconst (v := 0) (pc := 1) C dX8_fits_1 pb_kI_0 ?_
  obtain ⟨r2, hr2, hf⟩ := pb_bind hf
  refine pb_callV (pc := 2) (n0 := 3) (ws' := (wwX8_fits cyB cyI cyJ cyZ cyS a_t a_t_w a_t_isKept a_t_text a_t_refused a_t_numbers a_t_weights c_t_texted c_t_above c_t_below c_t_at c_t_start c_t_isWord c_t_isFigures r2.1 c_t_known c_t_truth c_t_x c_t_h c_t_w r2.2)) (rest := []) (st2 := []) C (kcX8_weighAll l dC dI cyB cyI cyJ cyZ cyS a_t a_t_w a_t_isKept a_t_text a_t_refused a_t_numbers a_t_weights c_t_texted c_t_above c_t_below c_t_at c_t_start c_t_isWord c_t_isFigures c_t_all c_t_known c_t_truth c_t_x c_t_h c_t_w c_t_weights 0 r2 hr2) pb_NW_b (pb_NW_x hX) (cwV 1 C.1.2.2.2.2 gX8_fits_X8_weighAll rfl rfl rfl kdV_X8_weighAll ⟨Nat.le_of_ble_eq_true rfl, Nat.le_of_ble_eq_true rfl⟩) 0 rfl rfl [0, 1, 2] [] rfl rfl trivial rfl (by decide +kernel) (adl := [a_t, a_t_w, a_t_weights]) rfl rfl rfl rfl rfl (Nat.le_of_ble_eq_true rfl) ⟨Nat.le_refl _, Nat.le_refl _⟩ dX8_fits_2 rfl ?_
  refine pb_aload_n (pc := 5) C dX8_fits_5 rfl 0 rfl ?_
  refine pb_get (pc := 6) C hnX8_fits_X8 0 rfl rfl 13 (by decide) (List.mem_of_getElem? (i := 1) rfl) rfl rfl dX8_fits_6 ?_
  refine pb_lconst (v := 0) (pc := 9) C dX8_fits_9 pb_kL_0 ?_
  refine pb_lif_le (pc := 10) (tgt := 18) C dX8_fits_10 dX8_fits_11 (by decide) (fun hc10 => ?_) (fun hc10 => ?_)
  · have hf := pb_pos hf hc10
    refine pb_iconst (v := 0) (pc := 18) C dX8_fits_18 pb_kI_0 ?_
    obtain rfl := Option.some.inj hf
    exact pb_zret (pc := 19) C hr hlk hA pb_isB0 dX8_fits_19
  · have hf := pb_neg hf hc10
    refine pb_iconst (v := 1) (pc := 14) C dX8_fits_14 pb_kI_1 ?_
    refine pb_goto (pc := 15) (tgt := 19) C dX8_fits_15 (by decide) ?_
    obtain rfl := Option.some.inj hf
    exact pb_zret (pc := 19) C hr hlk hA pb_isB1 dX8_fits_19
def rmX8_possible : Room := { frames := 2, cells := 0, slots := 0, locals := 47 }
def wwX8_possible (cyB cyI cyJ cyZ cyS : ClassId) (a_t a_t_w a_t_isKept a_t_text a_t_refused a_t_numbers a_t_weights : Nat) (c_t_texted : Int32) (c_t_above : Int64) (c_t_below : Int64) (c_t_at : Int32) (c_t_start : Int32) (c_t_isWord : Int32) (c_t_isFigures : Int32) (c_t_all : Int64) (c_t_known : Int32) (c_t_truth : Int32) (c_t_x : Int64) (c_t_h : Int64) (c_t_w : (Nat → Int32)) (c_t_refused : (Nat → Int32)) : va_W := [(a_t, .inr (8, [.ref a_t_w, .ref a_t_isKept, .ref a_t_text, .int c_t_texted, .ref a_t_refused, .long c_t_above, .long c_t_below, .int c_t_at, .int c_t_start, .int c_t_isWord, .int c_t_isFigures, .ref a_t_numbers, .ref a_t_weights, .long c_t_all, .int c_t_known, .int c_t_truth, .long c_t_x, .long c_t_h])), (a_t_w, .inl (cyI, 1508, .inl c_t_w)), (a_t_refused, .inl (cyI, 3, .inl c_t_refused))]
set_option maxHeartbeats 4000000 in
set_option maxRecDepth 100000 in
theorem kcX8_possible (l : Launch) (dC : Nat → ClassId) (dI : Nat → Nat → Nat) (cyB cyI cyJ cyZ cyS : ClassId) (a_t a_t_w a_t_isKept a_t_text a_t_refused a_t_numbers a_t_weights : Nat) (c_t_texted : Int32) (c_t_above : Int64) (c_t_below : Int64) (c_t_at : Int32) (c_t_start : Int32) (c_t_isWord : Int32) (c_t_isFigures : Int32) (c_t_all : Int64) (c_t_known : Int32) (c_t_truth : Int32) (c_t_x : Int64) (c_t_h : Int64) (c_t_w : (Nat → Int32)) (c_t_refused : (Nat → Int32)) (p1 : Int32) (out : (Int32 × (Nat → Int32))) (hf : fX8_possible c_t_w c_t_refused p1 = some out) : pb_K l yX8_possible wsX8_possible rmX8_possible (dC, dI) vwCl (pb_tys cyB cyI cyJ cyZ cyS) pb_NW [.ref a_t, .int p1] (wwX8_possible cyB cyI cyJ cyZ cyS a_t a_t_w a_t_isKept a_t_text a_t_refused a_t_numbers a_t_weights c_t_texted c_t_above c_t_below c_t_at c_t_start c_t_isWord c_t_isFigures c_t_all c_t_known c_t_truth c_t_x c_t_h c_t_w c_t_refused) (wwX8_possible cyB cyI cyJ cyZ cyS a_t a_t_w a_t_isKept a_t_text a_t_refused a_t_numbers a_t_weights c_t_texted c_t_above c_t_below c_t_at c_t_start c_t_isWord c_t_isFigures c_t_all c_t_known c_t_truth c_t_x c_t_h c_t_w out.2) (some (.int out.1)) := by
  unfold fX8_possible at hf
  refine pb_K.ofV (cc := cX8_possible) (maxL := 4) (ret := (some .int)) (lv0 := [(0, .ref a_t), (1, .int p1)]) (by decide) rfl (Nat.le_of_ble_eq_true rfl) rfl ?_
  intro p e s m below meth c A C hX hr hlk hA
  refine pb_iload_n (pc := 0) C dX8_possible_0 rfl 1 rfl ?_
  refine pb_iconst (v := (-1)) (pc := 1) C dX8_possible_1 pb_kI_m1 ?_
  refine pb_icmp_ge (pc := 2) (tgt := 12) C dX8_possible_2 (by decide) (fun hc2 => ?_) (fun hc2 => ?_)
  · have hf := pb_pos hf hc2
    refine pb_iconst (v := 0) (pc := 12) C dX8_possible_12 pb_kI_0 ?_
    refine pb_istore_n (lv' := [(2, .int 0), (0, .ref a_t), (1, .int p1)]) (pc := 13) C dX8_possible_13 rfl (by decide) rfl ?_
    refine pb_iconst (v := 0) (pc := 14) C dX8_possible_14 pb_kI_0 ?_
    refine pb_istore_n (lv' := [(3, .int 0), (2, .int 0), (0, .ref a_t), (1, .int p1)]) (pc := 15) C dX8_possible_15 rfl (by decide) rfl ?_
    obtain ⟨z16, hz16, hk16⟩ := pb_bind hf
    have E16 : ∀ (e16_2 : Int32) (e16_3 : Int32), fX8_possible_E16 c_t_refused p1 e16_2 e16_3 = some out → pb_V p l e rmX8_possible s m (([.ref a_t, .int p1] : List Value).toArray) below meth c 4 (dC, dI) vwCl A 0 0 (pb_MQ below (([.ref a_t, .int p1] : List Value).toArray) s (dC, dI) vwCl (wwX8_possible cyB cyI cyJ cyZ cyS a_t a_t_w a_t_isKept a_t_text a_t_refused a_t_numbers a_t_weights c_t_texted c_t_above c_t_below c_t_at c_t_start c_t_isWord c_t_isFigures c_t_all c_t_known c_t_truth c_t_x c_t_h c_t_w c_t_refused) (wwX8_possible cyB cyI cyJ cyZ cyS a_t a_t_w a_t_isKept a_t_text a_t_refused a_t_numbers a_t_weights c_t_texted c_t_above c_t_below c_t_at c_t_start c_t_isWord c_t_isFigures c_t_all c_t_known c_t_truth c_t_x c_t_h c_t_w out.2) (some (.int out.1)) A) (wwX8_possible cyB cyI cyJ cyZ cyS a_t a_t_w a_t_isKept a_t_text a_t_refused a_t_numbers a_t_weights c_t_texted c_t_above c_t_below c_t_at c_t_start c_t_isWord c_t_isFigures c_t_all c_t_known c_t_truth c_t_x c_t_h c_t_w c_t_refused) [(1, .int p1), (2, .int e16_2)] [] 47 := by
      intro e16_2 e16_3 hf
      unfold fX8_possible_E16 at hf
      refine pb_iload_n (pc := 47) C dX8_possible_47 rfl 0 rfl ?_
      refine pb_iconst (v := (-1)) (pc := 48) C dX8_possible_48 pb_kI_m1 ?_
      refine pb_icmp_ne (pc := 49) (tgt := 56) C dX8_possible_49 (by decide) (fun hc49 => ?_) (fun hc49 => ?_)
      · have hf := pb_neg hf hc49
        refine pb_bipush (v := (-5)) (pc := 56) C dX8_possible_56 pb_kB_m5 ?_
        obtain rfl := Option.some.inj hf
        exact pb_iret (pc := 58) C hr hlk hA dX8_possible_58
      · have hf := pb_pos hf hc49
        refine pb_iload_n (pc := 52) C dX8_possible_52 rfl 1 rfl ?_
        refine pb_goto (pc := 53) (tgt := 58) C dX8_possible_53 (by decide) ?_
        obtain rfl := Option.some.inj hf
        exact pb_iret (pc := 58) C hr hlk hA dX8_possible_58
    have L16 : ∀ (n : Nat) (l16_2 : Int32) (l16_3 : Int32), pb_lp (fun y => fX8_possible_L16 c_t_w c_t_refused p1 y.1 y.2) n (l16_2, l16_3) = some z16 → pb_V p l e rmX8_possible s m (([.ref a_t, .int p1] : List Value).toArray) below meth c 4 (dC, dI) vwCl A 0 0 (pb_MQ below (([.ref a_t, .int p1] : List Value).toArray) s (dC, dI) vwCl (wwX8_possible cyB cyI cyJ cyZ cyS a_t a_t_w a_t_isKept a_t_text a_t_refused a_t_numbers a_t_weights c_t_texted c_t_above c_t_below c_t_at c_t_start c_t_isWord c_t_isFigures c_t_all c_t_known c_t_truth c_t_x c_t_h c_t_w c_t_refused) (wwX8_possible cyB cyI cyJ cyZ cyS a_t a_t_w a_t_isKept a_t_text a_t_refused a_t_numbers a_t_weights c_t_texted c_t_above c_t_below c_t_at c_t_start c_t_isWord c_t_isFigures c_t_all c_t_known c_t_truth c_t_x c_t_h c_t_w out.2) (some (.int out.1)) A) (wwX8_possible cyB cyI cyJ cyZ cyS a_t a_t_w a_t_isKept a_t_text a_t_refused a_t_numbers a_t_weights c_t_texted c_t_above c_t_below c_t_at c_t_start c_t_isWord c_t_isFigures c_t_all c_t_known c_t_truth c_t_x c_t_h c_t_w c_t_refused) [(0, .ref a_t), (1, .int p1), (2, .int l16_2), (3, .int l16_3)] [] 16 := by
      intro n
      induction n with
      | zero => intro l16_2 l16_3 hf; exact (pb_lp_zero hf).elim
      | succ n ih16 =>
        intro l16_2 l16_3 hf
        obtain ⟨y16, hf, hl16⟩ := pb_lp_succ hf
        have hf : fX8_possible_L16 c_t_w c_t_refused p1 l16_2 l16_3 = some y16 := hf
        unfold fX8_possible_L16 at hf
        refine pb_iload_n (pc := 16) C dX8_possible_16 rfl 3 rfl ?_
        refine pb_sipush (v := 128) (pc := 17) C dX8_possible_17 pb_kS_128 ?_
        refine pb_icmp_ge (pc := 20) (tgt := 47) C dX8_possible_20 (by decide) (fun hc20 => ?_) (fun hc20 => ?_)
        · have hf := pb_pos hf hc20
          obtain rfl := Option.some.inj hf
          obtain rfl := pb_esc hl16
          refine pb_sub [1, 2] rfl ?_
          have hk16 := pb_inl hk16
          exact E16 l16_2 l16_3 hk16
        · have hf := pb_neg hf hc20
          refine pb_aload_n (pc := 23) C dX8_possible_23 rfl 0 rfl ?_
          refine pb_iload_n (pc := 24) C dX8_possible_24 rfl 3 rfl ?_
          obtain ⟨r25, hr25, hf⟩ := pb_bind hf
          refine pb_callV (pc := 25) (n0 := 3) (ws' := (wwX8_possible cyB cyI cyJ cyZ cyS a_t a_t_w a_t_isKept a_t_text a_t_refused a_t_numbers a_t_weights c_t_texted c_t_above c_t_below c_t_at c_t_start c_t_isWord c_t_isFigures c_t_all c_t_known c_t_truth c_t_x c_t_h c_t_w c_t_refused)) (rest := []) (st2 := [.int r25]) C (kcX8_isPossible l dC dI cyB cyI cyJ cyZ cyS a_t a_t_w a_t_isKept a_t_text a_t_refused a_t_numbers a_t_weights c_t_texted c_t_above c_t_below c_t_at c_t_start c_t_isWord c_t_isFigures c_t_all c_t_known c_t_truth c_t_x c_t_h c_t_w l16_3 r25 hr25) pb_NW_b (pb_NW_x hX) (cwV 1 C.1.2.2.2.2 gX8_possible_X8_isPossible rfl rfl rfl kdV_X8_isPossible ⟨Nat.le_of_ble_eq_true rfl, Nat.le_of_ble_eq_true rfl⟩) 0 rfl rfl [0, 1] [2] rfl rfl ⟨⟨_, rfl, rfl⟩, trivial⟩ rfl (by decide +kernel) (adl := [a_t, a_t_w]) rfl rfl rfl rfl rfl (Nat.le_of_ble_eq_true rfl) ⟨Nat.le_refl _, Nat.le_refl _⟩ dX8_possible_25 rfl ?_
          refine pb_if_eq (pc := 28) (tgt := 41) C dX8_possible_28 (by decide) (fun hc28 => ?_) (fun hc28 => ?_)
          · have hf := pb_pos hf hc28
            refine pb_iinc (v := l16_3 + 1) (lv' := [(3, .int (l16_3 + 1)), (0, .ref a_t), (1, .int p1), (2, .int l16_2)]) (pc := 41) C dX8_possible_41 3 rfl (pb_inc pb_kI_1 rfl) (by decide) rfl ?_
            refine pb_goto (pc := 44) (tgt := 16) C dX8_possible_44 (by decide) ?_
            obtain rfl := Option.some.inj hf
            refine pb_sub [1, 2, 3, 0] rfl ?_
            have hl16 := pb_inl hl16
            exact ih16 l16_2 (l16_3 + 1) hl16
          · have hf := pb_neg hf hc28
            refine pb_iload_n (pc := 31) C dX8_possible_31 rfl 2 rfl ?_
            refine pb_iload_n (pc := 32) C dX8_possible_32 rfl 1 rfl ?_
            refine pb_icmp_ne (pc := 33) (tgt := 38) C dX8_possible_33 (by decide) (fun hc33 => ?_) (fun hc33 => ?_)
            · have hf := pb_neg hf hc33
              refine pb_iinc (v := l16_2 + 1) (lv' := [(2, .int (l16_2 + 1)), (0, .ref a_t), (1, .int p1), (3, .int l16_3)]) (pc := 38) C dX8_possible_38 2 rfl (pb_inc pb_kI_1 rfl) (by decide) rfl ?_
              refine pb_iinc (v := l16_3 + 1) (lv' := [(3, .int (l16_3 + 1)), (2, .int (l16_2 + 1)), (0, .ref a_t), (1, .int p1)]) (pc := 41) C dX8_possible_41 3 rfl (pb_inc pb_kI_1 rfl) (by decide) rfl ?_
              refine pb_goto (pc := 44) (tgt := 16) C dX8_possible_44 (by decide) ?_
              obtain rfl := Option.some.inj hf
              refine pb_sub [2, 3, 1, 0] rfl ?_
              have hl16 := pb_inl hl16
              exact ih16 (l16_2 + 1) (l16_3 + 1) hl16
            · have hf := pb_pos hf hc33
              refine pb_iload_n (pc := 36) C dX8_possible_36 rfl 3 rfl ?_
              obtain rfl := Option.some.inj hf
              obtain rfl := pb_esc hl16
              obtain rfl := pb_esc hk16
              exact pb_iret (pc := 37) C hr hlk hA dX8_possible_37
    refine pb_sub [2, 3, 1, 0] rfl ?_
    exact L16 pb_FU 0 0 hz16
  · have hf := pb_neg hf hc2
    refine pb_aload_n (pc := 5) C dX8_possible_5 rfl 0 rfl ?_
    refine pb_bipush (v := (-10)) (pc := 6) C dX8_possible_6 pb_kB_m10 ?_
    obtain ⟨r8, hr8, hf⟩ := pb_bind hf
    refine pb_callV (pc := 8) (n0 := 3) (ws' := (wwX8_possible cyB cyI cyJ cyZ cyS a_t a_t_w a_t_isKept a_t_text a_t_refused a_t_numbers a_t_weights c_t_texted c_t_above c_t_below c_t_at c_t_start c_t_isWord c_t_isFigures c_t_all c_t_known c_t_truth c_t_x c_t_h c_t_w r8.2)) (rest := []) (st2 := [.int r8.1]) C (kcX8_badAs l dC dI cyB cyI cyJ cyZ cyS a_t a_t_w a_t_isKept a_t_text a_t_refused a_t_numbers a_t_weights c_t_texted c_t_above c_t_below c_t_at c_t_start c_t_isWord c_t_isFigures c_t_all c_t_known c_t_truth c_t_x c_t_h c_t_refused (-10) r8 hr8) pb_NW_b (pb_NW_x hX) (cwV 1 C.1.2.2.2.2 gX8_possible_X8_badAs rfl rfl rfl kdV_X8_badAs ⟨Nat.le_of_ble_eq_true rfl, Nat.le_of_ble_eq_true rfl⟩) 0 rfl rfl [0, 2] [1] rfl rfl ⟨⟨_, rfl, rfl⟩, trivial⟩ rfl (by decide +kernel) (adl := [a_t, a_t_refused]) rfl rfl rfl rfl rfl (Nat.le_of_ble_eq_true rfl) ⟨Nat.le_refl _, Nat.le_refl _⟩ dX8_possible_8 rfl ?_
    obtain rfl := Option.some.inj hf
    exact pb_iret (pc := 11) C hr hlk hA dX8_possible_11
def rmX8_weighs : Room := { frames := 3, cells := 0, slots := 0, locals := 74 }
def wwX8_weighs (cyB cyI cyJ cyZ cyS : ClassId) (a_t a_t_w a_t_isKept a_t_text a_t_refused a_t_numbers a_t_weights : Nat) (c_t_texted : Int32) (c_t_above : Int64) (c_t_below : Int64) (c_t_at : Int32) (c_t_start : Int32) (c_t_isWord : Int32) (c_t_isFigures : Int32) (c_t_all : Int64) (c_t_known : Int32) (c_t_truth : Int32) (c_t_x : Int64) (c_t_h : Int64) (c_t_w : (Nat → Int32)) (c_t_refused : (Nat → Int32)) : va_W := [(a_t, .inr (8, [.ref a_t_w, .ref a_t_isKept, .ref a_t_text, .int c_t_texted, .ref a_t_refused, .long c_t_above, .long c_t_below, .int c_t_at, .int c_t_start, .int c_t_isWord, .int c_t_isFigures, .ref a_t_numbers, .ref a_t_weights, .long c_t_all, .int c_t_known, .int c_t_truth, .long c_t_x, .long c_t_h])), (a_t_w, .inl (cyI, 1508, .inl c_t_w)), (a_t_refused, .inl (cyI, 3, .inl c_t_refused))]
set_option maxHeartbeats 4000000 in
set_option maxRecDepth 100000 in
theorem kcX8_weighs (l : Launch) (dC : Nat → ClassId) (dI : Nat → Nat → Nat) (cyB cyI cyJ cyZ cyS : ClassId) (a_t a_t_w a_t_isKept a_t_text a_t_refused a_t_numbers a_t_weights : Nat) (c_t_texted : Int32) (c_t_above : Int64) (c_t_below : Int64) (c_t_at : Int32) (c_t_start : Int32) (c_t_isWord : Int32) (c_t_isFigures : Int32) (c_t_all : Int64) (c_t_known : Int32) (c_t_truth : Int32) (c_t_x : Int64) (c_t_h : Int64) (c_t_w : (Nat → Int32)) (c_t_refused : (Nat → Int32)) (p1 : Int32) (out : (Int64 × (Nat → Int32))) (hf : fX8_weighs c_t_w c_t_refused p1 = some out) : pb_K l yX8_weighs wsX8_weighs rmX8_weighs (dC, dI) vwCl (pb_tys cyB cyI cyJ cyZ cyS) pb_NW [.ref a_t, .int p1] (wwX8_weighs cyB cyI cyJ cyZ cyS a_t a_t_w a_t_isKept a_t_text a_t_refused a_t_numbers a_t_weights c_t_texted c_t_above c_t_below c_t_at c_t_start c_t_isWord c_t_isFigures c_t_all c_t_known c_t_truth c_t_x c_t_h c_t_w c_t_refused) (wwX8_weighs cyB cyI cyJ cyZ cyS a_t a_t_w a_t_isKept a_t_text a_t_refused a_t_numbers a_t_weights c_t_texted c_t_above c_t_below c_t_at c_t_start c_t_isWord c_t_isFigures c_t_all c_t_known c_t_truth c_t_x c_t_h c_t_w out.2) (some (.long out.1)) := by
  unfold fX8_weighs at hf
  refine pb_K.ofV (cc := cX8_weighs) (maxL := 2) (ret := (some .long)) (lv0 := [(0, .ref a_t), (1, .int p1)]) (by decide) rfl (Nat.le_of_ble_eq_true rfl) rfl ?_
  intro p e s m below meth c A C hX hr hlk hA
  refine pb_iload_n (pc := 0) C dX8_weighs_0 rfl 1 rfl ?_
  obtain ⟨r1, hr1, hf⟩ := pb_bind hf
  refine pb_callS (pc := 1) (n0 := 3) (ws' := (wwX8_weighs cyB cyI cyJ cyZ cyS a_t a_t_w a_t_isKept a_t_text a_t_refused a_t_numbers a_t_weights c_t_texted c_t_above c_t_below c_t_at c_t_start c_t_isWord c_t_isFigures c_t_all c_t_known c_t_truth c_t_x c_t_h c_t_w c_t_refused)) (rest := []) (st2 := [.int r1]) C (kcX8_isPast l dC dI cyB cyI cyJ cyZ cyS p1 r1 hr1) pb_NW_b (pb_NW_x hX) (va_cwS 1 C.1.2.2.2.2 gX8_weighs_X8_isPast rfl rfl rfl kdS_X8_isPast ⟨Nat.le_of_ble_eq_true rfl, Nat.le_of_ble_eq_true rfl⟩) [] [0, 1, 2] rfl rfl ⟨⟨_, rfl, rfl⟩, ⟨⟨_, rfl, rfl⟩, ⟨⟨_, rfl, rfl⟩, trivial⟩⟩⟩ rfl (by decide +kernel) (adl := []) rfl rfl rfl rfl rfl (Nat.le_of_ble_eq_true rfl) ⟨Nat.le_refl _, Nat.le_refl _⟩ dX8_weighs_1 rfl ?_
  refine pb_if_eq (pc := 4) (tgt := 16) C dX8_weighs_4 (by decide) (fun hc4 => ?_) (fun hc4 => ?_)
  · have hf := pb_pos hf hc4
    refine pb_aload_n (pc := 16) C dX8_weighs_16 rfl 0 rfl ?_
    refine pb_bipush (v := (-10)) (pc := 17) C dX8_weighs_17 pb_kB_m10 ?_
    obtain ⟨r19, hr19, hf⟩ := pb_bind hf
    refine pb_callV (pc := 19) (n0 := 3) (ws' := (wwX8_weighs cyB cyI cyJ cyZ cyS a_t a_t_w a_t_isKept a_t_text a_t_refused a_t_numbers a_t_weights c_t_texted c_t_above c_t_below c_t_at c_t_start c_t_isWord c_t_isFigures c_t_all c_t_known c_t_truth c_t_x c_t_h c_t_w r19.2)) (rest := []) (st2 := [.int r19.1]) C (kcX8_badAs l dC dI cyB cyI cyJ cyZ cyS a_t a_t_w a_t_isKept a_t_text a_t_refused a_t_numbers a_t_weights c_t_texted c_t_above c_t_below c_t_at c_t_start c_t_isWord c_t_isFigures c_t_all c_t_known c_t_truth c_t_x c_t_h c_t_refused (-10) r19 hr19) pb_NW_b (pb_NW_x hX) (cwV 1 C.1.2.2.2.2 gX8_weighs_X8_badAs rfl rfl rfl kdV_X8_badAs ⟨Nat.le_of_ble_eq_true rfl, Nat.le_of_ble_eq_true rfl⟩) 0 rfl rfl [0, 2] [1] rfl rfl ⟨⟨_, rfl, rfl⟩, trivial⟩ rfl (by decide +kernel) (adl := [a_t, a_t_refused]) rfl rfl rfl rfl rfl (Nat.le_of_ble_eq_true rfl) ⟨Nat.le_refl _, Nat.le_refl _⟩ dX8_weighs_19 rfl ?_
    refine pb_i2l (pc := 22) C dX8_weighs_22 ?_
    obtain rfl := Option.some.inj hf
    exact pb_lret (pc := 23) C hr hlk hA dX8_weighs_23
  · have hf := pb_neg hf hc4
    refine pb_aload_n (pc := 7) C dX8_weighs_7 rfl 0 rfl ?_
    refine pb_iload_n (pc := 8) C dX8_weighs_8 rfl 1 rfl ?_
    refine pb_iconst (v := 0) (pc := 9) C dX8_weighs_9 pb_kI_0 ?_
    obtain ⟨r10, hr10, hf⟩ := pb_bind hf
    refine pb_callV (pc := 10) (n0 := 3) (ws' := (wwX8_weighs cyB cyI cyJ cyZ cyS a_t a_t_w a_t_isKept a_t_text a_t_refused a_t_numbers a_t_weights c_t_texted c_t_above c_t_below c_t_at c_t_start c_t_isWord c_t_isFigures c_t_all c_t_known c_t_truth c_t_x c_t_h c_t_w c_t_refused)) (rest := []) (st2 := [.long r10]) C (kcX8_weighed l dC dI cyB cyI cyJ cyZ cyS a_t a_t_w a_t_isKept a_t_text a_t_refused a_t_numbers a_t_weights c_t_texted c_t_above c_t_below c_t_at c_t_start c_t_isWord c_t_isFigures c_t_all c_t_known c_t_truth c_t_x c_t_h c_t_w p1 0 r10 hr10) pb_NW_b (pb_NW_x hX) (cwV 2 C.1.2.2.2.2 gX8_weighs_X8_weighed rfl rfl rfl kdV_X8_weighed ⟨Nat.le_of_ble_eq_true rfl, Nat.le_of_ble_eq_true rfl⟩) 0 rfl rfl [0, 1] [2] rfl rfl ⟨⟨_, rfl, rfl⟩, trivial⟩ rfl (by decide +kernel) (adl := [a_t, a_t_w]) rfl rfl rfl rfl rfl (Nat.le_of_ble_eq_true rfl) ⟨Nat.le_refl _, Nat.le_refl _⟩ dX8_weighs_10 rfl ?_
    refine pb_goto (pc := 13) (tgt := 23) C dX8_weighs_13 (by decide) ?_
    obtain rfl := Option.some.inj hf
    exact pb_lret (pc := 23) C hr hlk hA dX8_weighs_23
def rmX8_heaviest : Room := { frames := 5, cells := 0, slots := 0, locals := 116 }
def wwX8_heaviest (cyB cyI cyJ cyZ cyS : ClassId) (a_t a_t_w a_t_isKept a_t_text a_t_refused a_t_numbers a_t_weights : Nat) (c_t_texted : Int32) (c_t_above : Int64) (c_t_below : Int64) (c_t_at : Int32) (c_t_start : Int32) (c_t_isWord : Int32) (c_t_isFigures : Int32) (c_t_all : Int64) (c_t_known : Int32) (c_t_truth : Int32) (c_t_x : Int64) (c_t_h : Int64) (c_t_w : (Nat → Int32)) (c_t_weights : (Nat → Int64)) : va_W := [(a_t, .inr (8, [.ref a_t_w, .ref a_t_isKept, .ref a_t_text, .int c_t_texted, .ref a_t_refused, .long c_t_above, .long c_t_below, .int c_t_at, .int c_t_start, .int c_t_isWord, .int c_t_isFigures, .ref a_t_numbers, .ref a_t_weights, .long c_t_all, .int c_t_known, .int c_t_truth, .long c_t_x, .long c_t_h])), (a_t_w, .inl (cyI, 1508, .inl c_t_w)), (a_t_weights, .inl (cyJ, 128, .inr (.inl c_t_weights)))]
theorem hnX8_heaviest_X8 : ∀ w ∈ wsX80, w ∈ wsX8_heaviest := fun _ h => List.mem_cons_of_mem _ (List.mem_append_right _ h)
set_option maxHeartbeats 4000000 in
set_option maxRecDepth 100000 in
theorem kcX8_heaviest (l : Launch) (dC : Nat → ClassId) (dI : Nat → Nat → Nat) (cyB cyI cyJ cyZ cyS : ClassId) (a_t a_t_w a_t_isKept a_t_text a_t_refused a_t_numbers a_t_weights : Nat) (c_t_texted : Int32) (c_t_above : Int64) (c_t_below : Int64) (c_t_at : Int32) (c_t_start : Int32) (c_t_isWord : Int32) (c_t_isFigures : Int32) (c_t_all : Int64) (c_t_known : Int32) (c_t_truth : Int32) (c_t_x : Int64) (c_t_h : Int64) (c_t_w : (Nat → Int32)) (c_t_weights : (Nat → Int64)) (out : (Int32 × Int64 × (Nat → Int64))) (hf : fX8_heaviest c_t_all c_t_w c_t_weights = some out) : pb_K l yX8_heaviest wsX8_heaviest rmX8_heaviest (dC, dI) vwCl (pb_tys cyB cyI cyJ cyZ cyS) pb_NW [.ref a_t] (wwX8_heaviest cyB cyI cyJ cyZ cyS a_t a_t_w a_t_isKept a_t_text a_t_refused a_t_numbers a_t_weights c_t_texted c_t_above c_t_below c_t_at c_t_start c_t_isWord c_t_isFigures c_t_all c_t_known c_t_truth c_t_x c_t_h c_t_w c_t_weights) (wwX8_heaviest cyB cyI cyJ cyZ cyS a_t a_t_w a_t_isKept a_t_text a_t_refused a_t_numbers a_t_weights c_t_texted c_t_above c_t_below c_t_at c_t_start c_t_isWord c_t_isFigures out.2.1 c_t_known c_t_truth c_t_x c_t_h c_t_w out.2.2) (some (.int out.1)) := by
  unfold fX8_heaviest at hf
  refine pb_K.ofV (cc := cX8_heaviest) (maxL := 3) (ret := (some .int)) (lv0 := [(0, .ref a_t)]) (by decide) rfl (Nat.le_of_ble_eq_true rfl) rfl ?_
  intro p e s m below meth c A C hX hr hlk hA
  refine pb_aload_n (pc := 0) C dX8_heaviest_0 rfl 0 rfl ?_
  obtain ⟨r1, hr1, hf⟩ := pb_bind hf
  refine pb_callV (pc := 1) (n0 := 3) (ws' := (wwX8_heaviest cyB cyI cyJ cyZ cyS a_t a_t_w a_t_isKept a_t_text a_t_refused a_t_numbers a_t_weights c_t_texted c_t_above c_t_below c_t_at c_t_start c_t_isWord c_t_isFigures r1.2.1 c_t_known c_t_truth c_t_x c_t_h c_t_w r1.2.2)) (rest := []) (st2 := [.int r1.1]) C (kcX8_fits l dC dI cyB cyI cyJ cyZ cyS a_t a_t_w a_t_isKept a_t_text a_t_refused a_t_numbers a_t_weights c_t_texted c_t_above c_t_below c_t_at c_t_start c_t_isWord c_t_isFigures c_t_all c_t_known c_t_truth c_t_x c_t_h c_t_w c_t_weights r1 hr1) pb_NW_b (pb_NW_x hX) (cwV 0 C.1.2.2.2.2 gX8_heaviest_X8_fits rfl rfl rfl kdV_X8_fits ⟨Nat.le_of_ble_eq_true rfl, Nat.le_of_ble_eq_true rfl⟩) 0 rfl rfl [0, 1, 2] [] rfl rfl trivial rfl (by decide +kernel) (adl := [a_t, a_t_w, a_t_weights]) rfl rfl rfl rfl rfl (Nat.le_of_ble_eq_true rfl) ⟨Nat.le_refl _, Nat.le_refl _⟩ dX8_heaviest_1 rfl ?_
  refine pb_if_ne (pc := 4) (tgt := 9) C dX8_heaviest_4 (by decide) (fun hc4 => ?_) (fun hc4 => ?_)
  · have hf := pb_neg hf hc4
    refine pb_iconst (v := 0) (pc := 9) C dX8_heaviest_9 pb_kI_0 ?_
    refine pb_istore_n (lv' := [(1, .int 0), (0, .ref a_t)]) (pc := 10) C dX8_heaviest_10 rfl (by decide) rfl ?_
    refine pb_iconst (v := 1) (pc := 11) C dX8_heaviest_11 pb_kI_1 ?_
    refine pb_istore_n (lv' := [(2, .int 1), (1, .int 0), (0, .ref a_t)]) (pc := 12) C dX8_heaviest_12 rfl (by decide) rfl ?_
    obtain ⟨z13, hz13, hk13⟩ := pb_bind hf
    have E13 : ∀ (e13_1 : Int32) (e13_2 : Int32), fX8_heaviest_E13 r1 e13_1 e13_2 = some out → pb_V p l e rmX8_heaviest s m (([.ref a_t] : List Value).toArray) below meth c 3 (dC, dI) vwCl A 0 0 (pb_MQ below (([.ref a_t] : List Value).toArray) s (dC, dI) vwCl (wwX8_heaviest cyB cyI cyJ cyZ cyS a_t a_t_w a_t_isKept a_t_text a_t_refused a_t_numbers a_t_weights c_t_texted c_t_above c_t_below c_t_at c_t_start c_t_isWord c_t_isFigures c_t_all c_t_known c_t_truth c_t_x c_t_h c_t_w c_t_weights) (wwX8_heaviest cyB cyI cyJ cyZ cyS a_t a_t_w a_t_isKept a_t_text a_t_refused a_t_numbers a_t_weights c_t_texted c_t_above c_t_below c_t_at c_t_start c_t_isWord c_t_isFigures out.2.1 c_t_known c_t_truth c_t_x c_t_h c_t_w out.2.2) (some (.int out.1)) A) (wwX8_heaviest cyB cyI cyJ cyZ cyS a_t a_t_w a_t_isKept a_t_text a_t_refused a_t_numbers a_t_weights c_t_texted c_t_above c_t_below c_t_at c_t_start c_t_isWord c_t_isFigures r1.2.1 c_t_known c_t_truth c_t_x c_t_h c_t_w r1.2.2) [(1, .int e13_1)] [] 48 := by
      intro e13_1 e13_2 hf
      unfold fX8_heaviest_E13 at hf
      refine pb_iload_n (pc := 48) C dX8_heaviest_48 rfl 0 rfl ?_
      obtain rfl := Option.some.inj hf
      exact pb_iret (pc := 49) C hr hlk hA dX8_heaviest_49
    have L13 : ∀ (n : Nat) (l13_1 : Int32) (l13_2 : Int32), pb_lp (fun y => fX8_heaviest_L13 r1 y.1 y.2) n (l13_1, l13_2) = some z13 → pb_V p l e rmX8_heaviest s m (([.ref a_t] : List Value).toArray) below meth c 3 (dC, dI) vwCl A 0 0 (pb_MQ below (([.ref a_t] : List Value).toArray) s (dC, dI) vwCl (wwX8_heaviest cyB cyI cyJ cyZ cyS a_t a_t_w a_t_isKept a_t_text a_t_refused a_t_numbers a_t_weights c_t_texted c_t_above c_t_below c_t_at c_t_start c_t_isWord c_t_isFigures c_t_all c_t_known c_t_truth c_t_x c_t_h c_t_w c_t_weights) (wwX8_heaviest cyB cyI cyJ cyZ cyS a_t a_t_w a_t_isKept a_t_text a_t_refused a_t_numbers a_t_weights c_t_texted c_t_above c_t_below c_t_at c_t_start c_t_isWord c_t_isFigures out.2.1 c_t_known c_t_truth c_t_x c_t_h c_t_w out.2.2) (some (.int out.1)) A) (wwX8_heaviest cyB cyI cyJ cyZ cyS a_t a_t_w a_t_isKept a_t_text a_t_refused a_t_numbers a_t_weights c_t_texted c_t_above c_t_below c_t_at c_t_start c_t_isWord c_t_isFigures r1.2.1 c_t_known c_t_truth c_t_x c_t_h c_t_w r1.2.2) [(0, .ref a_t), (1, .int l13_1), (2, .int l13_2)] [] 13 := by
      intro n
      induction n with
      | zero => intro l13_1 l13_2 hf; exact (pb_lp_zero hf).elim
      | succ n ih13 =>
        intro l13_1 l13_2 hf
        obtain ⟨y13, hf, hl13⟩ := pb_lp_succ hf
        have hf : fX8_heaviest_L13 r1 l13_1 l13_2 = some y13 := hf
        unfold fX8_heaviest_L13 at hf
        refine pb_iload_n (pc := 13) C dX8_heaviest_13 rfl 2 rfl ?_
        refine pb_sipush (v := 128) (pc := 14) C dX8_heaviest_14 pb_kS_128 ?_
        refine pb_icmp_ge (pc := 17) (tgt := 48) C dX8_heaviest_17 (by decide) (fun hc17 => ?_) (fun hc17 => ?_)
        · have hf := pb_pos hf hc17
          obtain rfl := Option.some.inj hf
          obtain rfl := pb_esc hl13
          refine pb_sub [1] rfl ?_
          exact E13 l13_1 l13_2 hk13
        · have hf := pb_neg hf hc17
          refine pb_aload_n (pc := 20) C dX8_heaviest_20 rfl 0 rfl ?_
          refine pb_get (pc := 21) C hnX8_heaviest_X8 0 rfl rfl 12 (by decide) (List.mem_of_getElem? (i := 1) rfl) rfl rfl dX8_heaviest_21 ?_
          refine pb_iload_n (pc := 24) C dX8_heaviest_24 rfl 2 rfl ?_
          obtain ⟨g25, hf⟩ := pb_grd hf
          refine pb_lald (pc := 25) C 2 2 rfl rfl g25 dX8_heaviest_25 ?_
          refine pb_aload_n (pc := 26) C dX8_heaviest_26 rfl 0 rfl ?_
          refine pb_get (pc := 27) C hnX8_heaviest_X8 0 rfl rfl 12 (by decide) (List.mem_of_getElem? (i := 1) rfl) rfl rfl dX8_heaviest_27 ?_
          refine pb_iload_n (pc := 30) C dX8_heaviest_30 rfl 1 rfl ?_
          obtain ⟨g31, hf⟩ := pb_grd hf
          refine pb_lald (pc := 31) C 2 2 rfl rfl g31 dX8_heaviest_31 ?_
          refine pb_lif_le (pc := 32) (tgt := 40) C dX8_heaviest_32 dX8_heaviest_33 (by decide) (fun hc32 => ?_) (fun hc32 => ?_)
          · have hf := pb_pos hf hc32
            refine pb_iload_n (pc := 40) C dX8_heaviest_40 rfl 1 rfl ?_
            refine pb_istore_n (lv' := [(1, .int l13_1), (0, .ref a_t), (2, .int l13_2)]) (pc := 41) C dX8_heaviest_41 rfl (by decide) rfl ?_
            refine pb_iinc (v := l13_2 + 1) (lv' := [(2, .int (l13_2 + 1)), (1, .int l13_1), (0, .ref a_t)]) (pc := 42) C dX8_heaviest_42 2 rfl (pb_inc pb_kI_1 rfl) (by decide) rfl ?_
            refine pb_goto (pc := 45) (tgt := 13) C dX8_heaviest_45 (by decide) ?_
            obtain rfl := Option.some.inj hf
            refine pb_sub [2, 1, 0] rfl ?_
            have hl13 := pb_inl hl13
            exact ih13 l13_1 (l13_2 + 1) hl13
          · have hf := pb_neg hf hc32
            refine pb_iload_n (pc := 36) C dX8_heaviest_36 rfl 2 rfl ?_
            refine pb_goto (pc := 37) (tgt := 41) C dX8_heaviest_37 (by decide) ?_
            refine pb_istore_n (lv' := [(1, .int l13_2), (0, .ref a_t), (2, .int l13_2)]) (pc := 41) C dX8_heaviest_41 rfl (by decide) rfl ?_
            refine pb_iinc (v := l13_2 + 1) (lv' := [(2, .int (l13_2 + 1)), (1, .int l13_2), (0, .ref a_t)]) (pc := 42) C dX8_heaviest_42 2 rfl (pb_inc pb_kI_1 rfl) (by decide) rfl ?_
            refine pb_goto (pc := 45) (tgt := 13) C dX8_heaviest_45 (by decide) ?_
            obtain rfl := Option.some.inj hf
            refine pb_sub [2, 1, 0] rfl ?_
            have hl13 := pb_inl hl13
            exact ih13 l13_2 (l13_2 + 1) hl13
    refine pb_sub [2, 1, 0] rfl ?_
    exact L13 pb_FU 0 1 hz13
  · have hf := pb_pos hf hc4
    refine pb_iconst (v := (-1)) (pc := 7) C dX8_heaviest_7 pb_kI_m1 ?_
    obtain rfl := Option.some.inj hf
    exact pb_iret (pc := 8) C hr hlk hA dX8_heaviest_8
def rmX8_isSo : Room := { frames := 1, cells := 0, slots := 0, locals := 21 }
def wwX8_isSo (cyB cyI cyJ cyZ cyS : ClassId) : va_W := []
set_option maxHeartbeats 4000000 in
set_option maxRecDepth 100000 in
theorem kcX8_isSo (l : Launch) (dC : Nat → ClassId) (dI : Nat → Nat → Nat) (cyB cyI cyJ cyZ cyS : ClassId) (p1 : Int32) (p2 : Int32) (p3 : Int32) (p4 : Int32) (out : Int32) (hf : fX8_isSo p1 p2 p3 p4 = some out) : pb_K l yX8_isSo wsX8_isSo rmX8_isSo (dC, dI) vwCl (pb_tys cyB cyI cyJ cyZ cyS) pb_NW [.int p1, .int p2, .int p3, .int p4] (wwX8_isSo cyB cyI cyJ cyZ cyS) (wwX8_isSo cyB cyI cyJ cyZ cyS) (some (.int out)) := by
  unfold fX8_isSo at hf
  refine pb_K.ofV (cc := cX8_isSo) (maxL := 6) (ret := (some .boolean)) (lv0 := [(0, .int p1), (1, .int p2), (2, .int p3), (3, .int p4)]) (by decide) rfl (Nat.le_of_ble_eq_true rfl) rfl ?_
  intro p e s m below meth c A C hX hr hlk hA
  refine pb_iload_n (pc := 0) C dX8_isSo_0 rfl 3 rfl ?_
  refine pb_iload_n (pc := 1) C dX8_isSo_1 rfl 1 rfl ?_
  obtain ⟨r2, hr2, hf⟩ := pb_bind hf
  refine pb_callS (pc := 2) (n0 := 0) (ws' := (wwX8_isSo cyB cyI cyJ cyZ cyS)) (rest := []) (st2 := [.int r2]) C (kcX8_has l dC dI cyB cyI cyJ cyZ cyS p4 p2 r2 hr2) pb_NW_b (pb_NW_x hX) (va_cwS 2 C.1.2.2.2.2 gX8_isSo_X8_has rfl rfl rfl kdS_X8_has ⟨Nat.le_of_ble_eq_true rfl, Nat.le_of_ble_eq_true rfl⟩) [] [] rfl rfl trivial rfl (by decide +kernel) (adl := []) rfl rfl rfl rfl rfl (Nat.le_of_ble_eq_true rfl) ⟨Nat.le_refl _, Nat.le_refl _⟩ dX8_isSo_2 rfl ?_
  refine pb_istore (lv' := [(4, .int r2), (0, .int p1), (1, .int p2), (2, .int p3), (3, .int p4)]) (pc := 5) C dX8_isSo_5 (by decide) rfl ?_
  refine pb_iload_n (pc := 7) C dX8_isSo_7 rfl 4 rfl ?_
  refine pb_iload_n (pc := 8) C dX8_isSo_8 rfl 3 rfl ?_
  obtain ⟨r9, hr9, hf⟩ := pb_bind hf
  refine pb_callS (pc := 9) (n0 := 0) (ws' := (wwX8_isSo cyB cyI cyJ cyZ cyS)) (rest := []) (st2 := [.int r9]) C (kcX8_has l dC dI cyB cyI cyJ cyZ cyS p4 p3 r9 hr9) pb_NW_b (pb_NW_x hX) (va_cwS 2 C.1.2.2.2.2 gX8_isSo_X8_has rfl rfl rfl kdS_X8_has ⟨Nat.le_of_ble_eq_true rfl, Nat.le_of_ble_eq_true rfl⟩) [] [] rfl rfl trivial rfl (by decide +kernel) (adl := []) rfl rfl rfl rfl rfl (Nat.le_of_ble_eq_true rfl) ⟨Nat.le_refl _, Nat.le_refl _⟩ dX8_isSo_9 rfl ?_
  refine pb_istore (lv' := [(5, .int r9), (4, .int r2), (0, .int p1), (1, .int p2), (2, .int p3), (3, .int p4)]) (pc := 12) C dX8_isSo_12 (by decide) rfl ?_
  refine pb_iload_n (pc := 14) C dX8_isSo_14 rfl 2 rfl ?_
  by_cases hs15_0 : p1 = 0
  · have hf := pb_pos hf hs15_0
    refine pb_tableIn (pc := 15) (tgt := 48) C dX8_isSo_15 (by rw [hs15_0]; decide) (by rw [hs15_0]; decide) (by rw [hs15_0]; rfl) (by decide) ?_
    refine pb_iload (pc := 48) C dX8_isSo_48 1 rfl ?_
    obtain ⟨g50, hf⟩ := pb_grd hf
    obtain rfl := Option.some.inj hf
    exact pb_zret (pc := 50) C hr hlk hA g50 dX8_isSo_50
  have hf := pb_neg hf hs15_0
  by_cases hs15_1 : p1 = 1
  · have hf := pb_pos hf hs15_1
    refine pb_tableIn (pc := 15) (tgt := 51) C dX8_isSo_15 (by rw [hs15_1]; decide) (by rw [hs15_1]; decide) (by rw [hs15_1]; rfl) (by decide) ?_
    refine pb_iload (pc := 51) C dX8_isSo_51 1 rfl ?_
    refine pb_if_ne (pc := 53) (tgt := 60) C dX8_isSo_53 (by decide) (fun hc53 => ?_) (fun hc53 => ?_)
    · have hf := pb_neg hf hc53
      refine pb_iconst (v := 0) (pc := 60) C dX8_isSo_60 pb_kI_0 ?_
      obtain rfl := Option.some.inj hf
      exact pb_zret (pc := 61) C hr hlk hA pb_isB0 dX8_isSo_61
    · have hf := pb_pos hf hc53
      refine pb_iconst (v := 1) (pc := 56) C dX8_isSo_56 pb_kI_1 ?_
      refine pb_goto (pc := 57) (tgt := 61) C dX8_isSo_57 (by decide) ?_
      obtain rfl := Option.some.inj hf
      exact pb_zret (pc := 61) C hr hlk hA pb_isB1 dX8_isSo_61
  have hf := pb_neg hf hs15_1
  by_cases hs15_2 : p1 = 2
  · have hf := pb_pos hf hs15_2
    refine pb_tableIn (pc := 15) (tgt := 62) C dX8_isSo_15 (by rw [hs15_2]; decide) (by rw [hs15_2]; decide) (by rw [hs15_2]; rfl) (by decide) ?_
    refine pb_iload (pc := 62) C dX8_isSo_62 1 rfl ?_
    refine pb_if_eq (pc := 64) (tgt := 76) C dX8_isSo_64 (by decide) (fun hc64 => ?_) (fun hc64 => ?_)
    · have hf := pb_pos hf hc64
      refine pb_iconst (v := 0) (pc := 76) C dX8_isSo_76 pb_kI_0 ?_
      obtain rfl := Option.some.inj hf
      exact pb_zret (pc := 77) C hr hlk hA pb_isB0 dX8_isSo_77
    · have hf := pb_neg hf hc64
      refine pb_iload (pc := 67) C dX8_isSo_67 0 rfl ?_
      refine pb_if_eq (pc := 69) (tgt := 76) C dX8_isSo_69 (by decide) (fun hc69 => ?_) (fun hc69 => ?_)
      · have hf := pb_pos hf hc69
        refine pb_iconst (v := 0) (pc := 76) C dX8_isSo_76 pb_kI_0 ?_
        obtain rfl := Option.some.inj hf
        exact pb_zret (pc := 77) C hr hlk hA pb_isB0 dX8_isSo_77
      · have hf := pb_neg hf hc69
        refine pb_iconst (v := 1) (pc := 72) C dX8_isSo_72 pb_kI_1 ?_
        refine pb_goto (pc := 73) (tgt := 77) C dX8_isSo_73 (by decide) ?_
        obtain rfl := Option.some.inj hf
        exact pb_zret (pc := 77) C hr hlk hA pb_isB1 dX8_isSo_77
  have hf := pb_neg hf hs15_2
  by_cases hs15_3 : p1 = 3
  · have hf := pb_pos hf hs15_3
    refine pb_tableIn (pc := 15) (tgt := 78) C dX8_isSo_15 (by rw [hs15_3]; decide) (by rw [hs15_3]; decide) (by rw [hs15_3]; rfl) (by decide) ?_
    refine pb_iload (pc := 78) C dX8_isSo_78 1 rfl ?_
    refine pb_if_ne (pc := 80) (tgt := 88) C dX8_isSo_80 (by decide) (fun hc80 => ?_) (fun hc80 => ?_)
    · have hf := pb_neg hf hc80
      refine pb_iconst (v := 1) (pc := 88) C dX8_isSo_88 pb_kI_1 ?_
      refine pb_goto (pc := 89) (tgt := 93) C dX8_isSo_89 (by decide) ?_
      obtain rfl := Option.some.inj hf
      exact pb_zret (pc := 93) C hr hlk hA pb_isB1 dX8_isSo_93
    · have hf := pb_pos hf hc80
      refine pb_iload (pc := 83) C dX8_isSo_83 0 rfl ?_
      refine pb_if_eq (pc := 85) (tgt := 92) C dX8_isSo_85 (by decide) (fun hc85 => ?_) (fun hc85 => ?_)
      · have hf := pb_pos hf hc85
        refine pb_iconst (v := 0) (pc := 92) C dX8_isSo_92 pb_kI_0 ?_
        obtain rfl := Option.some.inj hf
        exact pb_zret (pc := 93) C hr hlk hA pb_isB0 dX8_isSo_93
      · have hf := pb_neg hf hc85
        refine pb_iconst (v := 1) (pc := 88) C dX8_isSo_88 pb_kI_1 ?_
        refine pb_goto (pc := 89) (tgt := 93) C dX8_isSo_89 (by decide) ?_
        obtain rfl := Option.some.inj hf
        exact pb_zret (pc := 93) C hr hlk hA pb_isB1 dX8_isSo_93
  have hf := pb_neg hf hs15_3
  by_cases hs15_4 : p1 = 4
  · have hf := pb_pos hf hs15_4
    refine pb_tableIn (pc := 15) (tgt := 94) C dX8_isSo_15 (by rw [hs15_4]; decide) (by rw [hs15_4]; decide) (by rw [hs15_4]; rfl) (by decide) ?_
    refine pb_iload (pc := 94) C dX8_isSo_94 1 rfl ?_
    refine pb_if_ne (pc := 96) (tgt := 108) C dX8_isSo_96 (by decide) (fun hc96 => ?_) (fun hc96 => ?_)
    · have hf := pb_neg hf hc96
      refine pb_iconst (v := 0) (pc := 108) C dX8_isSo_108 pb_kI_0 ?_
      obtain rfl := Option.some.inj hf
      exact pb_zret (pc := 109) C hr hlk hA pb_isB0 dX8_isSo_109
    · have hf := pb_pos hf hc96
      refine pb_iload (pc := 99) C dX8_isSo_99 0 rfl ?_
      refine pb_if_ne (pc := 101) (tgt := 108) C dX8_isSo_101 (by decide) (fun hc101 => ?_) (fun hc101 => ?_)
      · have hf := pb_neg hf hc101
        refine pb_iconst (v := 0) (pc := 108) C dX8_isSo_108 pb_kI_0 ?_
        obtain rfl := Option.some.inj hf
        exact pb_zret (pc := 109) C hr hlk hA pb_isB0 dX8_isSo_109
      · have hf := pb_pos hf hc101
        refine pb_iconst (v := 1) (pc := 104) C dX8_isSo_104 pb_kI_1 ?_
        refine pb_goto (pc := 105) (tgt := 109) C dX8_isSo_105 (by decide) ?_
        obtain rfl := Option.some.inj hf
        exact pb_zret (pc := 109) C hr hlk hA pb_isB1 dX8_isSo_109
  have hf := pb_neg hf hs15_4
  refine pb_tableOut (pc := 15) (tgt := 110) C dX8_isSo_15 (by have q0 := lv_neT (a := 0) hs15_0 (by decide); have q1 := lv_neT (a := 1) hs15_1 (by decide); have q2 := lv_neT (a := 2) hs15_2 (by decide); have q3 := lv_neT (a := 3) hs15_3 (by decide); have q4 := lv_neT (a := 4) hs15_4 (by decide); omega) (by decide) ?_
  refine pb_iload (pc := 110) C dX8_isSo_110 1 rfl ?_
  refine pb_if_eq (pc := 112) (tgt := 124) C dX8_isSo_112 (by decide) (fun hc112 => ?_) (fun hc112 => ?_)
  · have hf := pb_pos hf hc112
    refine pb_iconst (v := 0) (pc := 124) C dX8_isSo_124 pb_kI_0 ?_
    obtain rfl := Option.some.inj hf
    exact pb_zret (pc := 125) C hr hlk hA pb_isB0 dX8_isSo_125
  · have hf := pb_neg hf hc112
    refine pb_iload (pc := 115) C dX8_isSo_115 0 rfl ?_
    refine pb_if_ne (pc := 117) (tgt := 124) C dX8_isSo_117 (by decide) (fun hc117 => ?_) (fun hc117 => ?_)
    · have hf := pb_neg hf hc117
      refine pb_iconst (v := 0) (pc := 124) C dX8_isSo_124 pb_kI_0 ?_
      obtain rfl := Option.some.inj hf
      exact pb_zret (pc := 125) C hr hlk hA pb_isB0 dX8_isSo_125
    · have hf := pb_pos hf hc117
      refine pb_iconst (v := 1) (pc := 120) C dX8_isSo_120 pb_kI_1 ?_
      refine pb_goto (pc := 121) (tgt := 125) C dX8_isSo_121 (by decide) ?_
      obtain rfl := Option.some.inj hf
      exact pb_zret (pc := 125) C hr hlk hA pb_isB1 dX8_isSo_125
