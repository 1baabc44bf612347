def rmX8_isTold : Room := { frames := 2, cells := 0, slots := 0, locals := 46 }
def wwX8_isTold (cyB cyI cyJ cyZ cyS : ClassId) (a_t a_t_w a_t_isKept a_t_text a_t_refused a_t_numbers a_t_weights : Nat) (c_t_texted : Int32) (c_t_above : Int64) (c_t_below : Int64) (c_t_at : Int32) (c_t_start : Int32) (c_t_isWord : Int32) (c_t_isFigures : Int32) (c_t_all : Int64) (c_t_known : Int32) (c_t_truth : Int32) (c_t_x : Int64) (c_t_h : Int64) (c_t_w : (Nat → Int32)) (c_t_weights : (Nat → Int64)) : va_W := [(a_t, .inr (8, [.ref a_t_w, .ref a_t_isKept, .ref a_t_text, .int c_t_texted, .ref a_t_refused, .long c_t_above, .long c_t_below, .int c_t_at, .int c_t_start, .int c_t_isWord, .int c_t_isFigures, .ref a_t_numbers, .ref a_t_weights, .long c_t_all, .int c_t_known, .int c_t_truth, .long c_t_x, .long c_t_h])), (a_t_w, .inl (cyI, 1508, .inl c_t_w)), (a_t_weights, .inl (cyJ, 128, .inr (.inl c_t_weights)))]
theorem hnX8_isTold_X8 : ∀ w ∈ wsX80, w ∈ wsX8_isTold := fun _ h => List.mem_cons_of_mem _ (List.mem_append_right _ h)
set_option maxHeartbeats 4000000 in
set_option maxRecDepth 100000 in
theorem kcX8_isTold (l : Launch) (dC : Nat → ClassId) (dI : Nat → Nat → Nat) (cyB cyI cyJ cyZ cyS : ClassId) (a_t a_t_w a_t_isKept a_t_text a_t_refused a_t_numbers a_t_weights : Nat) (c_t_texted : Int32) (c_t_above : Int64) (c_t_below : Int64) (c_t_at : Int32) (c_t_start : Int32) (c_t_isWord : Int32) (c_t_isFigures : Int32) (c_t_all : Int64) (c_t_known : Int32) (c_t_truth : Int32) (c_t_x : Int64) (c_t_h : Int64) (c_t_w : (Nat → Int32)) (c_t_weights : (Nat → Int64)) (out : Int32) (hf : fX8_isTold c_t_known c_t_truth c_t_w c_t_weights = some out) : pb_K l yX8_isTold wsX8_isTold rmX8_isTold (dC, dI) vwCl (pb_tys cyB cyI cyJ cyZ cyS) pb_NW [.ref a_t] (wwX8_isTold cyB cyI cyJ cyZ cyS a_t a_t_w a_t_isKept a_t_text a_t_refused a_t_numbers a_t_weights c_t_texted c_t_above c_t_below c_t_at c_t_start c_t_isWord c_t_isFigures c_t_all c_t_known c_t_truth c_t_x c_t_h c_t_w c_t_weights) (wwX8_isTold cyB cyI cyJ cyZ cyS a_t a_t_w a_t_isKept a_t_text a_t_refused a_t_numbers a_t_weights c_t_texted c_t_above c_t_below c_t_at c_t_start c_t_isWord c_t_isFigures c_t_all c_t_known c_t_truth c_t_x c_t_h c_t_w c_t_weights) (some (.int out)) := by
  unfold fX8_isTold at hf
  refine pb_K.ofV (cc := cX8_isTold) (maxL := 9) (ret := (some .boolean)) (lv0 := [(0, .ref a_t)]) (by decide) rfl (Nat.le_of_ble_eq_true rfl) rfl ?_
  intro p e s m below meth c A C hX hr hlk hA
  refine pb_lconst (v := 0) (pc := 0) C dX8_isTold_0 pb_kL_0 ?_
  refine pb_lstore_n (lv' := [(1, .long 0), (0, .ref a_t)]) (pc := 1) C dX8_isTold_1 rfl (by decide) rfl ?_
  refine pb_iconst (v := 0) (pc := 2) C dX8_isTold_2 pb_kI_0 ?_
  refine pb_istore_n (lv' := [(3, .int 0), (1, .long 0), (0, .ref a_t)]) (pc := 3) C dX8_isTold_3 rfl (by decide) rfl ?_
  obtain ⟨z4, hz4, hk4⟩ := pb_bind hf
  have E4 : ∀ (e4_1 : Int64) (e4_3 : Int32), fX8_isTold_E4 c_t_known c_t_truth c_t_w c_t_weights e4_1 e4_3 = some out → pb_V p l e rmX8_isTold s m (([.ref a_t] : List Value).toArray) below meth c 9 (dC, dI) vwCl A 0 0 (pb_MQ below (([.ref a_t] : List Value).toArray) s (dC, dI) vwCl (wwX8_isTold cyB cyI cyJ cyZ cyS a_t a_t_w a_t_isKept a_t_text a_t_refused a_t_numbers a_t_weights c_t_texted c_t_above c_t_below c_t_at c_t_start c_t_isWord c_t_isFigures c_t_all c_t_known c_t_truth c_t_x c_t_h c_t_w c_t_weights) (wwX8_isTold cyB cyI cyJ cyZ cyS a_t a_t_w a_t_isKept a_t_text a_t_refused a_t_numbers a_t_weights c_t_texted c_t_above c_t_below c_t_at c_t_start c_t_isWord c_t_isFigures c_t_all c_t_known c_t_truth c_t_x c_t_h c_t_w c_t_weights) (some (.int out)) A) (wwX8_isTold cyB cyI cyJ cyZ cyS a_t a_t_w a_t_isKept a_t_text a_t_refused a_t_numbers a_t_weights c_t_texted c_t_above c_t_below c_t_at c_t_start c_t_isWord c_t_isFigures c_t_all c_t_known c_t_truth c_t_x c_t_h c_t_w c_t_weights) [(0, .ref a_t), (1, .long e4_1)] [] 38 := by
    intro e4_1 e4_3 hf
    unfold fX8_isTold_E4 at hf
    refine pb_lload_n (pc := 38) C dX8_isTold_38 rfl 1 rfl ?_
    refine pb_lconst (v := 0) (pc := 39) C dX8_isTold_39 pb_kL_0 ?_
    obtain ⟨y49, hf, hk49⟩ := pb_bind hf
    have J49 : ∀ (j49_s0 : Int32), fX8_isTold_J49 c_t_known c_t_truth c_t_w c_t_weights e4_1 j49_s0 = some out → pb_V p l e rmX8_isTold s m (([.ref a_t] : List Value).toArray) below meth c 9 (dC, dI) vwCl A 0 0 (pb_MQ below (([.ref a_t] : List Value).toArray) s (dC, dI) vwCl (wwX8_isTold cyB cyI cyJ cyZ cyS a_t a_t_w a_t_isKept a_t_text a_t_refused a_t_numbers a_t_weights c_t_texted c_t_above c_t_below c_t_at c_t_start c_t_isWord c_t_isFigures c_t_all c_t_known c_t_truth c_t_x c_t_h c_t_w c_t_weights) (wwX8_isTold cyB cyI cyJ cyZ cyS a_t a_t_w a_t_isKept a_t_text a_t_refused a_t_numbers a_t_weights c_t_texted c_t_above c_t_below c_t_at c_t_start c_t_isWord c_t_isFigures c_t_all c_t_known c_t_truth c_t_x c_t_h c_t_w c_t_weights) (some (.int out)) A) (wwX8_isTold cyB cyI cyJ cyZ cyS a_t a_t_w a_t_isKept a_t_text a_t_refused a_t_numbers a_t_weights c_t_texted c_t_above c_t_below c_t_at c_t_start c_t_isWord c_t_isFigures c_t_all c_t_known c_t_truth c_t_x c_t_h c_t_w c_t_weights) [(0, .ref a_t), (1, .long e4_1)] [.int j49_s0] 49 := by
      intro j49_s0 hf
      unfold fX8_isTold_J49 at hf
      refine pb_istore_n (lv' := [(3, .int j49_s0), (0, .ref a_t), (1, .long e4_1)]) (pc := 49) C dX8_isTold_49 rfl (by decide) rfl ?_
      refine pb_iconst (v := 0) (pc := 50) C dX8_isTold_50 pb_kI_0 ?_
      refine pb_istore (lv' := [(4, .int 0), (3, .int j49_s0), (0, .ref a_t), (1, .long e4_1)]) (pc := 51) C dX8_isTold_51 (by decide) rfl ?_
      obtain ⟨z53, hz53, hk53⟩ := pb_bind hf
      have E53 : ∀ (e53_3 : Int32) (e53_4 : Int32), fX8_isTold_E53 e53_3 e53_4 = some out → pb_V p l e rmX8_isTold s m (([.ref a_t] : List Value).toArray) below meth c 9 (dC, dI) vwCl A 0 0 (pb_MQ below (([.ref a_t] : List Value).toArray) s (dC, dI) vwCl (wwX8_isTold cyB cyI cyJ cyZ cyS a_t a_t_w a_t_isKept a_t_text a_t_refused a_t_numbers a_t_weights c_t_texted c_t_above c_t_below c_t_at c_t_start c_t_isWord c_t_isFigures c_t_all c_t_known c_t_truth c_t_x c_t_h c_t_w c_t_weights) (wwX8_isTold cyB cyI cyJ cyZ cyS a_t a_t_w a_t_isKept a_t_text a_t_refused a_t_numbers a_t_weights c_t_texted c_t_above c_t_below c_t_at c_t_start c_t_isWord c_t_isFigures c_t_all c_t_known c_t_truth c_t_x c_t_h c_t_w c_t_weights) (some (.int out)) A) (wwX8_isTold cyB cyI cyJ cyZ cyS a_t a_t_w a_t_isKept a_t_text a_t_refused a_t_numbers a_t_weights c_t_texted c_t_above c_t_below c_t_at c_t_start c_t_isWord c_t_isFigures c_t_all c_t_known c_t_truth c_t_x c_t_h c_t_w c_t_weights) [(3, .int e53_3)] [] 214 := by
        intro e53_3 e53_4 hf
        unfold fX8_isTold_E53 at hf
        refine pb_iload_n (pc := 214) C dX8_isTold_214 rfl 0 rfl ?_
        obtain ⟨g215, hf⟩ := pb_grd hf
        obtain rfl := Option.some.inj hf
        exact pb_zret (pc := 215) C hr hlk hA g215 dX8_isTold_215
      have L53 : ∀ (n : Nat) (l53_3 : Int32) (l53_4 : Int32), pb_lp (fun y => fX8_isTold_L53 c_t_known c_t_truth c_t_w c_t_weights e4_1 y.1 y.2) n (l53_3, l53_4) = some z53 → pb_V p l e rmX8_isTold s m (([.ref a_t] : List Value).toArray) below meth c 9 (dC, dI) vwCl A 0 0 (pb_MQ below (([.ref a_t] : List Value).toArray) s (dC, dI) vwCl (wwX8_isTold cyB cyI cyJ cyZ cyS a_t a_t_w a_t_isKept a_t_text a_t_refused a_t_numbers a_t_weights c_t_texted c_t_above c_t_below c_t_at c_t_start c_t_isWord c_t_isFigures c_t_all c_t_known c_t_truth c_t_x c_t_h c_t_w c_t_weights) (wwX8_isTold cyB cyI cyJ cyZ cyS a_t a_t_w a_t_isKept a_t_text a_t_refused a_t_numbers a_t_weights c_t_texted c_t_above c_t_below c_t_at c_t_start c_t_isWord c_t_isFigures c_t_all c_t_known c_t_truth c_t_x c_t_h c_t_w c_t_weights) (some (.int out)) A) (wwX8_isTold cyB cyI cyJ cyZ cyS a_t a_t_w a_t_isKept a_t_text a_t_refused a_t_numbers a_t_weights c_t_texted c_t_above c_t_below c_t_at c_t_start c_t_isWord c_t_isFigures c_t_all c_t_known c_t_truth c_t_x c_t_h c_t_w c_t_weights) [(0, .ref a_t), (1, .long e4_1), (3, .int l53_3), (4, .int l53_4)] [] 53 := by
        intro n
        induction n with
        | zero => intro l53_3 l53_4 hf; exact (pb_lp_zero hf).elim
        | succ n ih53 =>
          intro l53_3 l53_4 hf
          obtain ⟨y53, hf, hl53⟩ := pb_lp_succ hf
          have hf : fX8_isTold_L53 c_t_known c_t_truth c_t_w c_t_weights e4_1 l53_3 l53_4 = some y53 := hf
          unfold fX8_isTold_L53 at hf
          refine pb_iload (pc := 53) C dX8_isTold_53 3 rfl ?_
          refine pb_aload_n (pc := 55) C dX8_isTold_55 rfl 0 rfl ?_
          refine pb_get (pc := 56) C hnX8_isTold_X8 0 rfl rfl 0 (by decide) (List.mem_of_getElem? (i := 2) rfl) rfl rfl dX8_isTold_56 ?_
          refine pb_iconst (v := 3) (pc := 59) C dX8_isTold_59 pb_kI_3 ?_
          refine pb_iald (pc := 60) C 1 1 rfl rfl pb_ok_3_1508 dX8_isTold_60 ?_
          refine pb_topi (congrArg c_t_w pb_kN_3) ?_
          refine pb_icmp_ge (pc := 61) (tgt := 214) C dX8_isTold_61 (by decide) (fun hc61 => ?_) (fun hc61 => ?_)
          · have hf := pb_pos hf hc61
            obtain rfl := Option.some.inj hf
            obtain rfl := pb_esc hl53
            refine pb_sub [2] rfl ?_
            exact E53 l53_3 l53_4 hk53
          · have hf := pb_neg hf hc61
            refine pb_iload_n (pc := 64) C dX8_isTold_64 rfl 2 rfl ?_
            refine pb_if_eq (pc := 65) (tgt := 214) C dX8_isTold_65 (by decide) (fun hc65 => ?_) (fun hc65 => ?_)
            · have hf := pb_pos hf hc65
              obtain rfl := Option.some.inj hf
              obtain rfl := pb_esc hl53
              refine pb_sub [2] rfl ?_
              exact E53 l53_3 l53_4 hk53
            · have hf := pb_neg hf hc65
              refine pb_bipush (v := 99) (pc := 68) C dX8_isTold_68 pb_kB_99 ?_
              refine pb_iconst (v := 5) (pc := 70) C dX8_isTold_70 pb_kI_5 ?_
              refine pb_iload (pc := 71) C dX8_isTold_71 3 rfl ?_
              refine pb_imul (pc := 73) C dX8_isTold_73 ?_
              refine pb_iadd (pc := 74) C dX8_isTold_74 ?_
              obtain ⟨x75, ex75, hf⟩ := pb_bind hf
              have ex75 := Option.some.inj ex75
              refine pb_topi ex75 ?_
              refine pb_istore (lv' := [(5, .int x75), (0, .ref a_t), (1, .long e4_1), (3, .int l53_3), (4, .int l53_4)]) (pc := 75) C dX8_isTold_75 (by decide) rfl ?_
              refine pb_lconst (v := 0) (pc := 77) C dX8_isTold_77 pb_kL_0 ?_
              refine pb_lstore (lv' := [(6, .long 0), (5, .int x75), (0, .ref a_t), (1, .long e4_1), (3, .int l53_3), (4, .int l53_4)]) (pc := 78) C dX8_isTold_78 (by decide) rfl ?_
              refine pb_iconst (v := 0) (pc := 80) C dX8_isTold_80 pb_kI_0 ?_
              refine pb_istore (lv' := [(8, .int 0), (6, .long 0), (5, .int x75), (0, .ref a_t), (1, .long e4_1), (3, .int l53_3), (4, .int l53_4)]) (pc := 81) C dX8_isTold_81 (by decide) rfl ?_
              obtain ⟨z83, hz83, hk83⟩ := pb_bind hf
              have E83 : ∀ (e83_6 : Int64) (e83_8 : Int32), fX8_isTold_E83 c_t_w e4_1 l53_4 x75 e83_6 e83_8 = some y53 → pb_V p l e rmX8_isTold s m (([.ref a_t] : List Value).toArray) below meth c 9 (dC, dI) vwCl A 0 0 (pb_MQ below (([.ref a_t] : List Value).toArray) s (dC, dI) vwCl (wwX8_isTold cyB cyI cyJ cyZ cyS a_t a_t_w a_t_isKept a_t_text a_t_refused a_t_numbers a_t_weights c_t_texted c_t_above c_t_below c_t_at c_t_start c_t_isWord c_t_isFigures c_t_all c_t_known c_t_truth c_t_x c_t_h c_t_w c_t_weights) (wwX8_isTold cyB cyI cyJ cyZ cyS a_t a_t_w a_t_isKept a_t_text a_t_refused a_t_numbers a_t_weights c_t_texted c_t_above c_t_below c_t_at c_t_start c_t_isWord c_t_isFigures c_t_all c_t_known c_t_truth c_t_x c_t_h c_t_w c_t_weights) (some (.int out)) A) (wwX8_isTold cyB cyI cyJ cyZ cyS a_t a_t_w a_t_isKept a_t_text a_t_refused a_t_numbers a_t_weights c_t_texted c_t_above c_t_below c_t_at c_t_start c_t_isWord c_t_isFigures c_t_all c_t_known c_t_truth c_t_x c_t_h c_t_w c_t_weights) [(0, .ref a_t), (1, .long e4_1), (4, .int l53_4), (5, .int x75), (6, .long e83_6)] [] 155 := by
                intro e83_6 e83_8 hf
                unfold fX8_isTold_E83 at hf
                refine pb_lload (pc := 155) C dX8_isTold_155 4 rfl ?_
                refine pb_aload_n (pc := 157) C dX8_isTold_157 rfl 0 rfl ?_
                refine pb_get (pc := 158) C hnX8_isTold_X8 0 rfl rfl 0 (by decide) (List.mem_of_getElem? (i := 2) rfl) rfl rfl dX8_isTold_158 ?_
                refine pb_iload (pc := 161) C dX8_isTold_161 3 rfl ?_
                refine pb_iconst (v := 3) (pc := 163) C dX8_isTold_163 pb_kI_3 ?_
                refine pb_iadd (pc := 164) C dX8_isTold_164 ?_
                obtain ⟨g165, hf⟩ := pb_grd hf
                refine pb_iald (pc := 165) C 1 1 rfl rfl g165 dX8_isTold_165 ?_
                refine pb_i2l (pc := 166) C dX8_isTold_166 ?_
                refine pb_lmul (pc := 167) C dX8_isTold_167 ?_
                refine pb_lload_n (pc := 168) C dX8_isTold_168 rfl 1 rfl ?_
                refine pb_lload (pc := 169) C dX8_isTold_169 4 rfl ?_
                refine pb_lsub (pc := 171) C dX8_isTold_171 ?_
                obtain ⟨y181, hf, hk181⟩ := pb_bind hf
                have J181 : ∀ (j181_s0 : Int32), fX8_isTold_J181 c_t_w l53_4 x75 j181_s0 = some y53 → pb_V p l e rmX8_isTold s m (([.ref a_t] : List Value).toArray) below meth c 9 (dC, dI) vwCl A 0 0 (pb_MQ below (([.ref a_t] : List Value).toArray) s (dC, dI) vwCl (wwX8_isTold cyB cyI cyJ cyZ cyS a_t a_t_w a_t_isKept a_t_text a_t_refused a_t_numbers a_t_weights c_t_texted c_t_above c_t_below c_t_at c_t_start c_t_isWord c_t_isFigures c_t_all c_t_known c_t_truth c_t_x c_t_h c_t_w c_t_weights) (wwX8_isTold cyB cyI cyJ cyZ cyS a_t a_t_w a_t_isKept a_t_text a_t_refused a_t_numbers a_t_weights c_t_texted c_t_above c_t_below c_t_at c_t_start c_t_isWord c_t_isFigures c_t_all c_t_known c_t_truth c_t_x c_t_h c_t_w c_t_weights) (some (.int out)) A) (wwX8_isTold cyB cyI cyJ cyZ cyS a_t a_t_w a_t_isKept a_t_text a_t_refused a_t_numbers a_t_weights c_t_texted c_t_above c_t_below c_t_at c_t_start c_t_isWord c_t_isFigures c_t_all c_t_known c_t_truth c_t_x c_t_h c_t_w c_t_weights) [(0, .ref a_t), (1, .long e4_1), (4, .int l53_4), (5, .int x75)] [.int j181_s0] 181 := by
                  intro j181_s0 hf
                  unfold fX8_isTold_J181 at hf
                  refine pb_aload_n (pc := 181) C dX8_isTold_181 rfl 0 rfl ?_
                  refine pb_get (pc := 182) C hnX8_isTold_X8 0 rfl rfl 0 (by decide) (List.mem_of_getElem? (i := 2) rfl) rfl rfl dX8_isTold_182 ?_
                  refine pb_iload (pc := 185) C dX8_isTold_185 3 rfl ?_
                  refine pb_iconst (v := 4) (pc := 187) C dX8_isTold_187 pb_kI_4 ?_
                  refine pb_iadd (pc := 188) C dX8_isTold_188 ?_
                  obtain ⟨g189, hf⟩ := pb_grd hf
                  refine pb_iald (pc := 189) C 1 1 rfl rfl g189 dX8_isTold_189 ?_
                  refine pb_iconst (v := 1) (pc := 190) C dX8_isTold_190 pb_kI_1 ?_
                  obtain ⟨y199, hf, hk199⟩ := pb_bind hf
                  have J199 : ∀ (j199_s1 : Int32), fX8_isTold_J199 j181_s0 l53_4 j199_s1 = some y53 → pb_V p l e rmX8_isTold s m (([.ref a_t] : List Value).toArray) below meth c 9 (dC, dI) vwCl A 0 0 (pb_MQ below (([.ref a_t] : List Value).toArray) s (dC, dI) vwCl (wwX8_isTold cyB cyI cyJ cyZ cyS a_t a_t_w a_t_isKept a_t_text a_t_refused a_t_numbers a_t_weights c_t_texted c_t_above c_t_below c_t_at c_t_start c_t_isWord c_t_isFigures c_t_all c_t_known c_t_truth c_t_x c_t_h c_t_w c_t_weights) (wwX8_isTold cyB cyI cyJ cyZ cyS a_t a_t_w a_t_isKept a_t_text a_t_refused a_t_numbers a_t_weights c_t_texted c_t_above c_t_below c_t_at c_t_start c_t_isWord c_t_isFigures c_t_all c_t_known c_t_truth c_t_x c_t_h c_t_w c_t_weights) (some (.int out)) A) (wwX8_isTold cyB cyI cyJ cyZ cyS a_t a_t_w a_t_isKept a_t_text a_t_refused a_t_numbers a_t_weights c_t_texted c_t_above c_t_below c_t_at c_t_start c_t_isWord c_t_isFigures c_t_all c_t_known c_t_truth c_t_x c_t_h c_t_w c_t_weights) [(0, .ref a_t), (1, .long e4_1), (4, .int l53_4)] [.int j199_s1, .int j181_s0] 199 := by
                    intro j199_s1 hf
                    unfold fX8_isTold_J199 at hf
                    refine pb_icmp_ne (pc := 199) (tgt := 206) C dX8_isTold_199 (by decide) (fun hc199 => ?_) (fun hc199 => ?_)
                    · have hf := pb_neg hf hc199
                      refine pb_iconst (v := 0) (pc := 206) C dX8_isTold_206 pb_kI_0 ?_
                      refine pb_istore_n (lv' := [(3, .int 0), (0, .ref a_t), (1, .long e4_1), (4, .int l53_4)]) (pc := 207) C dX8_isTold_207 rfl (by decide) rfl ?_
                      refine pb_iinc (v := l53_4 + 1) (lv' := [(4, .int (l53_4 + 1)), (3, .int 0), (0, .ref a_t), (1, .long e4_1)]) (pc := 208) C dX8_isTold_208 3 rfl (pb_inc pb_kI_1 rfl) (by decide) rfl ?_
                      refine pb_goto (pc := 211) (tgt := 53) C dX8_isTold_211 (by decide) ?_
                      obtain rfl := Option.some.inj hf
                      refine pb_sub [2, 3, 1, 0] rfl ?_
                      have hl53 := pb_inl hl53
                      exact ih53 0 (l53_4 + 1) hl53
                    · have hf := pb_pos hf hc199
                      refine pb_iconst (v := 1) (pc := 202) C dX8_isTold_202 pb_kI_1 ?_
                      refine pb_goto (pc := 203) (tgt := 207) C dX8_isTold_203 (by decide) ?_
                      refine pb_istore_n (lv' := [(3, .int 1), (0, .ref a_t), (1, .long e4_1), (4, .int l53_4)]) (pc := 207) C dX8_isTold_207 rfl (by decide) rfl ?_
                      refine pb_iinc (v := l53_4 + 1) (lv' := [(4, .int (l53_4 + 1)), (3, .int 1), (0, .ref a_t), (1, .long e4_1)]) (pc := 208) C dX8_isTold_208 3 rfl (pb_inc pb_kI_1 rfl) (by decide) rfl ?_
                      refine pb_goto (pc := 211) (tgt := 53) C dX8_isTold_211 (by decide) ?_
                      obtain rfl := Option.some.inj hf
                      refine pb_sub [2, 3, 1, 0] rfl ?_
                      have hl53 := pb_inl hl53
                      exact ih53 1 (l53_4 + 1) hl53
                  refine pb_icmp_ne (pc := 191) (tgt := 198) C dX8_isTold_191 (by decide) (fun hc191 => ?_) (fun hc191 => ?_)
                  · have hf := pb_neg hf hc191
                    refine pb_iconst (v := 0) (pc := 198) C dX8_isTold_198 pb_kI_0 ?_
                    obtain rfl := Option.some.inj hf
                    refine pb_sub [0, 1, 2] rfl ?_
                    exact J199 0 hk199
                  · have hf := pb_pos hf hc191
                    refine pb_iconst (v := 1) (pc := 194) C dX8_isTold_194 pb_kI_1 ?_
                    refine pb_goto (pc := 195) (tgt := 199) C dX8_isTold_195 (by decide) ?_
                    obtain rfl := Option.some.inj hf
                    refine pb_sub [0, 1, 2] rfl ?_
                    exact J199 1 hk199
                refine pb_lif_le (pc := 172) (tgt := 180) C dX8_isTold_172 dX8_isTold_173 (by decide) (fun hc172 => ?_) (fun hc172 => ?_)
                · have hf := pb_pos hf hc172
                  refine pb_iconst (v := 0) (pc := 180) C dX8_isTold_180 pb_kI_0 ?_
                  obtain rfl := Option.some.inj hf
                  refine pb_sub [0, 1, 2, 3] rfl ?_
                  exact J181 0 hk181
                · have hf := pb_neg hf hc172
                  refine pb_iconst (v := 1) (pc := 176) C dX8_isTold_176 pb_kI_1 ?_
                  refine pb_goto (pc := 177) (tgt := 181) C dX8_isTold_177 (by decide) ?_
                  obtain rfl := Option.some.inj hf
                  refine pb_sub [0, 1, 2, 3] rfl ?_
                  exact J181 1 hk181
              have L83 : ∀ (n : Nat) (l83_6 : Int64) (l83_8 : Int32), pb_lp (fun y => fX8_isTold_L83 c_t_known c_t_truth c_t_w c_t_weights x75 y.1 y.2) n (l83_6, l83_8) = some z83 → pb_V p l e rmX8_isTold s m (([.ref a_t] : List Value).toArray) below meth c 9 (dC, dI) vwCl A 0 0 (pb_MQ below (([.ref a_t] : List Value).toArray) s (dC, dI) vwCl (wwX8_isTold cyB cyI cyJ cyZ cyS a_t a_t_w a_t_isKept a_t_text a_t_refused a_t_numbers a_t_weights c_t_texted c_t_above c_t_below c_t_at c_t_start c_t_isWord c_t_isFigures c_t_all c_t_known c_t_truth c_t_x c_t_h c_t_w c_t_weights) (wwX8_isTold cyB cyI cyJ cyZ cyS a_t a_t_w a_t_isKept a_t_text a_t_refused a_t_numbers a_t_weights c_t_texted c_t_above c_t_below c_t_at c_t_start c_t_isWord c_t_isFigures c_t_all c_t_known c_t_truth c_t_x c_t_h c_t_w c_t_weights) (some (.int out)) A) (wwX8_isTold cyB cyI cyJ cyZ cyS a_t a_t_w a_t_isKept a_t_text a_t_refused a_t_numbers a_t_weights c_t_texted c_t_above c_t_below c_t_at c_t_start c_t_isWord c_t_isFigures c_t_all c_t_known c_t_truth c_t_x c_t_h c_t_w c_t_weights) [(0, .ref a_t), (1, .long e4_1), (4, .int l53_4), (5, .int x75), (6, .long l83_6), (8, .int l83_8)] [] 83 := by
                intro n
                induction n with
                | zero => intro l83_6 l83_8 hf; exact (pb_lp_zero hf).elim
                | succ n ih83 =>
                  intro l83_6 l83_8 hf
                  obtain ⟨y83, hf, hl83⟩ := pb_lp_succ hf
                  have hf : fX8_isTold_L83 c_t_known c_t_truth c_t_w c_t_weights x75 l83_6 l83_8 = some y83 := hf
                  unfold fX8_isTold_L83 at hf
                  refine pb_iload (pc := 83) C dX8_isTold_83 5 rfl ?_
                  refine pb_sipush (v := 128) (pc := 85) C dX8_isTold_85 pb_kS_128 ?_
                  refine pb_icmp_ge (pc := 88) (tgt := 155) C dX8_isTold_88 (by decide) (fun hc88 => ?_) (fun hc88 => ?_)
                  · have hf := pb_pos hf hc88
                    obtain rfl := Option.some.inj hf
                    obtain rfl := pb_esc hl83
                    refine pb_sub [0, 1, 2, 3, 4] rfl ?_
                    exact E83 l83_6 l83_8 hk83
                  · have hf := pb_neg hf hc88
                    refine pb_lload (pc := 91) C dX8_isTold_91 4 rfl ?_
                    refine pb_aload_n (pc := 93) C dX8_isTold_93 rfl 0 rfl ?_
                    refine pb_iload (pc := 94) C dX8_isTold_94 5 rfl ?_
                    obtain ⟨r96, hr96, hf⟩ := pb_bind hf
                    refine pb_callV (pc := 96) (n0 := 3) (ws' := (wwX8_isTold cyB cyI cyJ cyZ cyS a_t a_t_w a_t_isKept a_t_text a_t_refused a_t_numbers a_t_weights c_t_texted c_t_above c_t_below c_t_at c_t_start c_t_isWord c_t_isFigures c_t_all c_t_known c_t_truth c_t_x c_t_h c_t_w c_t_weights)) (rest := [.long l83_6]) (st2 := [.int r96, .long l83_6]) C (kcX8_isLeft l dC dI cyB cyI cyJ cyZ cyS a_t a_t_w a_t_isKept a_t_text a_t_refused a_t_numbers a_t_weights c_t_texted c_t_above c_t_below c_t_at c_t_start c_t_isWord c_t_isFigures c_t_all c_t_known c_t_truth c_t_x c_t_h c_t_weights l83_8 r96 hr96) pb_NW_b (pb_NW_x hX) (cwV 1 C.1.2.2.2.2 gX8_isTold_X8_isLeft rfl rfl rfl kdV_X8_isLeft ⟨Nat.le_of_ble_eq_true rfl, Nat.le_of_ble_eq_true rfl⟩) 0 rfl rfl [0, 2] [1] rfl rfl ⟨⟨_, rfl, rfl⟩, trivial⟩ rfl (by decide +kernel) (adl := [a_t, a_t_weights]) rfl rfl rfl rfl rfl (Nat.le_of_ble_eq_true rfl) ⟨Nat.le_refl _, Nat.le_refl _⟩ dX8_isTold_96 rfl ?_
                    refine pb_if_eq (pc := 99) (tgt := 145) C dX8_isTold_99 (by decide) (fun hc99 => ?_) (fun hc99 => ?_)
                    · have hf := pb_pos hf hc99
                      refine pb_lconst (v := 0) (pc := 145) C dX8_isTold_145 pb_kL_0 ?_
                      refine pb_ladd (pc := 146) C dX8_isTold_146 ?_
                      obtain ⟨x147, ex147, hf⟩ := pb_bind hf
                      have ex147 := Option.some.inj ex147
                      refine pb_topl ex147 ?_
                      refine pb_lstore (lv' := [(6, .long x147), (0, .ref a_t), (1, .long e4_1), (4, .int l53_4), (5, .int x75), (8, .int l83_8)]) (pc := 147) C dX8_isTold_147 (by decide) rfl ?_
                      refine pb_iinc (v := l83_8 + 1) (lv' := [(8, .int (l83_8 + 1)), (6, .long x147), (0, .ref a_t), (1, .long e4_1), (4, .int l53_4), (5, .int x75)]) (pc := 149) C dX8_isTold_149 5 rfl (pb_inc pb_kI_1 rfl) (by decide) rfl ?_
                      refine pb_goto (pc := 152) (tgt := 83) C dX8_isTold_152 (by decide) ?_
                      obtain rfl := Option.some.inj hf
                      refine pb_sub [2, 3, 4, 5, 1, 0] rfl ?_
                      have hl83 := pb_inl hl83
                      exact ih83 x147 (l83_8 + 1) hl83
                    · have hf := pb_neg hf hc99
                      refine pb_aload_n (pc := 102) C dX8_isTold_102 rfl 0 rfl ?_
                      refine pb_get (pc := 103) C hnX8_isTold_X8 0 rfl rfl 0 (by decide) (List.mem_of_getElem? (i := 2) rfl) rfl rfl dX8_isTold_103 ?_
                      refine pb_iload (pc := 106) C dX8_isTold_106 3 rfl ?_
                      obtain ⟨g108, hf⟩ := pb_grd hf
                      refine pb_iald (pc := 108) C 1 1 rfl rfl g108 dX8_isTold_108 ?_
                      refine pb_aload_n (pc := 109) C dX8_isTold_109 rfl 0 rfl ?_
                      refine pb_get (pc := 110) C hnX8_isTold_X8 0 rfl rfl 0 (by decide) (List.mem_of_getElem? (i := 2) rfl) rfl rfl dX8_isTold_110 ?_
                      refine pb_iload (pc := 113) C dX8_isTold_113 3 rfl ?_
                      refine pb_iconst (v := 1) (pc := 115) C dX8_isTold_115 pb_kI_1 ?_
                      refine pb_iadd (pc := 116) C dX8_isTold_116 ?_
                      obtain ⟨g117, hf⟩ := pb_grd hf
                      refine pb_iald (pc := 117) C 1 1 rfl rfl g117 dX8_isTold_117 ?_
                      refine pb_aload_n (pc := 118) C dX8_isTold_118 rfl 0 rfl ?_
                      refine pb_get (pc := 119) C hnX8_isTold_X8 0 rfl rfl 0 (by decide) (List.mem_of_getElem? (i := 2) rfl) rfl rfl dX8_isTold_119 ?_
                      refine pb_iload (pc := 122) C dX8_isTold_122 3 rfl ?_
                      refine pb_iconst (v := 2) (pc := 124) C dX8_isTold_124 pb_kI_2 ?_
                      refine pb_iadd (pc := 125) C dX8_isTold_125 ?_
                      obtain ⟨g126, hf⟩ := pb_grd hf
                      refine pb_iald (pc := 126) C 1 1 rfl rfl g126 dX8_isTold_126 ?_
                      refine pb_iload (pc := 127) C dX8_isTold_127 5 rfl ?_
                      obtain ⟨r129, hr129, hf⟩ := pb_bind hf
                      refine pb_callS (pc := 129) (n0 := 3) (ws' := (wwX8_isTold cyB cyI cyJ cyZ cyS a_t a_t_w a_t_isKept a_t_text a_t_refused a_t_numbers a_t_weights c_t_texted c_t_above c_t_below c_t_at c_t_start c_t_isWord c_t_isFigures c_t_all c_t_known c_t_truth c_t_x c_t_h c_t_w c_t_weights)) (rest := [.long l83_6]) (st2 := [.int r129, .long l83_6]) C (kcX8_isSo l dC dI cyB cyI cyJ cyZ cyS (c_t_w (Int32.toNatClampNeg x75)) (c_t_w (Int32.toNatClampNeg (x75 + 1))) (c_t_w (Int32.toNatClampNeg (x75 + 2))) l83_8 r129 hr129) pb_NW_b (pb_NW_x hX) (va_cwS 4 C.1.2.2.2.2 gX8_isTold_X8_isSo rfl rfl rfl kdS_X8_isSo ⟨Nat.le_of_ble_eq_true rfl, Nat.le_of_ble_eq_true rfl⟩) [] [0, 1, 2] rfl rfl ⟨⟨_, rfl, rfl⟩, ⟨⟨_, rfl, rfl⟩, ⟨⟨_, rfl, rfl⟩, trivial⟩⟩⟩ rfl (by decide +kernel) (adl := []) rfl rfl rfl rfl rfl (Nat.le_of_ble_eq_true rfl) ⟨Nat.le_refl _, Nat.le_refl _⟩ dX8_isTold_129 rfl ?_
                      refine pb_if_eq (pc := 132) (tgt := 145) C dX8_isTold_132 (by decide) (fun hc132 => ?_) (fun hc132 => ?_)
                      · have hf := pb_pos hf hc132
                        refine pb_lconst (v := 0) (pc := 145) C dX8_isTold_145 pb_kL_0 ?_
                        refine pb_ladd (pc := 146) C dX8_isTold_146 ?_
                        obtain ⟨x147, ex147, hf⟩ := pb_bind hf
                        have ex147 := Option.some.inj ex147
                        refine pb_topl ex147 ?_
                        refine pb_lstore (lv' := [(6, .long x147), (0, .ref a_t), (1, .long e4_1), (4, .int l53_4), (5, .int x75), (8, .int l83_8)]) (pc := 147) C dX8_isTold_147 (by decide) rfl ?_
                        refine pb_iinc (v := l83_8 + 1) (lv' := [(8, .int (l83_8 + 1)), (6, .long x147), (0, .ref a_t), (1, .long e4_1), (4, .int l53_4), (5, .int x75)]) (pc := 149) C dX8_isTold_149 5 rfl (pb_inc pb_kI_1 rfl) (by decide) rfl ?_
                        refine pb_goto (pc := 152) (tgt := 83) C dX8_isTold_152 (by decide) ?_
                        obtain rfl := Option.some.inj hf
                        refine pb_sub [2, 3, 4, 5, 1, 0] rfl ?_
                        have hl83 := pb_inl hl83
                        exact ih83 x147 (l83_8 + 1) hl83
                      · have hf := pb_neg hf hc132
                        refine pb_aload_n (pc := 135) C dX8_isTold_135 rfl 0 rfl ?_
                        refine pb_get (pc := 136) C hnX8_isTold_X8 0 rfl rfl 12 (by decide) (List.mem_of_getElem? (i := 1) rfl) rfl rfl dX8_isTold_136 ?_
                        refine pb_iload (pc := 139) C dX8_isTold_139 5 rfl ?_
                        obtain ⟨g141, hf⟩ := pb_grd hf
                        refine pb_lald (pc := 141) C 2 2 rfl rfl g141 dX8_isTold_141 ?_
                        refine pb_goto (pc := 142) (tgt := 146) C dX8_isTold_142 (by decide) ?_
                        refine pb_ladd (pc := 146) C dX8_isTold_146 ?_
                        obtain ⟨x147, ex147, hf⟩ := pb_bind hf
                        have ex147 := Option.some.inj ex147
                        refine pb_topl ex147 ?_
                        refine pb_lstore (lv' := [(6, .long x147), (0, .ref a_t), (1, .long e4_1), (4, .int l53_4), (5, .int x75), (8, .int l83_8)]) (pc := 147) C dX8_isTold_147 (by decide) rfl ?_
                        refine pb_iinc (v := l83_8 + 1) (lv' := [(8, .int (l83_8 + 1)), (6, .long x147), (0, .ref a_t), (1, .long e4_1), (4, .int l53_4), (5, .int x75)]) (pc := 149) C dX8_isTold_149 5 rfl (pb_inc pb_kI_1 rfl) (by decide) rfl ?_
                        refine pb_goto (pc := 152) (tgt := 83) C dX8_isTold_152 (by decide) ?_
                        obtain rfl := Option.some.inj hf
                        refine pb_sub [2, 3, 4, 5, 1, 0] rfl ?_
                        have hl83 := pb_inl hl83
                        exact ih83 x147 (l83_8 + 1) hl83
              refine pb_sub [3, 4, 6, 2, 1, 0] rfl ?_
              exact L83 pb_FU 0 0 hz83
      refine pb_sub [2, 3, 1, 0] rfl ?_
      exact L53 pb_FU j49_s0 0 hz53
    refine pb_lif_le (pc := 40) (tgt := 48) C dX8_isTold_40 dX8_isTold_41 (by decide) (fun hc40 => ?_) (fun hc40 => ?_)
    · have hf := pb_pos hf hc40
      refine pb_iconst (v := 0) (pc := 48) C dX8_isTold_48 pb_kI_0 ?_
      obtain rfl := Option.some.inj hf
      exact J49 0 hk49
    · have hf := pb_neg hf hc40
      refine pb_iconst (v := 1) (pc := 44) C dX8_isTold_44 pb_kI_1 ?_
      refine pb_goto (pc := 45) (tgt := 49) C dX8_isTold_45 (by decide) ?_
      obtain rfl := Option.some.inj hf
      exact J49 1 hk49
  have L4 : ∀ (n : Nat) (l4_1 : Int64) (l4_3 : Int32), pb_lp (fun y => fX8_isTold_L4 c_t_known c_t_truth c_t_weights y.1 y.2) n (l4_1, l4_3) = some z4 → pb_V p l e rmX8_isTold s m (([.ref a_t] : List Value).toArray) below meth c 9 (dC, dI) vwCl A 0 0 (pb_MQ below (([.ref a_t] : List Value).toArray) s (dC, dI) vwCl (wwX8_isTold cyB cyI cyJ cyZ cyS a_t a_t_w a_t_isKept a_t_text a_t_refused a_t_numbers a_t_weights c_t_texted c_t_above c_t_below c_t_at c_t_start c_t_isWord c_t_isFigures c_t_all c_t_known c_t_truth c_t_x c_t_h c_t_w c_t_weights) (wwX8_isTold cyB cyI cyJ cyZ cyS a_t a_t_w a_t_isKept a_t_text a_t_refused a_t_numbers a_t_weights c_t_texted c_t_above c_t_below c_t_at c_t_start c_t_isWord c_t_isFigures c_t_all c_t_known c_t_truth c_t_x c_t_h c_t_w c_t_weights) (some (.int out)) A) (wwX8_isTold cyB cyI cyJ cyZ cyS a_t a_t_w a_t_isKept a_t_text a_t_refused a_t_numbers a_t_weights c_t_texted c_t_above c_t_below c_t_at c_t_start c_t_isWord c_t_isFigures c_t_all c_t_known c_t_truth c_t_x c_t_h c_t_w c_t_weights) [(0, .ref a_t), (1, .long l4_1), (3, .int l4_3)] [] 4 := by
    intro n
    induction n with
    | zero => intro l4_1 l4_3 hf; exact (pb_lp_zero hf).elim
    | succ n ih4 =>
      intro l4_1 l4_3 hf
      obtain ⟨y4, hf, hl4⟩ := pb_lp_succ hf
      have hf : fX8_isTold_L4 c_t_known c_t_truth c_t_weights l4_1 l4_3 = some y4 := hf
      unfold fX8_isTold_L4 at hf
      refine pb_iload_n (pc := 4) C dX8_isTold_4 rfl 2 rfl ?_
      refine pb_sipush (v := 128) (pc := 5) C dX8_isTold_5 pb_kS_128 ?_
      refine pb_icmp_ge (pc := 8) (tgt := 38) C dX8_isTold_8 (by decide) (fun hc8 => ?_) (fun hc8 => ?_)
      · have hf := pb_pos hf hc8
        obtain rfl := Option.some.inj hf
        obtain rfl := pb_esc hl4
        refine pb_sub [0, 1] rfl ?_
        exact E4 l4_1 l4_3 hk4
      · have hf := pb_neg hf hc8
        refine pb_lload_n (pc := 11) C dX8_isTold_11 rfl 1 rfl ?_
        refine pb_aload_n (pc := 12) C dX8_isTold_12 rfl 0 rfl ?_
        refine pb_iload_n (pc := 13) C dX8_isTold_13 rfl 2 rfl ?_
        obtain ⟨r14, hr14, hf⟩ := pb_bind hf
        refine pb_callV (pc := 14) (n0 := 3) (ws' := (wwX8_isTold cyB cyI cyJ cyZ cyS a_t a_t_w a_t_isKept a_t_text a_t_refused a_t_numbers a_t_weights c_t_texted c_t_above c_t_below c_t_at c_t_start c_t_isWord c_t_isFigures c_t_all c_t_known c_t_truth c_t_x c_t_h c_t_w c_t_weights)) (rest := [.long l4_1]) (st2 := [.int r14, .long l4_1]) C (kcX8_isLeft l dC dI cyB cyI cyJ cyZ cyS a_t a_t_w a_t_isKept a_t_text a_t_refused a_t_numbers a_t_weights c_t_texted c_t_above c_t_below c_t_at c_t_start c_t_isWord c_t_isFigures c_t_all c_t_known c_t_truth c_t_x c_t_h c_t_weights l4_3 r14 hr14) pb_NW_b (pb_NW_x hX) (cwV 1 C.1.2.2.2.2 gX8_isTold_X8_isLeft rfl rfl rfl kdV_X8_isLeft ⟨Nat.le_of_ble_eq_true rfl, Nat.le_of_ble_eq_true rfl⟩) 0 rfl rfl [0, 2] [1] rfl rfl ⟨⟨_, rfl, rfl⟩, trivial⟩ rfl (by decide +kernel) (adl := [a_t, a_t_weights]) rfl rfl rfl rfl rfl (Nat.le_of_ble_eq_true rfl) ⟨Nat.le_refl _, Nat.le_refl _⟩ dX8_isTold_14 rfl ?_
        refine pb_if_eq (pc := 17) (tgt := 29) C dX8_isTold_17 (by decide) (fun hc17 => ?_) (fun hc17 => ?_)
        · have hf := pb_pos hf hc17
          refine pb_lconst (v := 0) (pc := 29) C dX8_isTold_29 pb_kL_0 ?_
          refine pb_ladd (pc := 30) C dX8_isTold_30 ?_
          obtain ⟨x31, ex31, hf⟩ := pb_bind hf
          have ex31 := Option.some.inj ex31
          refine pb_topl ex31 ?_
          refine pb_lstore_n (lv' := [(1, .long x31), (0, .ref a_t), (3, .int l4_3)]) (pc := 31) C dX8_isTold_31 rfl (by decide) rfl ?_
          refine pb_iinc (v := l4_3 + 1) (lv' := [(3, .int (l4_3 + 1)), (1, .long x31), (0, .ref a_t)]) (pc := 32) C dX8_isTold_32 2 rfl (pb_inc pb_kI_1 rfl) (by decide) rfl ?_
          refine pb_goto (pc := 35) (tgt := 4) C dX8_isTold_35 (by decide) ?_
          obtain rfl := Option.some.inj hf
          refine pb_sub [2, 1, 0] rfl ?_
          have hl4 := pb_inl hl4
          exact ih4 x31 (l4_3 + 1) hl4
        · have hf := pb_neg hf hc17
          refine pb_aload_n (pc := 20) C dX8_isTold_20 rfl 0 rfl ?_
          refine pb_get (pc := 21) C hnX8_isTold_X8 0 rfl rfl 12 (by decide) (List.mem_of_getElem? (i := 1) rfl) rfl rfl dX8_isTold_21 ?_
          refine pb_iload_n (pc := 24) C dX8_isTold_24 rfl 2 rfl ?_
          obtain ⟨g25, hf⟩ := pb_grd hf
          refine pb_lald (pc := 25) C 2 2 rfl rfl g25 dX8_isTold_25 ?_
          refine pb_goto (pc := 26) (tgt := 30) C dX8_isTold_26 (by decide) ?_
          refine pb_ladd (pc := 30) C dX8_isTold_30 ?_
          obtain ⟨x31, ex31, hf⟩ := pb_bind hf
          have ex31 := Option.some.inj ex31
          refine pb_topl ex31 ?_
          refine pb_lstore_n (lv' := [(1, .long x31), (0, .ref a_t), (3, .int l4_3)]) (pc := 31) C dX8_isTold_31 rfl (by decide) rfl ?_
          refine pb_iinc (v := l4_3 + 1) (lv' := [(3, .int (l4_3 + 1)), (1, .long x31), (0, .ref a_t)]) (pc := 32) C dX8_isTold_32 2 rfl (pb_inc pb_kI_1 rfl) (by decide) rfl ?_
          refine pb_goto (pc := 35) (tgt := 4) C dX8_isTold_35 (by decide) ?_
          obtain rfl := Option.some.inj hf
          refine pb_sub [2, 1, 0] rfl ?_
          have hl4 := pb_inl hl4
          exact ih4 x31 (l4_3 + 1) hl4
  refine pb_sub [2, 1, 0] rfl ?_
  exact L4 pb_FU 0 0 hz4
def rmX8_told : Room := { frames := 5, cells := 0, slots := 0, locals := 116 }
def wwX8_told (cyB cyI cyJ cyZ cyS : ClassId) (a_t a_t_w a_t_isKept a_t_text a_t_refused a_t_numbers a_t_weights : Nat) (c_t_texted : Int32) (c_t_above : Int64) (c_t_below : Int64) (c_t_at : Int32) (c_t_start : Int32) (c_t_isWord : Int32) (c_t_isFigures : Int32) (c_t_all : Int64) (c_t_known : Int32) (c_t_truth : Int32) (c_t_x : Int64) (c_t_h : Int64) (c_t_w : (Nat → Int32)) (c_t_refused : (Nat → Int32)) (c_t_weights : (Nat → Int64)) : va_W := [(a_t, .inr (8, [.ref a_t_w, .ref a_t_isKept, .ref a_t_text, .int c_t_texted, .ref a_t_refused, .long c_t_above, .long c_t_below, .int c_t_at, .int c_t_start, .int c_t_isWord, .int c_t_isFigures, .ref a_t_numbers, .ref a_t_weights, .long c_t_all, .int c_t_known, .int c_t_truth, .long c_t_x, .long c_t_h])), (a_t_w, .inl (cyI, 1508, .inl c_t_w)), (a_t_refused, .inl (cyI, 3, .inl c_t_refused)), (a_t_weights, .inl (cyJ, 128, .inr (.inl c_t_weights)))]
theorem hnX8_told_X8 : ∀ w ∈ wsX80, w ∈ wsX8_told := fun _ h => List.mem_cons_of_mem _ (List.mem_append_right _ h)
set_option maxHeartbeats 4000000 in
set_option maxRecDepth 100000 in
theorem kcX8_told (l : Launch) (dC : Nat → ClassId) (dI : Nat → Nat → Nat) (cyB cyI cyJ cyZ cyS : ClassId) (a_t a_t_w a_t_isKept a_t_text a_t_refused a_t_numbers a_t_weights : Nat) (c_t_texted : Int32) (c_t_above : Int64) (c_t_below : Int64) (c_t_at : Int32) (c_t_start : Int32) (c_t_isWord : Int32) (c_t_isFigures : Int32) (c_t_all : Int64) (c_t_known : Int32) (c_t_truth : Int32) (c_t_x : Int64) (c_t_h : Int64) (c_t_w : (Nat → Int32)) (c_t_refused : (Nat → Int32)) (c_t_weights : (Nat → Int64)) (p1 : Int32) (out : (Int32 × Int64 × Int32 × Int32 × (Nat → Int32) × (Nat → Int64))) (hf : fX8_told c_t_all c_t_known c_t_truth c_t_w c_t_refused c_t_weights p1 = some out) : pb_K l yX8_told wsX8_told rmX8_told (dC, dI) vwCl (pb_tys cyB cyI cyJ cyZ cyS) pb_NW [.ref a_t, .int p1] (wwX8_told cyB cyI cyJ cyZ cyS a_t a_t_w a_t_isKept a_t_text a_t_refused a_t_numbers a_t_weights c_t_texted c_t_above c_t_below c_t_at c_t_start c_t_isWord c_t_isFigures c_t_all c_t_known c_t_truth c_t_x c_t_h c_t_w c_t_refused c_t_weights) (wwX8_told cyB cyI cyJ cyZ cyS a_t a_t_w a_t_isKept a_t_text a_t_refused a_t_numbers a_t_weights c_t_texted c_t_above c_t_below c_t_at c_t_start c_t_isWord c_t_isFigures out.2.1 out.2.2.1 out.2.2.2.1 c_t_x c_t_h c_t_w out.2.2.2.2.1 out.2.2.2.2.2) (some (.int out.1)) := by
  unfold fX8_told at hf
  refine pb_K.ofV (cc := cX8_told) (maxL := 6) (ret := (some .int)) (lv0 := [(0, .ref a_t), (1, .int p1)]) (by decide) rfl (Nat.le_of_ble_eq_true rfl) rfl ?_
  intro p e s m below meth c A C hX hr hlk hA
  refine pb_iload_n (pc := 0) C dX8_told_0 rfl 1 rfl ?_
  refine pb_i2l (pc := 1) C dX8_told_1 ?_
  refine pb_lconst (v := 0) (pc := 2) C dX8_told_2 pb_kL_0 ?_
  refine pb_lconst (v := 1) (pc := 3) C dX8_told_3 pb_kL_1 ?_
  obtain ⟨r4, hr4, hf⟩ := pb_bind hf
  refine pb_callS (pc := 4) (n0 := 4) (ws' := (wwX8_told cyB cyI cyJ cyZ cyS a_t a_t_w a_t_isKept a_t_text a_t_refused a_t_numbers a_t_weights c_t_texted c_t_above c_t_below c_t_at c_t_start c_t_isWord c_t_isFigures c_t_all c_t_known c_t_truth c_t_x c_t_h c_t_w c_t_refused c_t_weights)) (rest := []) (st2 := [.int r4]) C (kcX8_in l dC dI cyB cyI cyJ cyZ cyS (Int32.toInt64 p1) 0 1 r4 hr4) pb_NW_b (pb_NW_x hX) (va_cwS 3 C.1.2.2.2.2 gX8_told_X8_in rfl rfl rfl kdS_X8_in ⟨Nat.le_of_ble_eq_true rfl, Nat.le_of_ble_eq_true rfl⟩) [] [0, 1, 2, 3] rfl rfl ⟨⟨_, rfl, rfl⟩, ⟨⟨_, rfl, rfl⟩, ⟨⟨_, rfl, rfl⟩, ⟨⟨_, rfl, rfl⟩, trivial⟩⟩⟩⟩ rfl (by decide +kernel) (adl := []) rfl rfl rfl rfl rfl (Nat.le_of_ble_eq_true rfl) ⟨Nat.le_refl _, Nat.le_refl _⟩ dX8_told_4 rfl ?_
  refine pb_if_ne (pc := 7) (tgt := 15) C dX8_told_7 (by decide) (fun hc7 => ?_) (fun hc7 => ?_)
  · have hf := pb_neg hf hc7
    refine pb_aload_n (pc := 15) C dX8_told_15 rfl 0 rfl ?_
    obtain ⟨r16, hr16, hf⟩ := pb_bind hf
    refine pb_callV (pc := 16) (n0 := 4) (ws' := (wwX8_told cyB cyI cyJ cyZ cyS a_t a_t_w a_t_isKept a_t_text a_t_refused a_t_numbers a_t_weights c_t_texted c_t_above c_t_below c_t_at c_t_start c_t_isWord c_t_isFigures r16.2.1 c_t_known c_t_truth c_t_x c_t_h c_t_w c_t_refused r16.2.2)) (rest := []) (st2 := [.int r16.1]) C (kcX8_fits l dC dI cyB cyI cyJ cyZ cyS a_t a_t_w a_t_isKept a_t_text a_t_refused a_t_numbers a_t_weights c_t_texted c_t_above c_t_below c_t_at c_t_start c_t_isWord c_t_isFigures c_t_all c_t_known c_t_truth c_t_x c_t_h c_t_w c_t_weights r16 hr16) pb_NW_b (pb_NW_x hX) (cwV 0 C.1.2.2.2.2 gX8_told_X8_fits rfl rfl rfl kdV_X8_fits ⟨Nat.le_of_ble_eq_true rfl, Nat.le_of_ble_eq_true rfl⟩) 0 rfl rfl [0, 1, 3] [2] rfl rfl ⟨⟨_, rfl, rfl⟩, trivial⟩ rfl (by decide +kernel) (adl := [a_t, a_t_w, a_t_weights]) rfl rfl rfl rfl rfl (Nat.le_of_ble_eq_true rfl) ⟨Nat.le_refl _, Nat.le_refl _⟩ dX8_told_16 rfl ?_
    refine pb_if_ne (pc := 19) (tgt := 27) C dX8_told_19 (by decide) (fun hc19 => ?_) (fun hc19 => ?_)
    · have hf := pb_neg hf hc19
      refine pb_iconst (v := 0) (pc := 27) C dX8_told_27 pb_kI_0 ?_
      refine pb_istore_n (lv' := [(2, .int 0), (0, .ref a_t), (1, .int p1)]) (pc := 28) C dX8_told_28 rfl (by decide) rfl ?_
      refine pb_iconst (v := (-1)) (pc := 29) C dX8_told_29 pb_kI_m1 ?_
      refine pb_istore_n (lv' := [(3, .int (-1)), (2, .int 0), (0, .ref a_t), (1, .int p1)]) (pc := 30) C dX8_told_30 rfl (by decide) rfl ?_
      refine pb_iconst (v := 0) (pc := 31) C dX8_told_31 pb_kI_0 ?_
      refine pb_istore (lv' := [(4, .int 0), (3, .int (-1)), (2, .int 0), (0, .ref a_t), (1, .int p1)]) (pc := 32) C dX8_told_32 (by decide) rfl ?_
      obtain ⟨z34, hz34, hk34⟩ := pb_bind hf
      have E34 : ∀ (e34_2 : Int32) (e34_3 : Int32) (e34_4 : Int32) (e34_c_t_known : Int32) (e34_c_t_truth : Int32), fX8_told_E34 c_t_refused p1 r16 e34_2 e34_3 e34_4 e34_c_t_known e34_c_t_truth = some out → pb_V p l e rmX8_told s m (([.ref a_t, .int p1] : List Value).toArray) below meth c 6 (dC, dI) vwCl A 0 0 (pb_MQ below (([.ref a_t, .int p1] : List Value).toArray) s (dC, dI) vwCl (wwX8_told cyB cyI cyJ cyZ cyS a_t a_t_w a_t_isKept a_t_text a_t_refused a_t_numbers a_t_weights c_t_texted c_t_above c_t_below c_t_at c_t_start c_t_isWord c_t_isFigures c_t_all c_t_known c_t_truth c_t_x c_t_h c_t_w c_t_refused c_t_weights) (wwX8_told cyB cyI cyJ cyZ cyS a_t a_t_w a_t_isKept a_t_text a_t_refused a_t_numbers a_t_weights c_t_texted c_t_above c_t_below c_t_at c_t_start c_t_isWord c_t_isFigures out.2.1 out.2.2.1 out.2.2.2.1 c_t_x c_t_h c_t_w out.2.2.2.2.1 out.2.2.2.2.2) (some (.int out.1)) A) (wwX8_told cyB cyI cyJ cyZ cyS a_t a_t_w a_t_isKept a_t_text a_t_refused a_t_numbers a_t_weights c_t_texted c_t_above c_t_below c_t_at c_t_start c_t_isWord c_t_isFigures r16.2.1 e34_c_t_known e34_c_t_truth c_t_x c_t_h c_t_w c_t_refused r16.2.2) [(1, .int p1), (2, .int e34_2), (3, .int e34_3)] [] 123 := by
        intro e34_2 e34_3 e34_4 e34_c_t_known e34_c_t_truth hf
        unfold fX8_told_E34 at hf
        refine pb_iload_n (pc := 123) C dX8_told_123 rfl 0 rfl ?_
        refine pb_if_ne (pc := 124) (tgt := 131) C dX8_told_124 (by decide) (fun hc124 => ?_) (fun hc124 => ?_)
        · have hf := pb_neg hf hc124
          refine pb_iload_n (pc := 131) C dX8_told_131 rfl 2 rfl ?_
          obtain rfl := Option.some.inj hf
          exact pb_iret (pc := 132) C hr hlk hA dX8_told_132
        · have hf := pb_pos hf hc124
          refine pb_iload_n (pc := 127) C dX8_told_127 rfl 1 rfl ?_
          refine pb_goto (pc := 128) (tgt := 132) C dX8_told_128 (by decide) ?_
          obtain rfl := Option.some.inj hf
          exact pb_iret (pc := 132) C hr hlk hA dX8_told_132
      have L34 : ∀ (n : Nat) (l34_2 : Int32) (l34_3 : Int32) (l34_4 : Int32) (l34_c_t_known : Int32) (l34_c_t_truth : Int32), pb_lp (fun y => fX8_told_L34 c_t_w r16 y.1 y.2.1 y.2.2.1 y.2.2.2.1 y.2.2.2.2) n (l34_2, l34_3, l34_4, l34_c_t_known, l34_c_t_truth) = some z34 → pb_V p l e rmX8_told s m (([.ref a_t, .int p1] : List Value).toArray) below meth c 6 (dC, dI) vwCl A 0 0 (pb_MQ below (([.ref a_t, .int p1] : List Value).toArray) s (dC, dI) vwCl (wwX8_told cyB cyI cyJ cyZ cyS a_t a_t_w a_t_isKept a_t_text a_t_refused a_t_numbers a_t_weights c_t_texted c_t_above c_t_below c_t_at c_t_start c_t_isWord c_t_isFigures c_t_all c_t_known c_t_truth c_t_x c_t_h c_t_w c_t_refused c_t_weights) (wwX8_told cyB cyI cyJ cyZ cyS a_t a_t_w a_t_isKept a_t_text a_t_refused a_t_numbers a_t_weights c_t_texted c_t_above c_t_below c_t_at c_t_start c_t_isWord c_t_isFigures out.2.1 out.2.2.1 out.2.2.2.1 c_t_x c_t_h c_t_w out.2.2.2.2.1 out.2.2.2.2.2) (some (.int out.1)) A) (wwX8_told cyB cyI cyJ cyZ cyS a_t a_t_w a_t_isKept a_t_text a_t_refused a_t_numbers a_t_weights c_t_texted c_t_above c_t_below c_t_at c_t_start c_t_isWord c_t_isFigures r16.2.1 l34_c_t_known l34_c_t_truth c_t_x c_t_h c_t_w c_t_refused r16.2.2) [(0, .ref a_t), (1, .int p1), (2, .int l34_2), (3, .int l34_3), (4, .int l34_4)] [] 34 := by
        intro n
        induction n with
        | zero => intro l34_2 l34_3 l34_4 l34_c_t_known l34_c_t_truth hf; exact (pb_lp_zero hf).elim
        | succ n ih34 =>
          intro l34_2 l34_3 l34_4 l34_c_t_known l34_c_t_truth hf
          obtain ⟨y34, hf, hl34⟩ := pb_lp_succ hf
          have hf : fX8_told_L34 c_t_w r16 l34_2 l34_3 l34_4 l34_c_t_known l34_c_t_truth = some y34 := hf
          unfold fX8_told_L34 at hf
          refine pb_iload (pc := 34) C dX8_told_34 4 rfl ?_
          refine pb_bipush (v := 15) (pc := 36) C dX8_told_36 pb_kB_15 ?_
          refine pb_icmp_ge (pc := 38) (tgt := 123) C dX8_told_38 (by decide) (fun hc38 => ?_) (fun hc38 => ?_)
          · have hf := pb_pos hf hc38
            obtain rfl := Option.some.inj hf
            obtain rfl := pb_esc hl34
            refine pb_sub [1, 2, 3] rfl ?_
            exact E34 l34_2 l34_3 l34_4 l34_c_t_known l34_c_t_truth hk34
          · have hf := pb_neg hf hc38
            refine pb_aload_n (pc := 41) C dX8_told_41 rfl 0 rfl ?_
            refine pb_iload (pc := 42) C dX8_told_42 4 rfl ?_
            refine pb_bipush (v := 14) (pc := 44) C dX8_told_44 pb_kB_14 ?_
            obtain ⟨y59, hf, hk59⟩ := pb_bind hf
            have J59 : ∀ (j59_s1 : Int32), fX8_told_J59 c_t_w l34_2 l34_3 l34_4 r16 j59_s1 = some y34 → pb_V p l e rmX8_told s m (([.ref a_t, .int p1] : List Value).toArray) below meth c 6 (dC, dI) vwCl A 0 0 (pb_MQ below (([.ref a_t, .int p1] : List Value).toArray) s (dC, dI) vwCl (wwX8_told cyB cyI cyJ cyZ cyS a_t a_t_w a_t_isKept a_t_text a_t_refused a_t_numbers a_t_weights c_t_texted c_t_above c_t_below c_t_at c_t_start c_t_isWord c_t_isFigures c_t_all c_t_known c_t_truth c_t_x c_t_h c_t_w c_t_refused c_t_weights) (wwX8_told cyB cyI cyJ cyZ cyS a_t a_t_w a_t_isKept a_t_text a_t_refused a_t_numbers a_t_weights c_t_texted c_t_above c_t_below c_t_at c_t_start c_t_isWord c_t_isFigures out.2.1 out.2.2.1 out.2.2.2.1 c_t_x c_t_h c_t_w out.2.2.2.2.1 out.2.2.2.2.2) (some (.int out.1)) A) (wwX8_told cyB cyI cyJ cyZ cyS a_t a_t_w a_t_isKept a_t_text a_t_refused a_t_numbers a_t_weights c_t_texted c_t_above c_t_below c_t_at c_t_start c_t_isWord c_t_isFigures r16.2.1 l34_c_t_known l34_c_t_truth c_t_x c_t_h c_t_w c_t_refused r16.2.2) [(0, .ref a_t), (1, .int p1), (2, .int l34_2), (3, .int l34_3), (4, .int l34_4)] [.int j59_s1, .ref a_t] 59 := by
              intro j59_s1 hf
              unfold fX8_told_J59 at hf
              refine pb_put (pc := 59) (ws' := (wwX8_told cyB cyI cyJ cyZ cyS a_t a_t_w a_t_isKept a_t_text a_t_refused a_t_numbers a_t_weights c_t_texted c_t_above c_t_below c_t_at c_t_start c_t_isWord c_t_isFigures r16.2.1 j59_s1 l34_c_t_truth c_t_x c_t_h c_t_w c_t_refused r16.2.2)) C hnX8_told_X8 tyX8 tyX8_ok nmX8 0 rfl rfl 14 (by decide) (List.mem_of_getElem? (i := 1) rfl) rfl rfl rfl rfl (Nat.le_of_ble_eq_true rfl) rfl dX8_told_59 ?_
              refine pb_aload_n (pc := 62) C dX8_told_62 rfl 0 rfl ?_
              refine pb_iload (pc := 63) C dX8_told_63 4 rfl ?_
              refine pb_iconst (v := 2) (pc := 65) C dX8_told_65 pb_kI_2 ?_
              refine pb_irem (pc := 66) C dX8_told_66 pb_nzI_2 ?_
              refine pb_iconst (v := 1) (pc := 67) C dX8_told_67 pb_kI_1 ?_
              obtain ⟨y79, hf, hk79⟩ := pb_bind hf
              have J79 : ∀ (j79_s1 : Int32), fX8_told_J79 c_t_w j59_s1 l34_2 l34_3 l34_4 r16 j79_s1 = some y34 → pb_V p l e rmX8_told s m (([.ref a_t, .int p1] : List Value).toArray) below meth c 6 (dC, dI) vwCl A 0 0 (pb_MQ below (([.ref a_t, .int p1] : List Value).toArray) s (dC, dI) vwCl (wwX8_told cyB cyI cyJ cyZ cyS a_t a_t_w a_t_isKept a_t_text a_t_refused a_t_numbers a_t_weights c_t_texted c_t_above c_t_below c_t_at c_t_start c_t_isWord c_t_isFigures c_t_all c_t_known c_t_truth c_t_x c_t_h c_t_w c_t_refused c_t_weights) (wwX8_told cyB cyI cyJ cyZ cyS a_t a_t_w a_t_isKept a_t_text a_t_refused a_t_numbers a_t_weights c_t_texted c_t_above c_t_below c_t_at c_t_start c_t_isWord c_t_isFigures out.2.1 out.2.2.1 out.2.2.2.1 c_t_x c_t_h c_t_w out.2.2.2.2.1 out.2.2.2.2.2) (some (.int out.1)) A) (wwX8_told cyB cyI cyJ cyZ cyS a_t a_t_w a_t_isKept a_t_text a_t_refused a_t_numbers a_t_weights c_t_texted c_t_above c_t_below c_t_at c_t_start c_t_isWord c_t_isFigures r16.2.1 j59_s1 l34_c_t_truth c_t_x c_t_h c_t_w c_t_refused r16.2.2) [(0, .ref a_t), (1, .int p1), (2, .int l34_2), (3, .int l34_3), (4, .int l34_4)] [.int j79_s1, .ref a_t] 79 := by
                intro j79_s1 hf
                unfold fX8_told_J79 at hf
                refine pb_put (pc := 79) (ws' := (wwX8_told cyB cyI cyJ cyZ cyS a_t a_t_w a_t_isKept a_t_text a_t_refused a_t_numbers a_t_weights c_t_texted c_t_above c_t_below c_t_at c_t_start c_t_isWord c_t_isFigures r16.2.1 j59_s1 j79_s1 c_t_x c_t_h c_t_w c_t_refused r16.2.2)) C hnX8_told_X8 tyX8 tyX8_ok nmX8 0 rfl rfl 15 (by decide) (List.mem_of_getElem? (i := 2) rfl) rfl rfl rfl rfl (Nat.le_of_ble_eq_true rfl) rfl dX8_told_79 ?_
                refine pb_aload_n (pc := 82) C dX8_told_82 rfl 0 rfl ?_
                obtain ⟨r83, hr83, hf⟩ := pb_bind hf
                refine pb_callV (pc := 83) (n0 := 4) (ws' := (wwX8_told cyB cyI cyJ cyZ cyS a_t a_t_w a_t_isKept a_t_text a_t_refused a_t_numbers a_t_weights c_t_texted c_t_above c_t_below c_t_at c_t_start c_t_isWord c_t_isFigures r16.2.1 j59_s1 j79_s1 c_t_x c_t_h c_t_w c_t_refused r16.2.2)) (rest := []) (st2 := [.int r83]) C (kcX8_isTold l dC dI cyB cyI cyJ cyZ cyS a_t a_t_w a_t_isKept a_t_text a_t_refused a_t_numbers a_t_weights c_t_texted c_t_above c_t_below c_t_at c_t_start c_t_isWord c_t_isFigures r16.2.1 j59_s1 j79_s1 c_t_x c_t_h c_t_w r16.2.2 r83 hr83) pb_NW_b (pb_NW_x hX) (cwV 0 C.1.2.2.2.2 gX8_told_X8_isTold rfl rfl rfl kdV_X8_isTold ⟨Nat.le_of_ble_eq_true rfl, Nat.le_of_ble_eq_true rfl⟩) 0 rfl rfl [0, 1, 3] [2] rfl rfl ⟨⟨_, rfl, rfl⟩, trivial⟩ rfl (by decide +kernel) (adl := [a_t, a_t_w, a_t_weights]) rfl rfl rfl rfl rfl (Nat.le_of_ble_eq_true rfl) ⟨Nat.le_refl _, Nat.le_refl _⟩ dX8_told_83 rfl ?_
                refine pb_istore (lv' := [(5, .int r83), (0, .ref a_t), (1, .int p1), (2, .int l34_2), (3, .int l34_3), (4, .int l34_4)]) (pc := 86) C dX8_told_86 (by decide) rfl ?_
                refine pb_iload (pc := 88) C dX8_told_88 0 rfl ?_
                obtain ⟨y103, hf, hk103⟩ := pb_bind hf
                have J103 : ∀ (j103_s0 : Int32), fX8_told_J103 j59_s1 j79_s1 l34_2 l34_4 r83 j103_s0 = some y34 → pb_V p l e rmX8_told s m (([.ref a_t, .int p1] : List Value).toArray) below meth c 6 (dC, dI) vwCl A 0 0 (pb_MQ below (([.ref a_t, .int p1] : List Value).toArray) s (dC, dI) vwCl (wwX8_told cyB cyI cyJ cyZ cyS a_t a_t_w a_t_isKept a_t_text a_t_refused a_t_numbers a_t_weights c_t_texted c_t_above c_t_below c_t_at c_t_start c_t_isWord c_t_isFigures c_t_all c_t_known c_t_truth c_t_x c_t_h c_t_w c_t_refused c_t_weights) (wwX8_told cyB cyI cyJ cyZ cyS a_t a_t_w a_t_isKept a_t_text a_t_refused a_t_numbers a_t_weights c_t_texted c_t_above c_t_below c_t_at c_t_start c_t_isWord c_t_isFigures out.2.1 out.2.2.1 out.2.2.2.1 c_t_x c_t_h c_t_w out.2.2.2.2.1 out.2.2.2.2.2) (some (.int out.1)) A) (wwX8_told cyB cyI cyJ cyZ cyS a_t a_t_w a_t_isKept a_t_text a_t_refused a_t_numbers a_t_weights c_t_texted c_t_above c_t_below c_t_at c_t_start c_t_isWord c_t_isFigures r16.2.1 j59_s1 j79_s1 c_t_x c_t_h c_t_w c_t_refused r16.2.2) [(0, .ref a_t), (1, .int p1), (2, .int l34_2), (4, .int l34_4), (5, .int r83)] [.int j103_s0] 103 := by
                  intro j103_s0 hf
                  unfold fX8_told_J103 at hf
                  refine pb_istore_n (lv' := [(3, .int j103_s0), (0, .ref a_t), (1, .int p1), (2, .int l34_2), (4, .int l34_4), (5, .int r83)]) (pc := 103) C dX8_told_103 rfl (by decide) rfl ?_
                  refine pb_iload_n (pc := 104) C dX8_told_104 rfl 3 rfl ?_
                  refine pb_iload (pc := 105) C dX8_told_105 5 rfl ?_
                  refine pb_if_eq (pc := 107) (tgt := 114) C dX8_told_107 (by decide) (fun hc107 => ?_) (fun hc107 => ?_)
                  · have hf := pb_pos hf hc107
                    refine pb_iconst (v := 0) (pc := 114) C dX8_told_114 pb_kI_0 ?_
                    refine pb_iadd (pc := 115) C dX8_told_115 ?_
                    obtain ⟨x116, ex116, hf⟩ := pb_bind hf
                    have ex116 := Option.some.inj ex116
                    refine pb_topi ex116 ?_
                    refine pb_istore_n (lv' := [(2, .int x116), (3, .int j103_s0), (0, .ref a_t), (1, .int p1), (4, .int l34_4), (5, .int r83)]) (pc := 116) C dX8_told_116 rfl (by decide) rfl ?_
                    refine pb_iinc (v := l34_4 + 1) (lv' := [(4, .int (l34_4 + 1)), (2, .int x116), (3, .int j103_s0), (0, .ref a_t), (1, .int p1), (5, .int r83)]) (pc := 117) C dX8_told_117 4 rfl (pb_inc pb_kI_1 rfl) (by decide) rfl ?_
                    refine pb_goto (pc := 120) (tgt := 34) C dX8_told_120 (by decide) ?_
                    obtain rfl := Option.some.inj hf
                    refine pb_sub [3, 4, 1, 2, 0] rfl ?_
                    have hl34 := pb_inl hl34
                    exact ih34 x116 j103_s0 (l34_4 + 1) j59_s1 j79_s1 hl34
                  · have hf := pb_neg hf hc107
                    refine pb_iconst (v := 1) (pc := 110) C dX8_told_110 pb_kI_1 ?_
                    refine pb_goto (pc := 111) (tgt := 115) C dX8_told_111 (by decide) ?_
                    refine pb_iadd (pc := 115) C dX8_told_115 ?_
                    obtain ⟨x116, ex116, hf⟩ := pb_bind hf
                    have ex116 := Option.some.inj ex116
                    refine pb_topi ex116 ?_
                    refine pb_istore_n (lv' := [(2, .int x116), (3, .int j103_s0), (0, .ref a_t), (1, .int p1), (4, .int l34_4), (5, .int r83)]) (pc := 116) C dX8_told_116 rfl (by decide) rfl ?_
                    refine pb_iinc (v := l34_4 + 1) (lv' := [(4, .int (l34_4 + 1)), (2, .int x116), (3, .int j103_s0), (0, .ref a_t), (1, .int p1), (5, .int r83)]) (pc := 117) C dX8_told_117 4 rfl (pb_inc pb_kI_1 rfl) (by decide) rfl ?_
                    refine pb_goto (pc := 120) (tgt := 34) C dX8_told_120 (by decide) ?_
                    obtain rfl := Option.some.inj hf
                    refine pb_sub [3, 4, 1, 2, 0] rfl ?_
                    have hl34 := pb_inl hl34
                    exact ih34 x116 j103_s0 (l34_4 + 1) j59_s1 j79_s1 hl34
                refine pb_if_eq (pc := 90) (tgt := 102) C dX8_told_90 (by decide) (fun hc90 => ?_) (fun hc90 => ?_)
                · have hf := pb_pos hf hc90
                  refine pb_iload_n (pc := 102) C dX8_told_102 rfl 4 rfl ?_
                  obtain rfl := Option.some.inj hf
                  refine pb_sub [1, 2, 3, 5, 0] rfl ?_
                  exact J103 l34_3 hk103
                · have hf := pb_neg hf hc90
                  refine pb_iload_n (pc := 93) C dX8_told_93 rfl 3 rfl ?_
                  refine pb_if_ne (pc := 94) (tgt := 102) C dX8_told_94 (by decide) (fun hc94 => ?_) (fun hc94 => ?_)
                  · have hf := pb_neg hf hc94
                    refine pb_iload_n (pc := 102) C dX8_told_102 rfl 4 rfl ?_
                    obtain rfl := Option.some.inj hf
                    refine pb_sub [1, 2, 3, 5, 0] rfl ?_
                    exact J103 l34_3 hk103
                  · have hf := pb_pos hf hc94
                    refine pb_iload (pc := 97) C dX8_told_97 5 rfl ?_
                    refine pb_goto (pc := 99) (tgt := 103) C dX8_told_99 (by decide) ?_
                    obtain rfl := Option.some.inj hf
                    refine pb_sub [1, 2, 3, 5, 0] rfl ?_
                    exact J103 l34_4 hk103
              refine pb_icmp_ne (pc := 68) (tgt := 78) C dX8_told_68 (by decide) (fun hc68 => ?_) (fun hc68 => ?_)
              · have hf := pb_neg hf hc68
                refine pb_iconst (v := 0) (pc := 78) C dX8_told_78 pb_kI_0 ?_
                obtain rfl := Option.some.inj hf
                exact J79 0 hk79
              · have hf := pb_pos hf hc68
                refine pb_aload_n (pc := 71) C dX8_told_71 rfl 0 rfl ?_
                refine pb_get (pc := 72) C hnX8_told_X8 0 rfl rfl 14 (by decide) (List.mem_of_getElem? (i := 1) rfl) rfl rfl dX8_told_72 ?_
                refine pb_goto (pc := 75) (tgt := 79) C dX8_told_75 (by decide) ?_
                obtain rfl := Option.some.inj hf
                exact J79 j59_s1 hk79
            refine pb_icmp_ne (pc := 46) (tgt := 53) C dX8_told_46 (by decide) (fun hc46 => ?_) (fun hc46 => ?_)
            · have hf := pb_neg hf hc46
              refine pb_iconst (v := 1) (pc := 53) C dX8_told_53 pb_kI_1 ?_
              refine pb_iload (pc := 54) C dX8_told_54 4 rfl ?_
              refine pb_iconst (v := 2) (pc := 56) C dX8_told_56 pb_kI_2 ?_
              refine pb_idiv (pc := 57) C dX8_told_57 pb_nzI_2 ?_
              refine pb_ishl (pc := 58) C dX8_told_58 ?_
              obtain rfl := Option.some.inj hf
              exact J59 (1 <<< ((l34_4 / 2) &&& 31)) hk59
            · have hf := pb_pos hf hc46
              refine pb_iconst (v := 0) (pc := 49) C dX8_told_49 pb_kI_0 ?_
              refine pb_goto (pc := 50) (tgt := 59) C dX8_told_50 (by decide) ?_
              obtain rfl := Option.some.inj hf
              exact J59 0 hk59
      refine pb_sub [3, 4, 2, 1, 0] rfl ?_
      exact L34 pb_FU 0 (-1) 0 c_t_known c_t_truth hz34
    · have hf := pb_pos hf hc19
      refine pb_aload_n (pc := 22) C dX8_told_22 rfl 0 rfl ?_
      obtain ⟨r23, hr23, hf⟩ := pb_bind hf
      refine pb_callV (pc := 23) (n0 := 4) (ws' := (wwX8_told cyB cyI cyJ cyZ cyS a_t a_t_w a_t_isKept a_t_text a_t_refused a_t_numbers a_t_weights c_t_texted c_t_above c_t_below c_t_at c_t_start c_t_isWord c_t_isFigures r16.2.1 c_t_known c_t_truth c_t_x c_t_h c_t_w r23.2 r16.2.2)) (rest := []) (st2 := [.int r23.1]) C (kcX8_no l dC dI cyB cyI cyJ cyZ cyS a_t a_t_w a_t_isKept a_t_text a_t_refused a_t_numbers a_t_weights c_t_texted c_t_above c_t_below c_t_at c_t_start c_t_isWord c_t_isFigures r16.2.1 c_t_known c_t_truth c_t_x c_t_h c_t_refused r23 hr23) pb_NW_b (pb_NW_x hX) (cwV 0 C.1.2.2.2.2 gX8_told_X8_no rfl rfl rfl kdV_X8_no ⟨Nat.le_of_ble_eq_true rfl, Nat.le_of_ble_eq_true rfl⟩) 0 rfl rfl [0, 2] [1, 3] rfl rfl ⟨⟨_, rfl, rfl⟩, ⟨⟨_, rfl, rfl⟩, trivial⟩⟩ rfl (by decide +kernel) (adl := [a_t, a_t_refused]) rfl rfl rfl rfl rfl (Nat.le_of_ble_eq_true rfl) ⟨Nat.le_refl _, Nat.le_refl _⟩ dX8_told_23 rfl ?_
      obtain rfl := Option.some.inj hf
      exact pb_iret (pc := 26) C hr hlk hA dX8_told_26
  · have hf := pb_pos hf hc7
    refine pb_aload_n (pc := 10) C dX8_told_10 rfl 0 rfl ?_
    obtain ⟨r11, hr11, hf⟩ := pb_bind hf
    refine pb_callV (pc := 11) (n0 := 4) (ws' := (wwX8_told cyB cyI cyJ cyZ cyS a_t a_t_w a_t_isKept a_t_text a_t_refused a_t_numbers a_t_weights c_t_texted c_t_above c_t_below c_t_at c_t_start c_t_isWord c_t_isFigures c_t_all c_t_known c_t_truth c_t_x c_t_h c_t_w r11.2 c_t_weights)) (rest := []) (st2 := [.int r11.1]) C (kcX8_bad l dC dI cyB cyI cyJ cyZ cyS a_t a_t_w a_t_isKept a_t_text a_t_refused a_t_numbers a_t_weights c_t_texted c_t_above c_t_below c_t_at c_t_start c_t_isWord c_t_isFigures c_t_all c_t_known c_t_truth c_t_x c_t_h c_t_refused r11 hr11) pb_NW_b (pb_NW_x hX) (cwV 0 C.1.2.2.2.2 gX8_told_X8_bad rfl rfl rfl kdV_X8_bad ⟨Nat.le_of_ble_eq_true rfl, Nat.le_of_ble_eq_true rfl⟩) 0 rfl rfl [0, 2] [1, 3] rfl rfl ⟨⟨_, rfl, rfl⟩, ⟨⟨_, rfl, rfl⟩, trivial⟩⟩ rfl (by decide +kernel) (adl := [a_t, a_t_refused]) rfl rfl rfl rfl rfl (Nat.le_of_ble_eq_true rfl) ⟨Nat.le_refl _, Nat.le_refl _⟩ dX8_told_11 rfl ?_
    obtain rfl := Option.some.inj hf
    exact pb_iret (pc := 14) C hr hlk hA dX8_told_14
def rmX8_draw : Room := { frames := 0, cells := 0, slots := 0, locals := 0 }
def wwX8_draw (cyB cyI cyJ cyZ cyS : ClassId) (a_t a_t_w a_t_isKept a_t_text a_t_refused a_t_numbers a_t_weights : Nat) (c_t_texted : Int32) (c_t_above : Int64) (c_t_below : Int64) (c_t_at : Int32) (c_t_start : Int32) (c_t_isWord : Int32) (c_t_isFigures : Int32) (c_t_all : Int64) (c_t_known : Int32) (c_t_truth : Int32) (c_t_x : Int64) (c_t_h : Int64) : va_W := [(a_t, .inr (8, [.ref a_t_w, .ref a_t_isKept, .ref a_t_text, .int c_t_texted, .ref a_t_refused, .long c_t_above, .long c_t_below, .int c_t_at, .int c_t_start, .int c_t_isWord, .int c_t_isFigures, .ref a_t_numbers, .ref a_t_weights, .long c_t_all, .int c_t_known, .int c_t_truth, .long c_t_x, .long c_t_h]))]
theorem hnX8_draw_X8 : ∀ w ∈ wsX80, w ∈ wsX8_draw := fun _ h => List.mem_cons_of_mem _ (List.mem_append_right _ h)
set_option maxHeartbeats 4000000 in
set_option maxRecDepth 100000 in
theorem kcX8_draw (l : Launch) (dC : Nat → ClassId) (dI : Nat → Nat → Nat) (cyB cyI cyJ cyZ cyS : ClassId) (a_t a_t_w a_t_isKept a_t_text a_t_refused a_t_numbers a_t_weights : Nat) (c_t_texted : Int32) (c_t_above : Int64) (c_t_below : Int64) (c_t_at : Int32) (c_t_start : Int32) (c_t_isWord : Int32) (c_t_isFigures : Int32) (c_t_all : Int64) (c_t_known : Int32) (c_t_truth : Int32) (c_t_x : Int64) (c_t_h : Int64) (p1 : Int32) (out : (Int32 × Int64)) (hf : fX8_draw c_t_x p1 = some out) : pb_K l yX8_draw wsX8_draw rmX8_draw (dC, dI) vwCl (pb_tys cyB cyI cyJ cyZ cyS) pb_NW [.ref a_t, .int p1] (wwX8_draw cyB cyI cyJ cyZ cyS a_t a_t_w a_t_isKept a_t_text a_t_refused a_t_numbers a_t_weights c_t_texted c_t_above c_t_below c_t_at c_t_start c_t_isWord c_t_isFigures c_t_all c_t_known c_t_truth c_t_x c_t_h) (wwX8_draw cyB cyI cyJ cyZ cyS a_t a_t_w a_t_isKept a_t_text a_t_refused a_t_numbers a_t_weights c_t_texted c_t_above c_t_below c_t_at c_t_start c_t_isWord c_t_isFigures c_t_all c_t_known c_t_truth out.2 c_t_h) (some (.int out.1)) := by
  unfold fX8_draw at hf
  refine pb_K.ofV (cc := cX8_draw) (maxL := 2) (ret := (some .int)) (lv0 := [(0, .ref a_t), (1, .int p1)]) (by decide) rfl (Nat.le_of_ble_eq_true rfl) rfl ?_
  intro p e s m below meth c A C hX hr hlk hA
  refine pb_aload_n (pc := 0) C dX8_draw_0 rfl 0 rfl ?_
  refine pb_aload_n (pc := 1) C dX8_draw_1 rfl 0 rfl ?_
  refine pb_get (pc := 2) C hnX8_draw_X8 0 rfl rfl 16 (by decide) (List.mem_of_getElem? (i := 1) rfl) rfl rfl dX8_draw_2 ?_
  refine pb_ldc2 (v := 1103515245) (pc := 5) C dX8_draw_5 (List.mem_of_getElem? (i := 2) rfl) ?_
  refine pb_lmul (pc := 8) C dX8_draw_8 ?_
  refine pb_ldc2 (v := 12345) (pc := 9) C dX8_draw_9 (List.mem_of_getElem? (i := 3) rfl) ?_
  refine pb_ladd (pc := 12) C dX8_draw_12 ?_
  refine pb_ldc2 (v := 2147483648) (pc := 13) C dX8_draw_13 (List.mem_of_getElem? (i := 4) rfl) ?_
  refine pb_lrem (pc := 16) C dX8_draw_16 pb_nzJ_2147483648 ?_
  obtain ⟨x17, ex17, hf⟩ := pb_bind hf
  have ex17 := Option.some.inj ex17
  refine pb_topl ex17 ?_
  refine pb_put (pc := 17) (ws' := (wwX8_draw cyB cyI cyJ cyZ cyS a_t a_t_w a_t_isKept a_t_text a_t_refused a_t_numbers a_t_weights c_t_texted c_t_above c_t_below c_t_at c_t_start c_t_isWord c_t_isFigures c_t_all c_t_known c_t_truth x17 c_t_h)) C hnX8_draw_X8 tyX8 tyX8_ok nmX8 0 rfl rfl 16 (by decide) (List.mem_of_getElem? (i := 1) rfl) rfl rfl rfl rfl (Nat.le_of_ble_eq_true rfl) rfl dX8_draw_17 ?_
  refine pb_aload_n (pc := 20) C dX8_draw_20 rfl 0 rfl ?_
  refine pb_get (pc := 21) C hnX8_draw_X8 0 rfl rfl 16 (by decide) (List.mem_of_getElem? (i := 1) rfl) rfl rfl dX8_draw_21 ?_
  refine pb_ldc2 (v := 65536) (pc := 24) C dX8_draw_24 (List.mem_of_getElem? (i := 5) rfl) ?_
  refine pb_ldiv (pc := 27) C dX8_draw_27 pb_nzJ_65536 ?_
  refine pb_iload_n (pc := 28) C dX8_draw_28 rfl 1 rfl ?_
  refine pb_i2l (pc := 29) C dX8_draw_29 ?_
  obtain ⟨g30, hf⟩ := pb_grd hf
  refine pb_lrem (pc := 30) C dX8_draw_30 g30 ?_
  refine pb_l2i (pc := 31) C dX8_draw_31 ?_
  obtain rfl := Option.some.inj hf
  exact pb_iret (pc := 32) C hr hlk hA dX8_draw_32
def rmX8_pastAt : Room := { frames := 0, cells := 0, slots := 0, locals := 0 }
def wwX8_pastAt (cyB cyI cyJ cyZ cyS : ClassId) (a_t a_t_w a_t_isKept a_t_text a_t_refused a_t_numbers a_t_weights : Nat) (c_t_texted : Int32) (c_t_above : Int64) (c_t_below : Int64) (c_t_at : Int32) (c_t_start : Int32) (c_t_isWord : Int32) (c_t_isFigures : Int32) (c_t_all : Int64) (c_t_known : Int32) (c_t_truth : Int32) (c_t_x : Int64) (c_t_h : Int64) (c_t_weights : (Nat → Int64)) : va_W := [(a_t, .inr (8, [.ref a_t_w, .ref a_t_isKept, .ref a_t_text, .int c_t_texted, .ref a_t_refused, .long c_t_above, .long c_t_below, .int c_t_at, .int c_t_start, .int c_t_isWord, .int c_t_isFigures, .ref a_t_numbers, .ref a_t_weights, .long c_t_all, .int c_t_known, .int c_t_truth, .long c_t_x, .long c_t_h])), (a_t_weights, .inl (cyJ, 128, .inr (.inl c_t_weights)))]
theorem hnX8_pastAt_X8 : ∀ w ∈ wsX80, w ∈ wsX8_pastAt := fun _ h => List.mem_cons_of_mem _ (List.mem_append_right _ h)
set_option maxHeartbeats 4000000 in
set_option maxRecDepth 100000 in
theorem kcX8_pastAt (l : Launch) (dC : Nat → ClassId) (dI : Nat → Nat → Nat) (cyB cyI cyJ cyZ cyS : ClassId) (a_t a_t_w a_t_isKept a_t_text a_t_refused a_t_numbers a_t_weights : Nat) (c_t_texted : Int32) (c_t_above : Int64) (c_t_below : Int64) (c_t_at : Int32) (c_t_start : Int32) (c_t_isWord : Int32) (c_t_isFigures : Int32) (c_t_all : Int64) (c_t_known : Int32) (c_t_truth : Int32) (c_t_x : Int64) (c_t_h : Int64) (c_t_weights : (Nat → Int64)) (p1 : Int32) (out : Int32) (hf : fX8_pastAt c_t_weights p1 = some out) : pb_K l yX8_pastAt wsX8_pastAt rmX8_pastAt (dC, dI) vwCl (pb_tys cyB cyI cyJ cyZ cyS) pb_NW [.ref a_t, .int p1] (wwX8_pastAt cyB cyI cyJ cyZ cyS a_t a_t_w a_t_isKept a_t_text a_t_refused a_t_numbers a_t_weights c_t_texted c_t_above c_t_below c_t_at c_t_start c_t_isWord c_t_isFigures c_t_all c_t_known c_t_truth c_t_x c_t_h c_t_weights) (wwX8_pastAt cyB cyI cyJ cyZ cyS a_t a_t_w a_t_isKept a_t_text a_t_refused a_t_numbers a_t_weights c_t_texted c_t_above c_t_below c_t_at c_t_start c_t_isWord c_t_isFigures c_t_all c_t_known c_t_truth c_t_x c_t_h c_t_weights) (some (.int out)) := by
  unfold fX8_pastAt at hf
  refine pb_K.ofV (cc := cX8_pastAt) (maxL := 4) (ret := (some .int)) (lv0 := [(0, .ref a_t), (1, .int p1)]) (by decide) rfl (Nat.le_of_ble_eq_true rfl) rfl ?_
  intro p e s m below meth c A C hX hr hlk hA
  refine pb_iload_n (pc := 0) C dX8_pastAt_0 rfl 1 rfl ?_
  refine pb_istore_n (lv' := [(2, .int p1), (0, .ref a_t), (1, .int p1)]) (pc := 1) C dX8_pastAt_1 rfl (by decide) rfl ?_
  refine pb_iconst (v := 0) (pc := 2) C dX8_pastAt_2 pb_kI_0 ?_
  refine pb_istore_n (lv' := [(3, .int 0), (2, .int p1), (0, .ref a_t), (1, .int p1)]) (pc := 3) C dX8_pastAt_3 rfl (by decide) rfl ?_
  obtain ⟨z4, hz4, hk4⟩ := pb_bind hf
  have E4 : ∀ (e4_2 : Int32) (e4_3 : Int32), fX8_pastAt_E4 e4_2 e4_3 = some out → pb_V p l e rmX8_pastAt s m (([.ref a_t, .int p1] : List Value).toArray) below meth c 4 (dC, dI) vwCl A 0 0 (pb_MQ below (([.ref a_t, .int p1] : List Value).toArray) s (dC, dI) vwCl (wwX8_pastAt cyB cyI cyJ cyZ cyS a_t a_t_w a_t_isKept a_t_text a_t_refused a_t_numbers a_t_weights c_t_texted c_t_above c_t_below c_t_at c_t_start c_t_isWord c_t_isFigures c_t_all c_t_known c_t_truth c_t_x c_t_h c_t_weights) (wwX8_pastAt cyB cyI cyJ cyZ cyS a_t a_t_w a_t_isKept a_t_text a_t_refused a_t_numbers a_t_weights c_t_texted c_t_above c_t_below c_t_at c_t_start c_t_isWord c_t_isFigures c_t_all c_t_known c_t_truth c_t_x c_t_h c_t_weights) (some (.int out)) A) (wwX8_pastAt cyB cyI cyJ cyZ cyS a_t a_t_w a_t_isKept a_t_text a_t_refused a_t_numbers a_t_weights c_t_texted c_t_above c_t_below c_t_at c_t_start c_t_isWord c_t_isFigures c_t_all c_t_known c_t_truth c_t_x c_t_h c_t_weights) [(3, .int e4_3)] [] 44 := by
    intro e4_2 e4_3 hf
    unfold fX8_pastAt_E4 at hf
    refine pb_iload_n (pc := 44) C dX8_pastAt_44 rfl 0 rfl ?_
    obtain rfl := Option.some.inj hf
    exact pb_iret (pc := 45) C hr hlk hA dX8_pastAt_45
  have L4 : ∀ (n : Nat) (l4_2 : Int32) (l4_3 : Int32), pb_lp (fun y => fX8_pastAt_L4 c_t_weights y.1 y.2) n (l4_2, l4_3) = some z4 → pb_V p l e rmX8_pastAt s m (([.ref a_t, .int p1] : List Value).toArray) below meth c 4 (dC, dI) vwCl A 0 0 (pb_MQ below (([.ref a_t, .int p1] : List Value).toArray) s (dC, dI) vwCl (wwX8_pastAt cyB cyI cyJ cyZ cyS a_t a_t_w a_t_isKept a_t_text a_t_refused a_t_numbers a_t_weights c_t_texted c_t_above c_t_below c_t_at c_t_start c_t_isWord c_t_isFigures c_t_all c_t_known c_t_truth c_t_x c_t_h c_t_weights) (wwX8_pastAt cyB cyI cyJ cyZ cyS a_t a_t_w a_t_isKept a_t_text a_t_refused a_t_numbers a_t_weights c_t_texted c_t_above c_t_below c_t_at c_t_start c_t_isWord c_t_isFigures c_t_all c_t_known c_t_truth c_t_x c_t_h c_t_weights) (some (.int out)) A) (wwX8_pastAt cyB cyI cyJ cyZ cyS a_t a_t_w a_t_isKept a_t_text a_t_refused a_t_numbers a_t_weights c_t_texted c_t_above c_t_below c_t_at c_t_start c_t_isWord c_t_isFigures c_t_all c_t_known c_t_truth c_t_x c_t_h c_t_weights) [(0, .ref a_t), (2, .int l4_2), (3, .int l4_3)] [] 4 := by
    intro n
    induction n with
    | zero => intro l4_2 l4_3 hf; exact (pb_lp_zero hf).elim
    | succ n ih4 =>
      intro l4_2 l4_3 hf
      obtain ⟨y4, hf, hl4⟩ := pb_lp_succ hf
      have hf : fX8_pastAt_L4 c_t_weights l4_2 l4_3 = some y4 := hf
      unfold fX8_pastAt_L4 at hf
      refine pb_aload_n (pc := 4) C dX8_pastAt_4 rfl 0 rfl ?_
      refine pb_get (pc := 5) C hnX8_pastAt_X8 0 rfl rfl 12 (by decide) (List.mem_of_getElem? (i := 1) rfl) rfl rfl dX8_pastAt_5 ?_
      refine pb_iload_n (pc := 8) C dX8_pastAt_8 rfl 2 rfl ?_
      obtain ⟨g9, hf⟩ := pb_grd hf
      refine pb_lald (pc := 9) C 1 2 rfl rfl g9 dX8_pastAt_9 ?_
      refine pb_lconst (v := 0) (pc := 10) C dX8_pastAt_10 pb_kL_0 ?_
      obtain ⟨y19, hf, hk19⟩ := pb_bind hf
      have J19 : fX8_pastAt_J19 c_t_weights l4_2 l4_3 = some y4 → pb_V p l e rmX8_pastAt s m (([.ref a_t, .int p1] : List Value).toArray) below meth c 4 (dC, dI) vwCl A 0 0 (pb_MQ below (([.ref a_t, .int p1] : List Value).toArray) s (dC, dI) vwCl (wwX8_pastAt cyB cyI cyJ cyZ cyS a_t a_t_w a_t_isKept a_t_text a_t_refused a_t_numbers a_t_weights c_t_texted c_t_above c_t_below c_t_at c_t_start c_t_isWord c_t_isFigures c_t_all c_t_known c_t_truth c_t_x c_t_h c_t_weights) (wwX8_pastAt cyB cyI cyJ cyZ cyS a_t a_t_w a_t_isKept a_t_text a_t_refused a_t_numbers a_t_weights c_t_texted c_t_above c_t_below c_t_at c_t_start c_t_isWord c_t_isFigures c_t_all c_t_known c_t_truth c_t_x c_t_h c_t_weights) (some (.int out)) A) (wwX8_pastAt cyB cyI cyJ cyZ cyS a_t a_t_w a_t_isKept a_t_text a_t_refused a_t_numbers a_t_weights c_t_texted c_t_above c_t_below c_t_at c_t_start c_t_isWord c_t_isFigures c_t_all c_t_known c_t_truth c_t_x c_t_h c_t_weights) [(0, .ref a_t), (2, .int l4_2), (3, .int l4_3)] [] 19 := by
        intro hf
        unfold fX8_pastAt_J19 at hf
        refine pb_iload_n (pc := 19) C dX8_pastAt_19 rfl 1 rfl ?_
        refine pb_aload_n (pc := 20) C dX8_pastAt_20 rfl 0 rfl ?_
        refine pb_get (pc := 21) C hnX8_pastAt_X8 0 rfl rfl 12 (by decide) (List.mem_of_getElem? (i := 1) rfl) rfl rfl dX8_pastAt_21 ?_
        refine pb_iload_n (pc := 24) C dX8_pastAt_24 rfl 2 rfl ?_
        obtain ⟨g25, hf⟩ := pb_grd hf
        refine pb_lald (pc := 25) C 1 2 rfl rfl g25 dX8_pastAt_25 ?_
        refine pb_lconst (v := 0) (pc := 26) C dX8_pastAt_26 pb_kL_0 ?_
        refine pb_lif_le (pc := 27) (tgt := 35) C dX8_pastAt_27 dX8_pastAt_28 (by decide) (fun hc27 => ?_) (fun hc27 => ?_)
        · have hf := pb_pos hf hc27
          refine pb_iconst (v := 0) (pc := 35) C dX8_pastAt_35 pb_kI_0 ?_
          refine pb_isub (pc := 36) C dX8_pastAt_36 ?_
          obtain ⟨x37, ex37, hf⟩ := pb_bind hf
          have ex37 := Option.some.inj ex37
          refine pb_topi ex37 ?_
          refine pb_istore_n (lv' := [(2, .int x37), (0, .ref a_t), (3, .int l4_3)]) (pc := 37) C dX8_pastAt_37 rfl (by decide) rfl ?_
          refine pb_iinc (v := l4_3 + 1) (lv' := [(3, .int (l4_3 + 1)), (2, .int x37), (0, .ref a_t)]) (pc := 38) C dX8_pastAt_38 2 rfl (pb_inc pb_kI_1 rfl) (by decide) rfl ?_
          refine pb_goto (pc := 41) (tgt := 4) C dX8_pastAt_41 (by decide) ?_
          obtain rfl := Option.some.inj hf
          refine pb_sub [2, 1, 0] rfl ?_
          have hl4 := pb_inl hl4
          exact ih4 x37 (l4_3 + 1) hl4
        · have hf := pb_neg hf hc27
          refine pb_iconst (v := 1) (pc := 31) C dX8_pastAt_31 pb_kI_1 ?_
          refine pb_goto (pc := 32) (tgt := 36) C dX8_pastAt_32 (by decide) ?_
          refine pb_isub (pc := 36) C dX8_pastAt_36 ?_
          obtain ⟨x37, ex37, hf⟩ := pb_bind hf
          have ex37 := Option.some.inj ex37
          refine pb_topi ex37 ?_
          refine pb_istore_n (lv' := [(2, .int x37), (0, .ref a_t), (3, .int l4_3)]) (pc := 37) C dX8_pastAt_37 rfl (by decide) rfl ?_
          refine pb_iinc (v := l4_3 + 1) (lv' := [(3, .int (l4_3 + 1)), (2, .int x37), (0, .ref a_t)]) (pc := 38) C dX8_pastAt_38 2 rfl (pb_inc pb_kI_1 rfl) (by decide) rfl ?_
          refine pb_goto (pc := 41) (tgt := 4) C dX8_pastAt_41 (by decide) ?_
          obtain rfl := Option.some.inj hf
          refine pb_sub [2, 1, 0] rfl ?_
          have hl4 := pb_inl hl4
          exact ih4 x37 (l4_3 + 1) hl4
      refine pb_lif_eq (pc := 11) (tgt := 19) C dX8_pastAt_11 dX8_pastAt_12 (by decide) (fun hc11 => ?_) (fun hc11 => ?_)
      · have hf := pb_pos hf hc11
        obtain rfl := Option.some.inj hf
        have hk19 := pb_inl hk19
        exact J19  hk19
      · have hf := pb_neg hf hc11
        refine pb_iload_n (pc := 15) C dX8_pastAt_15 rfl 1 rfl ?_
        refine pb_if_le (pc := 16) (tgt := 44) C dX8_pastAt_16 (by decide) (fun hc16 => ?_) (fun hc16 => ?_)
        · have hf := pb_pos hf hc16
          obtain rfl := Option.some.inj hf
          obtain rfl := pb_esc hk19
          obtain rfl := pb_esc hl4
          refine pb_sub [2] rfl ?_
          exact E4 l4_2 l4_3 hk4
        · have hf := pb_neg hf hc16
          obtain rfl := Option.some.inj hf
          have hk19 := pb_inl hk19
          exact J19  hk19
  refine pb_sub [2, 1, 0] rfl ?_
  exact L4 pb_FU p1 0 hz4
def rmX8_days : Room := { frames := 5, cells := 0, slots := 0, locals := 116 }
def wwX8_days (cyB cyI cyJ cyZ cyS : ClassId) (a_t a_t_w a_t_isKept a_t_text a_t_refused a_t_numbers a_t_weights : Nat) (c_t_texted : Int32) (c_t_above : Int64) (c_t_below : Int64) (c_t_at : Int32) (c_t_start : Int32) (c_t_isWord : Int32) (c_t_isFigures : Int32) (c_t_all : Int64) (c_t_known : Int32) (c_t_truth : Int32) (c_t_x : Int64) (c_t_h : Int64) (c_t_w : (Nat → Int32)) (c_t_refused : (Nat → Int32)) (c_t_weights : (Nat → Int64)) : va_W := [(a_t, .inr (8, [.ref a_t_w, .ref a_t_isKept, .ref a_t_text, .int c_t_texted, .ref a_t_refused, .long c_t_above, .long c_t_below, .int c_t_at, .int c_t_start, .int c_t_isWord, .int c_t_isFigures, .ref a_t_numbers, .ref a_t_weights, .long c_t_all, .int c_t_known, .int c_t_truth, .long c_t_x, .long c_t_h])), (a_t_w, .inl (cyI, 1508, .inl c_t_w)), (a_t_refused, .inl (cyI, 3, .inl c_t_refused)), (a_t_weights, .inl (cyJ, 128, .inr (.inl c_t_weights)))]
theorem hnX8_days_X8 : ∀ w ∈ wsX80, w ∈ wsX8_days := fun _ h => List.mem_cons_of_mem _ (List.mem_append_right _ h)
set_option maxHeartbeats 4000000 in
set_option maxRecDepth 100000 in
theorem kcX8_days (l : Launch) (dC : Nat → ClassId) (dI : Nat → Nat → Nat) (cyB cyI cyJ cyZ cyS : ClassId) (a_t a_t_w a_t_isKept a_t_text a_t_refused a_t_numbers a_t_weights : Nat) (c_t_texted : Int32) (c_t_above : Int64) (c_t_below : Int64) (c_t_at : Int32) (c_t_start : Int32) (c_t_isWord : Int32) (c_t_isFigures : Int32) (c_t_all : Int64) (c_t_known : Int32) (c_t_truth : Int32) (c_t_x : Int64) (c_t_h : Int64) (c_t_w : (Nat → Int32)) (c_t_refused : (Nat → Int32)) (c_t_weights : (Nat → Int64)) (p1 : Int32) (p2 : Int32) (p3 : Int32) (p4 : Int32) (p5 : Int32) (out : (Int32 × Int64 × Int64 × Int64 × Int32 × Int32 × Int64 × (Nat → Int32) × (Nat → Int64))) (hf : fX8_days c_t_above c_t_below c_t_all c_t_known c_t_truth c_t_x c_t_w c_t_refused c_t_weights p1 p2 p3 p4 p5 = some out) : pb_K l yX8_days wsX8_days rmX8_days (dC, dI) vwCl (pb_tys cyB cyI cyJ cyZ cyS) pb_NW [.ref a_t, .int p1, .int p2, .int p3, .int p4, .int p5] (wwX8_days cyB cyI cyJ cyZ cyS a_t a_t_w a_t_isKept a_t_text a_t_refused a_t_numbers a_t_weights c_t_texted c_t_above c_t_below c_t_at c_t_start c_t_isWord c_t_isFigures c_t_all c_t_known c_t_truth c_t_x c_t_h c_t_w c_t_refused c_t_weights) (wwX8_days cyB cyI cyJ cyZ cyS a_t a_t_w a_t_isKept a_t_text a_t_refused a_t_numbers a_t_weights c_t_texted out.2.1 out.2.2.1 c_t_at c_t_start c_t_isWord c_t_isFigures out.2.2.2.1 out.2.2.2.2.1 out.2.2.2.2.2.1 out.2.2.2.2.2.2.1 c_t_h c_t_w out.2.2.2.2.2.2.2.1 out.2.2.2.2.2.2.2.2) (some (.int out.1)) := by
  unfold fX8_days at hf
  refine pb_K.ofV (cc := cX8_days) (maxL := 10) (ret := (some .int)) (lv0 := [(0, .ref a_t), (1, .int p1), (2, .int p2), (3, .int p3), (4, .int p4), (5, .int p5)]) (by decide) rfl (Nat.le_of_ble_eq_true rfl) rfl ?_
  intro p e s m below meth c A C hX hr hlk hA
  refine pb_iload_n (pc := 0) C dX8_days_0 rfl 1 rfl ?_
  refine pb_i2l (pc := 1) C dX8_days_1 ?_
  refine pb_lconst (v := 0) (pc := 2) C dX8_days_2 pb_kL_0 ?_
  refine pb_ldc2 (v := 999999) (pc := 3) C dX8_days_3 (List.mem_of_getElem? (i := 1) rfl) ?_
  obtain ⟨r6, hr6, hf⟩ := pb_bind hf
  refine pb_callS (pc := 6) (n0 := 4) (ws' := (wwX8_days cyB cyI cyJ cyZ cyS a_t a_t_w a_t_isKept a_t_text a_t_refused a_t_numbers a_t_weights c_t_texted c_t_above c_t_below c_t_at c_t_start c_t_isWord c_t_isFigures c_t_all c_t_known c_t_truth c_t_x c_t_h c_t_w c_t_refused c_t_weights)) (rest := []) (st2 := [.int r6]) C (kcX8_in l dC dI cyB cyI cyJ cyZ cyS (Int32.toInt64 p1) 0 999999 r6 hr6) pb_NW_b (pb_NW_x hX) (va_cwS 3 C.1.2.2.2.2 gX8_days_X8_in rfl rfl rfl kdS_X8_in ⟨Nat.le_of_ble_eq_true rfl, Nat.le_of_ble_eq_true rfl⟩) [] [0, 1, 2, 3] rfl rfl ⟨⟨_, rfl, rfl⟩, ⟨⟨_, rfl, rfl⟩, ⟨⟨_, rfl, rfl⟩, ⟨⟨_, rfl, rfl⟩, trivial⟩⟩⟩⟩ rfl (by decide +kernel) (adl := []) rfl rfl rfl rfl rfl (Nat.le_of_ble_eq_true rfl) ⟨Nat.le_refl _, Nat.le_refl _⟩ dX8_days_6 rfl ?_
  refine pb_if_eq (pc := 9) (tgt := 35) C dX8_days_9 (by decide) (fun hc9 => ?_) (fun hc9 => ?_)
  · have hf := pb_pos hf hc9
    refine pb_aload_n (pc := 35) C dX8_days_35 rfl 0 rfl ?_
    obtain ⟨r36, hr36, hf⟩ := pb_bind hf
    refine pb_callV (pc := 36) (n0 := 4) (ws' := (wwX8_days cyB cyI cyJ cyZ cyS a_t a_t_w a_t_isKept a_t_text a_t_refused a_t_numbers a_t_weights c_t_texted c_t_above c_t_below c_t_at c_t_start c_t_isWord c_t_isFigures c_t_all c_t_known c_t_truth c_t_x c_t_h c_t_w r36.2 c_t_weights)) (rest := []) (st2 := [.int r36.1]) C (kcX8_bad l dC dI cyB cyI cyJ cyZ cyS a_t a_t_w a_t_isKept a_t_text a_t_refused a_t_numbers a_t_weights c_t_texted c_t_above c_t_below c_t_at c_t_start c_t_isWord c_t_isFigures c_t_all c_t_known c_t_truth c_t_x c_t_h c_t_refused r36 hr36) pb_NW_b (pb_NW_x hX) (cwV 0 C.1.2.2.2.2 gX8_days_X8_bad rfl rfl rfl kdV_X8_bad ⟨Nat.le_of_ble_eq_true rfl, Nat.le_of_ble_eq_true rfl⟩) 0 rfl rfl [0, 2] [1, 3] rfl rfl ⟨⟨_, rfl, rfl⟩, ⟨⟨_, rfl, rfl⟩, trivial⟩⟩ rfl (by decide +kernel) (adl := [a_t, a_t_refused]) rfl rfl rfl rfl rfl (Nat.le_of_ble_eq_true rfl) ⟨Nat.le_refl _, Nat.le_refl _⟩ dX8_days_36 rfl ?_
    obtain rfl := Option.some.inj hf
    exact pb_iret (pc := 39) C hr hlk hA dX8_days_39
  · have hf := pb_neg hf hc9
    refine pb_iload_n (pc := 12) C dX8_days_12 rfl 2 rfl ?_
    refine pb_i2l (pc := 13) C dX8_days_13 ?_
    refine pb_lconst (v := 1) (pc := 14) C dX8_days_14 pb_kL_1 ?_
    refine pb_ldc2 (v := 30) (pc := 15) C dX8_days_15 (List.mem_of_getElem? (i := 2) rfl) ?_
    obtain ⟨r18, hr18, hf⟩ := pb_bind hf
    refine pb_callS (pc := 18) (n0 := 4) (ws' := (wwX8_days cyB cyI cyJ cyZ cyS a_t a_t_w a_t_isKept a_t_text a_t_refused a_t_numbers a_t_weights c_t_texted c_t_above c_t_below c_t_at c_t_start c_t_isWord c_t_isFigures c_t_all c_t_known c_t_truth c_t_x c_t_h c_t_w c_t_refused c_t_weights)) (rest := []) (st2 := [.int r18]) C (kcX8_in l dC dI cyB cyI cyJ cyZ cyS (Int32.toInt64 p2) 1 30 r18 hr18) pb_NW_b (pb_NW_x hX) (va_cwS 3 C.1.2.2.2.2 gX8_days_X8_in rfl rfl rfl kdS_X8_in ⟨Nat.le_of_ble_eq_true rfl, Nat.le_of_ble_eq_true rfl⟩) [] [0, 1, 2, 3] rfl rfl ⟨⟨_, rfl, rfl⟩, ⟨⟨_, rfl, rfl⟩, ⟨⟨_, rfl, rfl⟩, ⟨⟨_, rfl, rfl⟩, trivial⟩⟩⟩⟩ rfl (by decide +kernel) (adl := []) rfl rfl rfl rfl rfl (Nat.le_of_ble_eq_true rfl) ⟨Nat.le_refl _, Nat.le_refl _⟩ dX8_days_18 rfl ?_
    refine pb_if_eq (pc := 21) (tgt := 35) C dX8_days_21 (by decide) (fun hc21 => ?_) (fun hc21 => ?_)
    · have hf := pb_pos hf hc21
      refine pb_aload_n (pc := 35) C dX8_days_35 rfl 0 rfl ?_
      obtain ⟨r36, hr36, hf⟩ := pb_bind hf
      refine pb_callV (pc := 36) (n0 := 4) (ws' := (wwX8_days cyB cyI cyJ cyZ cyS a_t a_t_w a_t_isKept a_t_text a_t_refused a_t_numbers a_t_weights c_t_texted c_t_above c_t_below c_t_at c_t_start c_t_isWord c_t_isFigures c_t_all c_t_known c_t_truth c_t_x c_t_h c_t_w r36.2 c_t_weights)) (rest := []) (st2 := [.int r36.1]) C (kcX8_bad l dC dI cyB cyI cyJ cyZ cyS a_t a_t_w a_t_isKept a_t_text a_t_refused a_t_numbers a_t_weights c_t_texted c_t_above c_t_below c_t_at c_t_start c_t_isWord c_t_isFigures c_t_all c_t_known c_t_truth c_t_x c_t_h c_t_refused r36 hr36) pb_NW_b (pb_NW_x hX) (cwV 0 C.1.2.2.2.2 gX8_days_X8_bad rfl rfl rfl kdV_X8_bad ⟨Nat.le_of_ble_eq_true rfl, Nat.le_of_ble_eq_true rfl⟩) 0 rfl rfl [0, 2] [1, 3] rfl rfl ⟨⟨_, rfl, rfl⟩, ⟨⟨_, rfl, rfl⟩, trivial⟩⟩ rfl (by decide +kernel) (adl := [a_t, a_t_refused]) rfl rfl rfl rfl rfl (Nat.le_of_ble_eq_true rfl) ⟨Nat.le_refl _, Nat.le_refl _⟩ dX8_days_36 rfl ?_
      obtain rfl := Option.some.inj hf
      exact pb_iret (pc := 39) C hr hlk hA dX8_days_39
    · have hf := pb_neg hf hc21
      refine pb_iload_n (pc := 24) C dX8_days_24 rfl 3 rfl ?_
      refine pb_iload (pc := 25) C dX8_days_25 4 rfl ?_
      refine pb_iload (pc := 27) C dX8_days_27 5 rfl ?_
      obtain ⟨r29, hr29, hf⟩ := pb_bind hf
      refine pb_callS (pc := 29) (n0 := 4) (ws' := (wwX8_days cyB cyI cyJ cyZ cyS a_t a_t_w a_t_isKept a_t_text a_t_refused a_t_numbers a_t_weights c_t_texted c_t_above c_t_below c_t_at c_t_start c_t_isWord c_t_isFigures c_t_all c_t_known c_t_truth c_t_x c_t_h c_t_w c_t_refused c_t_weights)) (rest := []) (st2 := [.int r29]) C (kcX8_isClaim l dC dI cyB cyI cyJ cyZ cyS p3 p4 p5 r29 hr29) pb_NW_b (pb_NW_x hX) (va_cwS 3 C.1.2.2.2.2 gX8_days_X8_isClaim rfl rfl rfl kdS_X8_isClaim ⟨Nat.le_of_ble_eq_true rfl, Nat.le_of_ble_eq_true rfl⟩) [] [0, 1, 2, 3] rfl rfl ⟨⟨_, rfl, rfl⟩, ⟨⟨_, rfl, rfl⟩, ⟨⟨_, rfl, rfl⟩, ⟨⟨_, rfl, rfl⟩, trivial⟩⟩⟩⟩ rfl (by decide +kernel) (adl := []) rfl rfl rfl rfl rfl (Nat.le_of_ble_eq_true rfl) ⟨Nat.le_refl _, Nat.le_refl _⟩ dX8_days_29 rfl ?_
      refine pb_if_ne (pc := 32) (tgt := 40) C dX8_days_32 (by decide) (fun hc32 => ?_) (fun hc32 => ?_)
      · have hf := pb_neg hf hc32
        refine pb_aload_n (pc := 40) C dX8_days_40 rfl 0 rfl ?_
        obtain ⟨r41, hr41, hf⟩ := pb_bind hf
        refine pb_callV (pc := 41) (n0 := 4) (ws' := (wwX8_days cyB cyI cyJ cyZ cyS a_t a_t_w a_t_isKept a_t_text a_t_refused a_t_numbers a_t_weights c_t_texted c_t_above c_t_below c_t_at c_t_start c_t_isWord c_t_isFigures r41.2.1 c_t_known c_t_truth c_t_x c_t_h c_t_w c_t_refused r41.2.2)) (rest := []) (st2 := [.int r41.1]) C (kcX8_fits l dC dI cyB cyI cyJ cyZ cyS a_t a_t_w a_t_isKept a_t_text a_t_refused a_t_numbers a_t_weights c_t_texted c_t_above c_t_below c_t_at c_t_start c_t_isWord c_t_isFigures c_t_all c_t_known c_t_truth c_t_x c_t_h c_t_w c_t_weights r41 hr41) pb_NW_b (pb_NW_x hX) (cwV 0 C.1.2.2.2.2 gX8_days_X8_fits rfl rfl rfl kdV_X8_fits ⟨Nat.le_of_ble_eq_true rfl, Nat.le_of_ble_eq_true rfl⟩) 0 rfl rfl [0, 1, 3] [2] rfl rfl ⟨⟨_, rfl, rfl⟩, trivial⟩ rfl (by decide +kernel) (adl := [a_t, a_t_w, a_t_weights]) rfl rfl rfl rfl rfl (Nat.le_of_ble_eq_true rfl) ⟨Nat.le_refl _, Nat.le_refl _⟩ dX8_days_41 rfl ?_
        refine pb_if_ne (pc := 44) (tgt := 52) C dX8_days_44 (by decide) (fun hc44 => ?_) (fun hc44 => ?_)
        · have hf := pb_neg hf hc44
          refine pb_iconst (v := 0) (pc := 52) C dX8_days_52 pb_kI_0 ?_
          refine pb_istore (lv' := [(6, .int 0), (0, .ref a_t), (1, .int p1), (2, .int p2), (3, .int p3), (4, .int p4), (5, .int p5)]) (pc := 53) C dX8_days_53 (by decide) rfl ?_
          refine pb_iconst (v := 0) (pc := 55) C dX8_days_55 pb_kI_0 ?_
          refine pb_istore (lv' := [(7, .int 0), (6, .int 0), (0, .ref a_t), (1, .int p1), (2, .int p2), (3, .int p3), (4, .int p4), (5, .int p5)]) (pc := 56) C dX8_days_56 (by decide) rfl ?_
          obtain ⟨z58, hz58, hk58⟩ := pb_bind hf
          have E58 : ∀ (e58_6 : Int32) (e58_7 : Int32), fX8_days_E58 c_t_above c_t_below c_t_known c_t_truth c_t_refused p1 p2 p3 p4 p5 r41 e58_6 e58_7 = some out → pb_V p l e rmX8_days s m (([.ref a_t, .int p1, .int p2, .int p3, .int p4, .int p5] : List Value).toArray) below meth c 10 (dC, dI) vwCl A 0 0 (pb_MQ below (([.ref a_t, .int p1, .int p2, .int p3, .int p4, .int p5] : List Value).toArray) s (dC, dI) vwCl (wwX8_days cyB cyI cyJ cyZ cyS a_t a_t_w a_t_isKept a_t_text a_t_refused a_t_numbers a_t_weights c_t_texted c_t_above c_t_below c_t_at c_t_start c_t_isWord c_t_isFigures c_t_all c_t_known c_t_truth c_t_x c_t_h c_t_w c_t_refused c_t_weights) (wwX8_days cyB cyI cyJ cyZ cyS a_t a_t_w a_t_isKept a_t_text a_t_refused a_t_numbers a_t_weights c_t_texted out.2.1 out.2.2.1 c_t_at c_t_start c_t_isWord c_t_isFigures out.2.2.2.1 out.2.2.2.2.1 out.2.2.2.2.2.1 out.2.2.2.2.2.2.1 c_t_h c_t_w out.2.2.2.2.2.2.2.1 out.2.2.2.2.2.2.2.2) (some (.int out.1)) A) (wwX8_days cyB cyI cyJ cyZ cyS a_t a_t_w a_t_isKept a_t_text a_t_refused a_t_numbers a_t_weights c_t_texted c_t_above c_t_below c_t_at c_t_start c_t_isWord c_t_isFigures r41.2.1 c_t_known c_t_truth c_t_x c_t_h c_t_w c_t_refused r41.2.2) [(0, .ref a_t), (1, .int p1), (2, .int p2), (3, .int p3), (4, .int p4), (5, .int p5), (6, .int e58_6)] [] 94 := by
            intro e58_6 e58_7 hf
            unfold fX8_days_E58 at hf
            refine pb_iconst (v := 0) (pc := 94) C dX8_days_94 pb_kI_0 ?_
            refine pb_istore (lv' := [(7, .int 0), (0, .ref a_t), (1, .int p1), (2, .int p2), (3, .int p3), (4, .int p4), (5, .int p5), (6, .int e58_6)]) (pc := 95) C dX8_days_95 (by decide) rfl ?_
            refine pb_aload_n (pc := 97) C dX8_days_97 rfl 1 rfl ?_
            refine pb_iload_n (pc := 98) C dX8_days_98 rfl 2 rfl ?_
            refine pb_i2l (pc := 99) C dX8_days_99 ?_
            obtain ⟨x100, ex100, hf⟩ := pb_bind hf
            have ex100 := Option.some.inj ex100
            refine pb_topl ex100 ?_
            refine pb_put (pc := 100) (ws' := (wwX8_days cyB cyI cyJ cyZ cyS a_t a_t_w a_t_isKept a_t_text a_t_refused a_t_numbers a_t_weights c_t_texted c_t_above c_t_below c_t_at c_t_start c_t_isWord c_t_isFigures r41.2.1 c_t_known c_t_truth x100 c_t_h c_t_w c_t_refused r41.2.2)) C hnX8_days_X8 tyX8 tyX8_ok nmX8 0 rfl rfl 16 (by decide) (List.mem_of_getElem? (i := 4) rfl) rfl rfl rfl rfl (Nat.le_of_ble_eq_true rfl) rfl dX8_days_100 ?_
            refine pb_iconst (v := 0) (pc := 103) C dX8_days_103 pb_kI_0 ?_
            refine pb_istore (lv' := [(8, .int 0), (7, .int 0), (0, .ref a_t), (1, .int p1), (2, .int p2), (3, .int p3), (4, .int p4), (5, .int p5), (6, .int e58_6)]) (pc := 104) C dX8_days_104 (by decide) rfl ?_
            obtain ⟨z106, hz106, hk106⟩ := pb_bind hf
            have E106 : ∀ (e106_7 : Int32) (e106_8 : Int32) (e106_c_t_known : Int32) (e106_c_t_truth : Int32) (e106_c_t_x : Int64), fX8_days_E106 c_t_above c_t_below c_t_refused p2 r41 e106_7 e106_8 e106_c_t_known e106_c_t_truth e106_c_t_x = some out → pb_V p l e rmX8_days s m (([.ref a_t, .int p1, .int p2, .int p3, .int p4, .int p5] : List Value).toArray) below meth c 10 (dC, dI) vwCl A 0 0 (pb_MQ below (([.ref a_t, .int p1, .int p2, .int p3, .int p4, .int p5] : List Value).toArray) s (dC, dI) vwCl (wwX8_days cyB cyI cyJ cyZ cyS a_t a_t_w a_t_isKept a_t_text a_t_refused a_t_numbers a_t_weights c_t_texted c_t_above c_t_below c_t_at c_t_start c_t_isWord c_t_isFigures c_t_all c_t_known c_t_truth c_t_x c_t_h c_t_w c_t_refused c_t_weights) (wwX8_days cyB cyI cyJ cyZ cyS a_t a_t_w a_t_isKept a_t_text a_t_refused a_t_numbers a_t_weights c_t_texted out.2.1 out.2.2.1 c_t_at c_t_start c_t_isWord c_t_isFigures out.2.2.2.1 out.2.2.2.2.1 out.2.2.2.2.2.1 out.2.2.2.2.2.2.1 c_t_h c_t_w out.2.2.2.2.2.2.2.1 out.2.2.2.2.2.2.2.2) (some (.int out.1)) A) (wwX8_days cyB cyI cyJ cyZ cyS a_t a_t_w a_t_isKept a_t_text a_t_refused a_t_numbers a_t_weights c_t_texted c_t_above c_t_below c_t_at c_t_start c_t_isWord c_t_isFigures r41.2.1 e106_c_t_known e106_c_t_truth e106_c_t_x c_t_h c_t_w c_t_refused r41.2.2) [(0, .ref a_t), (2, .int p2), (7, .int e106_7)] [] 190 := by
              intro e106_7 e106_8 e106_c_t_known e106_c_t_truth e106_c_t_x hf
              unfold fX8_days_E106 at hf
              refine pb_aload_n (pc := 190) C dX8_days_190 rfl 0 rfl ?_
              refine pb_iload (pc := 191) C dX8_days_191 2 rfl ?_
              refine pb_i2l (pc := 193) C dX8_days_193 ?_
              refine pb_iload_n (pc := 194) C dX8_days_194 rfl 1 rfl ?_
              refine pb_i2l (pc := 195) C dX8_days_195 ?_
              obtain ⟨r196, hr196, hf⟩ := pb_bind hf
              refine pb_callV (pc := 196) (n0 := 4) (ws' := (wwX8_days cyB cyI cyJ cyZ cyS a_t a_t_w a_t_isKept a_t_text a_t_refused a_t_numbers a_t_weights c_t_texted r196.2.1 r196.2.2 c_t_at c_t_start c_t_isWord c_t_isFigures r41.2.1 e106_c_t_known e106_c_t_truth e106_c_t_x c_t_h c_t_w c_t_refused r41.2.2)) (rest := []) (st2 := [.int r196.1]) C (kcX8_tells l dC dI cyB cyI cyJ cyZ cyS a_t a_t_w a_t_isKept a_t_text a_t_refused a_t_numbers a_t_weights c_t_texted c_t_above c_t_below c_t_at c_t_start c_t_isWord c_t_isFigures r41.2.1 e106_c_t_known e106_c_t_truth e106_c_t_x c_t_h (Int32.toInt64 e106_7) (Int32.toInt64 p2) r196 hr196) pb_NW_b (pb_NW_x hX) (cwV 2 C.1.2.2.2.2 gX8_days_X8_tells rfl rfl rfl kdV_X8_tells ⟨Nat.le_of_ble_eq_true rfl, Nat.le_of_ble_eq_true rfl⟩) 0 rfl rfl [0] [1, 2, 3] rfl rfl ⟨⟨_, rfl, rfl⟩, ⟨⟨_, rfl, rfl⟩, ⟨⟨_, rfl, rfl⟩, trivial⟩⟩⟩ rfl (by decide +kernel) (adl := [a_t]) rfl rfl rfl rfl rfl (Nat.le_of_ble_eq_true rfl) ⟨Nat.le_refl _, Nat.le_refl _⟩ dX8_days_196 rfl ?_
              obtain rfl := Option.some.inj hf
              exact pb_iret (pc := 199) C hr hlk hA dX8_days_199
            have L106 : ∀ (n : Nat) (l106_7 : Int32) (l106_8 : Int32) (l106_c_t_known : Int32) (l106_c_t_truth : Int32) (l106_c_t_x : Int64), pb_lp (fun y => fX8_days_L106 p2 p3 p4 p5 e58_6 r41 y.1 y.2.1 y.2.2.1 y.2.2.2.1 y.2.2.2.2) n (l106_7, l106_8, l106_c_t_known, l106_c_t_truth, l106_c_t_x) = some z106 → pb_V p l e rmX8_days s m (([.ref a_t, .int p1, .int p2, .int p3, .int p4, .int p5] : List Value).toArray) below meth c 10 (dC, dI) vwCl A 0 0 (pb_MQ below (([.ref a_t, .int p1, .int p2, .int p3, .int p4, .int p5] : List Value).toArray) s (dC, dI) vwCl (wwX8_days cyB cyI cyJ cyZ cyS a_t a_t_w a_t_isKept a_t_text a_t_refused a_t_numbers a_t_weights c_t_texted c_t_above c_t_below c_t_at c_t_start c_t_isWord c_t_isFigures c_t_all c_t_known c_t_truth c_t_x c_t_h c_t_w c_t_refused c_t_weights) (wwX8_days cyB cyI cyJ cyZ cyS a_t a_t_w a_t_isKept a_t_text a_t_refused a_t_numbers a_t_weights c_t_texted out.2.1 out.2.2.1 c_t_at c_t_start c_t_isWord c_t_isFigures out.2.2.2.1 out.2.2.2.2.1 out.2.2.2.2.2.1 out.2.2.2.2.2.2.1 c_t_h c_t_w out.2.2.2.2.2.2.2.1 out.2.2.2.2.2.2.2.2) (some (.int out.1)) A) (wwX8_days cyB cyI cyJ cyZ cyS a_t a_t_w a_t_isKept a_t_text a_t_refused a_t_numbers a_t_weights c_t_texted c_t_above c_t_below c_t_at c_t_start c_t_isWord c_t_isFigures r41.2.1 l106_c_t_known l106_c_t_truth l106_c_t_x c_t_h c_t_w c_t_refused r41.2.2) [(0, .ref a_t), (2, .int p2), (3, .int p3), (4, .int p4), (5, .int p5), (6, .int e58_6), (7, .int l106_7), (8, .int l106_8)] [] 106 := by
              intro n
              induction n with
              | zero => intro l106_7 l106_8 l106_c_t_known l106_c_t_truth l106_c_t_x hf; exact (pb_lp_zero hf).elim
              | succ n ih106 =>
                intro l106_7 l106_8 l106_c_t_known l106_c_t_truth l106_c_t_x hf
                obtain ⟨y106, hf, hl106⟩ := pb_lp_succ hf
                have hf : fX8_days_L106 p2 p3 p4 p5 e58_6 r41 l106_7 l106_8 l106_c_t_known l106_c_t_truth l106_c_t_x = some y106 := hf
                unfold fX8_days_L106 at hf
                refine pb_iload (pc := 106) C dX8_days_106 7 rfl ?_
                refine pb_iload_n (pc := 108) C dX8_days_108 rfl 1 rfl ?_
                refine pb_icmp_ge (pc := 109) (tgt := 190) C dX8_days_109 (by decide) (fun hc109 => ?_) (fun hc109 => ?_)
                · have hf := pb_pos hf hc109
                  obtain rfl := Option.some.inj hf
                  obtain rfl := pb_esc hl106
                  refine pb_sub [0, 1, 6] rfl ?_
                  exact E106 l106_7 l106_8 l106_c_t_known l106_c_t_truth l106_c_t_x hk106
                · have hf := pb_neg hf hc109
                  refine pb_aload_n (pc := 112) C dX8_days_112 rfl 0 rfl ?_
                  refine pb_iconst (v := 0) (pc := 113) C dX8_days_113 pb_kI_0 ?_
                  refine pb_put (pc := 114) (ws' := (wwX8_days cyB cyI cyJ cyZ cyS a_t a_t_w a_t_isKept a_t_text a_t_refused a_t_numbers a_t_weights c_t_texted c_t_above c_t_below c_t_at c_t_start c_t_isWord c_t_isFigures r41.2.1 0 l106_c_t_truth l106_c_t_x c_t_h c_t_w c_t_refused r41.2.2)) C hnX8_days_X8 tyX8 tyX8_ok nmX8 0 rfl rfl 14 (by decide) (List.mem_of_getElem? (i := 5) rfl) rfl rfl rfl rfl (Nat.le_of_ble_eq_true rfl) rfl dX8_days_114 ?_
                  refine pb_aload_n (pc := 117) C dX8_days_117 rfl 0 rfl ?_
                  refine pb_aload_n (pc := 118) C dX8_days_118 rfl 0 rfl ?_
                  refine pb_aload_n (pc := 119) C dX8_days_119 rfl 0 rfl ?_
                  refine pb_iload (pc := 120) C dX8_days_120 5 rfl ?_
                  obtain ⟨r122, hr122, hf⟩ := pb_bind hf
                  refine pb_callV (pc := 122) (n0 := 4) (ws' := (wwX8_days cyB cyI cyJ cyZ cyS a_t a_t_w a_t_isKept a_t_text a_t_refused a_t_numbers a_t_weights c_t_texted c_t_above c_t_below c_t_at c_t_start c_t_isWord c_t_isFigures r41.2.1 0 l106_c_t_truth r122.2 c_t_h c_t_w c_t_refused r41.2.2)) (rest := [.ref a_t, .ref a_t]) (st2 := [.int r122.1, .ref a_t, .ref a_t]) C (kcX8_draw l dC dI cyB cyI cyJ cyZ cyS a_t a_t_w a_t_isKept a_t_text a_t_refused a_t_numbers a_t_weights c_t_texted c_t_above c_t_below c_t_at c_t_start c_t_isWord c_t_isFigures r41.2.1 0 l106_c_t_truth l106_c_t_x c_t_h e58_6 r122 hr122) pb_NW_b (pb_NW_x hX) (cwV 1 C.1.2.2.2.2 gX8_days_X8_draw rfl rfl rfl kdV_X8_draw ⟨Nat.le_of_ble_eq_true rfl, Nat.le_of_ble_eq_true rfl⟩) 0 rfl rfl [0] [1, 2, 3] rfl rfl ⟨⟨_, rfl, rfl⟩, ⟨⟨_, rfl, rfl⟩, ⟨⟨_, rfl, rfl⟩, trivial⟩⟩⟩ rfl (by decide +kernel) (adl := [a_t]) rfl rfl rfl rfl rfl (Nat.le_of_ble_eq_true rfl) ⟨Nat.le_refl _, Nat.le_refl _⟩ dX8_days_122 rfl ?_
                  obtain ⟨r125, hr125, hf⟩ := pb_bind hf
                  refine pb_callV (pc := 125) (n0 := 4) (ws' := (wwX8_days cyB cyI cyJ cyZ cyS a_t a_t_w a_t_isKept a_t_text a_t_refused a_t_numbers a_t_weights c_t_texted c_t_above c_t_below c_t_at c_t_start c_t_isWord c_t_isFigures r41.2.1 0 l106_c_t_truth r122.2 c_t_h c_t_w c_t_refused r41.2.2)) (rest := [.ref a_t]) (st2 := [.int r125, .ref a_t]) C (kcX8_pastAt l dC dI cyB cyI cyJ cyZ cyS a_t a_t_w a_t_isKept a_t_text a_t_refused a_t_numbers a_t_weights c_t_texted c_t_above c_t_below c_t_at c_t_start c_t_isWord c_t_isFigures r41.2.1 0 l106_c_t_truth r122.2 c_t_h r41.2.2 r122.1 r125 hr125) pb_NW_b (pb_NW_x hX) (cwV 1 C.1.2.2.2.2 gX8_days_X8_pastAt rfl rfl rfl kdV_X8_pastAt ⟨Nat.le_of_ble_eq_true rfl, Nat.le_of_ble_eq_true rfl⟩) 0 rfl rfl [0, 3] [1, 2] rfl rfl ⟨⟨_, rfl, rfl⟩, ⟨⟨_, rfl, rfl⟩, trivial⟩⟩ rfl (by decide +kernel) (adl := [a_t, a_t_weights]) rfl rfl rfl rfl rfl (Nat.le_of_ble_eq_true rfl) ⟨Nat.le_refl _, Nat.le_refl _⟩ dX8_days_125 rfl ?_
                  refine pb_put (pc := 128) (ws' := (wwX8_days cyB cyI cyJ cyZ cyS a_t a_t_w a_t_isKept a_t_text a_t_refused a_t_numbers a_t_weights c_t_texted c_t_above c_t_below c_t_at c_t_start c_t_isWord c_t_isFigures r41.2.1 0 r125 r122.2 c_t_h c_t_w c_t_refused r41.2.2)) C hnX8_days_X8 tyX8 tyX8_ok nmX8 0 rfl rfl 15 (by decide) (List.mem_of_getElem? (i := 6) rfl) rfl rfl rfl rfl (Nat.le_of_ble_eq_true rfl) rfl dX8_days_128 ?_
                  refine pb_iconst (v := 0) (pc := 131) C dX8_days_131 pb_kI_0 ?_
                  refine pb_istore (lv' := [(9, .int 0), (0, .ref a_t), (2, .int p2), (3, .int p3), (4, .int p4), (5, .int p5), (6, .int e58_6), (7, .int l106_7), (8, .int l106_8)]) (pc := 132) C dX8_days_132 (by decide) rfl ?_
                  obtain ⟨z134, hz134, hk134⟩ := pb_bind hf
                  have E134 : ∀ (e134_9 : Int32) (e134_c_t_known : Int32) (e134_c_t_x : Int64), fX8_days_E134 l106_7 l106_8 r125 e134_9 e134_c_t_known e134_c_t_x = some y106 → pb_V p l e rmX8_days s m (([.ref a_t, .int p1, .int p2, .int p3, .int p4, .int p5] : List Value).toArray) below meth c 10 (dC, dI) vwCl A 0 0 (pb_MQ below (([.ref a_t, .int p1, .int p2, .int p3, .int p4, .int p5] : List Value).toArray) s (dC, dI) vwCl (wwX8_days cyB cyI cyJ cyZ cyS a_t a_t_w a_t_isKept a_t_text a_t_refused a_t_numbers a_t_weights c_t_texted c_t_above c_t_below c_t_at c_t_start c_t_isWord c_t_isFigures c_t_all c_t_known c_t_truth c_t_x c_t_h c_t_w c_t_refused c_t_weights) (wwX8_days cyB cyI cyJ cyZ cyS a_t a_t_w a_t_isKept a_t_text a_t_refused a_t_numbers a_t_weights c_t_texted out.2.1 out.2.2.1 c_t_at c_t_start c_t_isWord c_t_isFigures out.2.2.2.1 out.2.2.2.2.1 out.2.2.2.2.2.1 out.2.2.2.2.2.2.1 c_t_h c_t_w out.2.2.2.2.2.2.2.1 out.2.2.2.2.2.2.2.2) (some (.int out.1)) A) (wwX8_days cyB cyI cyJ cyZ cyS a_t a_t_w a_t_isKept a_t_text a_t_refused a_t_numbers a_t_weights c_t_texted c_t_above c_t_below c_t_at c_t_start c_t_isWord c_t_isFigures r41.2.1 e134_c_t_known r125 e134_c_t_x c_t_h c_t_w c_t_refused r41.2.2) [(0, .ref a_t), (2, .int p2), (3, .int p3), (4, .int p4), (5, .int p5), (6, .int e58_6), (7, .int l106_7), (8, .int l106_8), (9, .int e134_9)] [] 177 := by
                    intro e134_9 e134_c_t_known e134_c_t_x hf
                    unfold fX8_days_E134 at hf
                    refine pb_iload (pc := 177) C dX8_days_177 6 rfl ?_
                    refine pb_iload (pc := 179) C dX8_days_179 8 rfl ?_
                    refine pb_iadd (pc := 181) C dX8_days_181 ?_
                    obtain ⟨x182, ex182, hf⟩ := pb_bind hf
                    have ex182 := Option.some.inj ex182
                    refine pb_topi ex182 ?_
                    refine pb_istore (lv' := [(7, .int x182), (0, .ref a_t), (2, .int p2), (3, .int p3), (4, .int p4), (5, .int p5), (6, .int e58_6), (8, .int l106_8), (9, .int e134_9)]) (pc := 182) C dX8_days_182 (by decide) rfl ?_
                    refine pb_iinc (v := l106_8 + 1) (lv' := [(8, .int (l106_8 + 1)), (7, .int x182), (0, .ref a_t), (2, .int p2), (3, .int p3), (4, .int p4), (5, .int p5), (6, .int e58_6), (9, .int e134_9)]) (pc := 184) C dX8_days_184 7 rfl (pb_inc pb_kI_1 rfl) (by decide) rfl ?_
                    refine pb_goto (pc := 187) (tgt := 106) C dX8_days_187 (by decide) ?_
                    obtain rfl := Option.some.inj hf
                    refine pb_sub [2, 3, 4, 5, 6, 7, 1, 0] rfl ?_
                    have hl106 := pb_inl hl106
                    exact ih106 x182 (l106_8 + 1) e134_c_t_known r125 e134_c_t_x hl106
                  have L134 : ∀ (n : Nat) (l134_9 : Int32) (l134_c_t_known : Int32) (l134_c_t_x : Int64), pb_lp (fun y => fX8_days_L134 p3 p4 p5 r125 r41 y.1 y.2.1 y.2.2) n (l134_9, l134_c_t_known, l134_c_t_x) = some z134 → pb_V p l e rmX8_days s m (([.ref a_t, .int p1, .int p2, .int p3, .int p4, .int p5] : List Value).toArray) below meth c 10 (dC, dI) vwCl A 0 0 (pb_MQ below (([.ref a_t, .int p1, .int p2, .int p3, .int p4, .int p5] : List Value).toArray) s (dC, dI) vwCl (wwX8_days cyB cyI cyJ cyZ cyS a_t a_t_w a_t_isKept a_t_text a_t_refused a_t_numbers a_t_weights c_t_texted c_t_above c_t_below c_t_at c_t_start c_t_isWord c_t_isFigures c_t_all c_t_known c_t_truth c_t_x c_t_h c_t_w c_t_refused c_t_weights) (wwX8_days cyB cyI cyJ cyZ cyS a_t a_t_w a_t_isKept a_t_text a_t_refused a_t_numbers a_t_weights c_t_texted out.2.1 out.2.2.1 c_t_at c_t_start c_t_isWord c_t_isFigures out.2.2.2.1 out.2.2.2.2.1 out.2.2.2.2.2.1 out.2.2.2.2.2.2.1 c_t_h c_t_w out.2.2.2.2.2.2.2.1 out.2.2.2.2.2.2.2.2) (some (.int out.1)) A) (wwX8_days cyB cyI cyJ cyZ cyS a_t a_t_w a_t_isKept a_t_text a_t_refused a_t_numbers a_t_weights c_t_texted c_t_above c_t_below c_t_at c_t_start c_t_isWord c_t_isFigures r41.2.1 l134_c_t_known r125 l134_c_t_x c_t_h c_t_w c_t_refused r41.2.2) [(0, .ref a_t), (2, .int p2), (3, .int p3), (4, .int p4), (5, .int p5), (6, .int e58_6), (7, .int l106_7), (8, .int l106_8), (9, .int l134_9)] [] 134 := by
                    intro n
                    induction n with
                    | zero => intro l134_9 l134_c_t_known l134_c_t_x hf; exact (pb_lp_zero hf).elim
                    | succ n ih134 =>
                      intro l134_9 l134_c_t_known l134_c_t_x hf
                      obtain ⟨y134, hf, hl134⟩ := pb_lp_succ hf
                      have hf : fX8_days_L134 p3 p4 p5 r125 r41 l134_9 l134_c_t_known l134_c_t_x = some y134 := hf
                      unfold fX8_days_L134 at hf
                      refine pb_iload (pc := 134) C dX8_days_134 8 rfl ?_
                      refine pb_bipush (v := 40) (pc := 136) C dX8_days_136 pb_kB_40 ?_
                      refine pb_icmp_ge (pc := 138) (tgt := 177) C dX8_days_138 (by decide) (fun hc138 => ?_) (fun hc138 => ?_)
                      · have hf := pb_pos hf hc138
                        obtain rfl := Option.some.inj hf
                        obtain rfl := pb_esc hl134
                        exact E134 l134_9 l134_c_t_known l134_c_t_x hk134
                      · have hf := pb_neg hf hc138
                        refine pb_aload_n (pc := 141) C dX8_days_141 rfl 0 rfl ?_
                        refine pb_iload_n (pc := 142) C dX8_days_142 rfl 2 rfl ?_
                        refine pb_iload (pc := 143) C dX8_days_143 3 rfl ?_
                        refine pb_iload (pc := 145) C dX8_days_145 4 rfl ?_
                        obtain ⟨r147, hr147, hf⟩ := pb_bind hf
                        refine pb_callV (pc := 147) (n0 := 4) (ws' := (wwX8_days cyB cyI cyJ cyZ cyS a_t a_t_w a_t_isKept a_t_text a_t_refused a_t_numbers a_t_weights c_t_texted c_t_above c_t_below c_t_at c_t_start c_t_isWord c_t_isFigures r41.2.1 l134_c_t_known r125 l134_c_t_x c_t_h c_t_w c_t_refused r41.2.2)) (rest := []) (st2 := [.int r147]) C (kcX8_settledNow l dC dI cyB cyI cyJ cyZ cyS a_t a_t_w a_t_isKept a_t_text a_t_refused a_t_numbers a_t_weights c_t_texted c_t_above c_t_below c_t_at c_t_start c_t_isWord c_t_isFigures r41.2.1 l134_c_t_known r125 l134_c_t_x c_t_h r41.2.2 p3 p4 p5 r147 hr147) pb_NW_b (pb_NW_x hX) (cwV 3 C.1.2.2.2.2 gX8_days_X8_settledNow rfl rfl rfl kdV_X8_settledNow ⟨Nat.le_of_ble_eq_true rfl, Nat.le_of_ble_eq_true rfl⟩) 0 rfl rfl [0, 3] [1, 2] rfl rfl ⟨⟨_, rfl, rfl⟩, ⟨⟨_, rfl, rfl⟩, trivial⟩⟩ rfl (by decide +kernel) (adl := [a_t, a_t_weights]) rfl rfl rfl rfl rfl (Nat.le_of_ble_eq_true rfl) ⟨Nat.le_refl _, Nat.le_refl _⟩ dX8_days_147 rfl ?_
                        refine pb_iconst (v := 2) (pc := 150) C dX8_days_150 pb_kI_2 ?_
                        refine pb_icmp_ne (pc := 151) (tgt := 177) C dX8_days_151 (by decide) (fun hc151 => ?_) (fun hc151 => ?_)
                        · have hf := pb_neg hf hc151
                          obtain rfl := Option.some.inj hf
                          obtain rfl := pb_esc hl134
                          exact E134 l134_9 l134_c_t_known l134_c_t_x hk134
                        · have hf := pb_pos hf hc151
                          refine pb_aload_n (pc := 154) C dX8_days_154 rfl 0 rfl ?_
                          refine pb_dup (pc := 155) C dX8_days_155 rfl ?_
                          refine pb_get (pc := 156) C hnX8_days_X8 0 rfl rfl 14 (by decide) (List.mem_of_getElem? (i := 5) rfl) rfl rfl dX8_days_156 ?_
                          refine pb_iconst (v := 1) (pc := 159) C dX8_days_159 pb_kI_1 ?_
                          refine pb_aload_n (pc := 160) C dX8_days_160 rfl 0 rfl ?_
                          refine pb_bipush (v := 7) (pc := 161) C dX8_days_161 pb_kB_7 ?_
                          obtain ⟨r163, hr163, hf⟩ := pb_bind hf
                          refine pb_callV (pc := 163) (n0 := 4) (ws' := (wwX8_days cyB cyI cyJ cyZ cyS a_t a_t_w a_t_isKept a_t_text a_t_refused a_t_numbers a_t_weights c_t_texted c_t_above c_t_below c_t_at c_t_start c_t_isWord c_t_isFigures r41.2.1 l134_c_t_known r125 r163.2 c_t_h c_t_w c_t_refused r41.2.2)) (rest := [.int 1, .int l134_c_t_known, .ref a_t]) (st2 := [.int r163.1, .int 1, .int l134_c_t_known, .ref a_t]) C (kcX8_draw l dC dI cyB cyI cyJ cyZ cyS a_t a_t_w a_t_isKept a_t_text a_t_refused a_t_numbers a_t_weights c_t_texted c_t_above c_t_below c_t_at c_t_start c_t_isWord c_t_isFigures r41.2.1 l134_c_t_known r125 l134_c_t_x c_t_h 7 r163 hr163) pb_NW_b (pb_NW_x hX) (cwV 1 C.1.2.2.2.2 gX8_days_X8_draw rfl rfl rfl kdV_X8_draw ⟨Nat.le_of_ble_eq_true rfl, Nat.le_of_ble_eq_true rfl⟩) 0 rfl rfl [0] [1, 2, 3] rfl rfl ⟨⟨_, rfl, rfl⟩, ⟨⟨_, rfl, rfl⟩, ⟨⟨_, rfl, rfl⟩, trivial⟩⟩⟩ rfl (by decide +kernel) (adl := [a_t]) rfl rfl rfl rfl rfl (Nat.le_of_ble_eq_true rfl) ⟨Nat.le_refl _, Nat.le_refl _⟩ dX8_days_163 rfl ?_
                          refine pb_ishl (pc := 166) C dX8_days_166 ?_
                          refine pb_ior (pc := 167) C dX8_days_167 ?_
                          obtain ⟨x168, ex168, hf⟩ := pb_bind hf
                          have ex168 := Option.some.inj ex168
                          refine pb_topi ex168 ?_
                          refine pb_put (pc := 168) (ws' := (wwX8_days cyB cyI cyJ cyZ cyS a_t a_t_w a_t_isKept a_t_text a_t_refused a_t_numbers a_t_weights c_t_texted c_t_above c_t_below c_t_at c_t_start c_t_isWord c_t_isFigures r41.2.1 x168 r125 r163.2 c_t_h c_t_w c_t_refused r41.2.2)) C hnX8_days_X8 tyX8 tyX8_ok nmX8 0 rfl rfl 14 (by decide) (List.mem_of_getElem? (i := 5) rfl) rfl rfl rfl rfl (Nat.le_of_ble_eq_true rfl) rfl dX8_days_168 ?_
                          refine pb_iinc (v := l134_9 + 1) (lv' := [(9, .int (l134_9 + 1)), (0, .ref a_t), (2, .int p2), (3, .int p3), (4, .int p4), (5, .int p5), (6, .int e58_6), (7, .int l106_7), (8, .int l106_8)]) (pc := 171) C dX8_days_171 8 rfl (pb_inc pb_kI_1 rfl) (by decide) rfl ?_
                          refine pb_goto (pc := 174) (tgt := 134) C dX8_days_174 (by decide) ?_
                          obtain rfl := Option.some.inj hf
                          refine pb_sub [1, 2, 3, 4, 5, 6, 7, 8, 0] rfl ?_
                          have hl134 := pb_inl hl134
                          exact ih134 (l134_9 + 1) x168 r163.2 hl134
                  refine pb_sub [1, 2, 3, 4, 5, 6, 7, 8, 0] rfl ?_
                  exact L134 pb_FU 0 0 r122.2 hz134
            refine pb_sub [2, 4, 5, 6, 7, 8, 1, 0] rfl ?_
            exact L106 pb_FU 0 0 c_t_known c_t_truth x100 hz106
          have L58 : ∀ (n : Nat) (l58_6 : Int32) (l58_7 : Int32), pb_lp (fun y => fX8_days_L58 r41 y.1 y.2) n (l58_6, l58_7) = some z58 → pb_V p l e rmX8_days s m (([.ref a_t, .int p1, .int p2, .int p3, .int p4, .int p5] : List Value).toArray) below meth c 10 (dC, dI) vwCl A 0 0 (pb_MQ below (([.ref a_t, .int p1, .int p2, .int p3, .int p4, .int p5] : List Value).toArray) s (dC, dI) vwCl (wwX8_days cyB cyI cyJ cyZ cyS a_t a_t_w a_t_isKept a_t_text a_t_refused a_t_numbers a_t_weights c_t_texted c_t_above c_t_below c_t_at c_t_start c_t_isWord c_t_isFigures c_t_all c_t_known c_t_truth c_t_x c_t_h c_t_w c_t_refused c_t_weights) (wwX8_days cyB cyI cyJ cyZ cyS a_t a_t_w a_t_isKept a_t_text a_t_refused a_t_numbers a_t_weights c_t_texted out.2.1 out.2.2.1 c_t_at c_t_start c_t_isWord c_t_isFigures out.2.2.2.1 out.2.2.2.2.1 out.2.2.2.2.2.1 out.2.2.2.2.2.2.1 c_t_h c_t_w out.2.2.2.2.2.2.2.1 out.2.2.2.2.2.2.2.2) (some (.int out.1)) A) (wwX8_days cyB cyI cyJ cyZ cyS a_t a_t_w a_t_isKept a_t_text a_t_refused a_t_numbers a_t_weights c_t_texted c_t_above c_t_below c_t_at c_t_start c_t_isWord c_t_isFigures r41.2.1 c_t_known c_t_truth c_t_x c_t_h c_t_w c_t_refused r41.2.2) [(0, .ref a_t), (1, .int p1), (2, .int p2), (3, .int p3), (4, .int p4), (5, .int p5), (6, .int l58_6), (7, .int l58_7)] [] 58 := by
            intro n
            induction n with
            | zero => intro l58_6 l58_7 hf; exact (pb_lp_zero hf).elim
            | succ n ih58 =>
              intro l58_6 l58_7 hf
              obtain ⟨y58, hf, hl58⟩ := pb_lp_succ hf
              have hf : fX8_days_L58 r41 l58_6 l58_7 = some y58 := hf
              unfold fX8_days_L58 at hf
              refine pb_iload (pc := 58) C dX8_days_58 7 rfl ?_
              refine pb_sipush (v := 128) (pc := 60) C dX8_days_60 pb_kS_128 ?_
              refine pb_icmp_ge (pc := 63) (tgt := 94) C dX8_days_63 (by decide) (fun hc63 => ?_) (fun hc63 => ?_)
              · have hf := pb_pos hf hc63
                obtain rfl := Option.some.inj hf
                obtain rfl := pb_esc hl58
                refine pb_sub [0, 1, 2, 3, 4, 5, 6] rfl ?_
                exact E58 l58_6 l58_7 hk58
              · have hf := pb_neg hf hc63
                refine pb_iload (pc := 66) C dX8_days_66 6 rfl ?_
                refine pb_aload_n (pc := 68) C dX8_days_68 rfl 0 rfl ?_
                refine pb_get (pc := 69) C hnX8_days_X8 0 rfl rfl 12 (by decide) (List.mem_of_getElem? (i := 3) rfl) rfl rfl dX8_days_69 ?_
                refine pb_iload (pc := 72) C dX8_days_72 7 rfl ?_
                obtain ⟨g74, hf⟩ := pb_grd hf
                refine pb_lald (pc := 74) C 3 2 rfl rfl g74 dX8_days_74 ?_
                refine pb_lconst (v := 0) (pc := 75) C dX8_days_75 pb_kL_0 ?_
                refine pb_lif_le (pc := 76) (tgt := 84) C dX8_days_76 dX8_days_77 (by decide) (fun hc76 => ?_) (fun hc76 => ?_)
                · have hf := pb_pos hf hc76
                  refine pb_iconst (v := 0) (pc := 84) C dX8_days_84 pb_kI_0 ?_
                  refine pb_iadd (pc := 85) C dX8_days_85 ?_
                  obtain ⟨x86, ex86, hf⟩ := pb_bind hf
                  have ex86 := Option.some.inj ex86
                  refine pb_topi ex86 ?_
                  refine pb_istore (lv' := [(6, .int x86), (0, .ref a_t), (1, .int p1), (2, .int p2), (3, .int p3), (4, .int p4), (5, .int p5), (7, .int l58_7)]) (pc := 86) C dX8_days_86 (by decide) rfl ?_
                  refine pb_iinc (v := l58_7 + 1) (lv' := [(7, .int (l58_7 + 1)), (6, .int x86), (0, .ref a_t), (1, .int p1), (2, .int p2), (3, .int p3), (4, .int p4), (5, .int p5)]) (pc := 88) C dX8_days_88 7 rfl (pb_inc pb_kI_1 rfl) (by decide) rfl ?_
                  refine pb_goto (pc := 91) (tgt := 58) C dX8_days_91 (by decide) ?_
                  obtain rfl := Option.some.inj hf
                  refine pb_sub [2, 3, 4, 5, 6, 7, 1, 0] rfl ?_
                  have hl58 := pb_inl hl58
                  exact ih58 x86 (l58_7 + 1) hl58
                · have hf := pb_neg hf hc76
                  refine pb_iconst (v := 1) (pc := 80) C dX8_days_80 pb_kI_1 ?_
                  refine pb_goto (pc := 81) (tgt := 85) C dX8_days_81 (by decide) ?_
                  refine pb_iadd (pc := 85) C dX8_days_85 ?_
                  obtain ⟨x86, ex86, hf⟩ := pb_bind hf
                  have ex86 := Option.some.inj ex86
                  refine pb_topi ex86 ?_
                  refine pb_istore (lv' := [(6, .int x86), (0, .ref a_t), (1, .int p1), (2, .int p2), (3, .int p3), (4, .int p4), (5, .int p5), (7, .int l58_7)]) (pc := 86) C dX8_days_86 (by decide) rfl ?_
                  refine pb_iinc (v := l58_7 + 1) (lv' := [(7, .int (l58_7 + 1)), (6, .int x86), (0, .ref a_t), (1, .int p1), (2, .int p2), (3, .int p3), (4, .int p4), (5, .int p5)]) (pc := 88) C dX8_days_88 7 rfl (pb_inc pb_kI_1 rfl) (by decide) rfl ?_
                  refine pb_goto (pc := 91) (tgt := 58) C dX8_days_91 (by decide) ?_
                  obtain rfl := Option.some.inj hf
                  refine pb_sub [2, 3, 4, 5, 6, 7, 1, 0] rfl ?_
                  have hl58 := pb_inl hl58
                  exact ih58 x86 (l58_7 + 1) hl58
          refine pb_sub [2, 3, 4, 5, 6, 7, 1, 0] rfl ?_
          exact L58 pb_FU 0 0 hz58
        · have hf := pb_pos hf hc44
          refine pb_aload_n (pc := 47) C dX8_days_47 rfl 0 rfl ?_
          obtain ⟨r48, hr48, hf⟩ := pb_bind hf
          refine pb_callV (pc := 48) (n0 := 4) (ws' := (wwX8_days cyB cyI cyJ cyZ cyS a_t a_t_w a_t_isKept a_t_text a_t_refused a_t_numbers a_t_weights c_t_texted c_t_above c_t_below c_t_at c_t_start c_t_isWord c_t_isFigures r41.2.1 c_t_known c_t_truth c_t_x c_t_h c_t_w r48.2 r41.2.2)) (rest := []) (st2 := [.int r48.1]) C (kcX8_no l dC dI cyB cyI cyJ cyZ cyS a_t a_t_w a_t_isKept a_t_text a_t_refused a_t_numbers a_t_weights c_t_texted c_t_above c_t_below c_t_at c_t_start c_t_isWord c_t_isFigures r41.2.1 c_t_known c_t_truth c_t_x c_t_h c_t_refused r48 hr48) pb_NW_b (pb_NW_x hX) (cwV 0 C.1.2.2.2.2 gX8_days_X8_no rfl rfl rfl kdV_X8_no ⟨Nat.le_of_ble_eq_true rfl, Nat.le_of_ble_eq_true rfl⟩) 0 rfl rfl [0, 2] [1, 3] rfl rfl ⟨⟨_, rfl, rfl⟩, ⟨⟨_, rfl, rfl⟩, trivial⟩⟩ rfl (by decide +kernel) (adl := [a_t, a_t_refused]) rfl rfl rfl rfl rfl (Nat.le_of_ble_eq_true rfl) ⟨Nat.le_refl _, Nat.le_refl _⟩ dX8_days_48 rfl ?_
          obtain rfl := Option.some.inj hf
          exact pb_iret (pc := 51) C hr hlk hA dX8_days_51
      · have hf := pb_pos hf hc32
        refine pb_aload_n (pc := 35) C dX8_days_35 rfl 0 rfl ?_
        obtain ⟨r36, hr36, hf⟩ := pb_bind hf
        refine pb_callV (pc := 36) (n0 := 4) (ws' := (wwX8_days cyB cyI cyJ cyZ cyS a_t a_t_w a_t_isKept a_t_text a_t_refused a_t_numbers a_t_weights c_t_texted c_t_above c_t_below c_t_at c_t_start c_t_isWord c_t_isFigures c_t_all c_t_known c_t_truth c_t_x c_t_h c_t_w r36.2 c_t_weights)) (rest := []) (st2 := [.int r36.1]) C (kcX8_bad l dC dI cyB cyI cyJ cyZ cyS a_t a_t_w a_t_isKept a_t_text a_t_refused a_t_numbers a_t_weights c_t_texted c_t_above c_t_below c_t_at c_t_start c_t_isWord c_t_isFigures c_t_all c_t_known c_t_truth c_t_x c_t_h c_t_refused r36 hr36) pb_NW_b (pb_NW_x hX) (cwV 0 C.1.2.2.2.2 gX8_days_X8_bad rfl rfl rfl kdV_X8_bad ⟨Nat.le_of_ble_eq_true rfl, Nat.le_of_ble_eq_true rfl⟩) 0 rfl rfl [0, 2] [1, 3] rfl rfl ⟨⟨_, rfl, rfl⟩, ⟨⟨_, rfl, rfl⟩, trivial⟩⟩ rfl (by decide +kernel) (adl := [a_t, a_t_refused]) rfl rfl rfl rfl rfl (Nat.le_of_ble_eq_true rfl) ⟨Nat.le_refl _, Nat.le_refl _⟩ dX8_days_36 rfl ?_
        obtain rfl := Option.some.inj hf
        exact pb_iret (pc := 39) C hr hlk hA dX8_days_39
def rmX8_part : Room := { frames := 1, cells := 0, slots := 0, locals := 20 }
def wwX8_part (cyB cyI cyJ cyZ cyS : ClassId) (a_t a_t_w a_t_isKept a_t_text a_t_refused a_t_numbers a_t_weights : Nat) (c_t_texted : Int32) (c_t_above : Int64) (c_t_below : Int64) (c_t_at : Int32) (c_t_start : Int32) (c_t_isWord : Int32) (c_t_isFigures : Int32) (c_t_all : Int64) (c_t_known : Int32) (c_t_truth : Int32) (c_t_x : Int64) (c_t_h : Int64) (c_t_refused : (Nat → Int32)) : va_W := [(a_t, .inr (8, [.ref a_t_w, .ref a_t_isKept, .ref a_t_text, .int c_t_texted, .ref a_t_refused, .long c_t_above, .long c_t_below, .int c_t_at, .int c_t_start, .int c_t_isWord, .int c_t_isFigures, .ref a_t_numbers, .ref a_t_weights, .long c_t_all, .int c_t_known, .int c_t_truth, .long c_t_x, .long c_t_h])), (a_t_refused, .inl (cyI, 3, .inl c_t_refused))]
theorem hnX8_part_X8 : ∀ w ∈ wsX80, w ∈ wsX8_part := fun _ h => List.mem_cons_of_mem _ (List.mem_append_right _ h)
set_option maxHeartbeats 4000000 in
set_option maxRecDepth 100000 in
theorem kcX8_part (l : Launch) (dC : Nat → ClassId) (dI : Nat → Nat → Nat) (cyB cyI cyJ cyZ cyS : ClassId) (a_t a_t_w a_t_isKept a_t_text a_t_refused a_t_numbers a_t_weights : Nat) (c_t_texted : Int32) (c_t_above : Int64) (c_t_below : Int64) (c_t_at : Int32) (c_t_start : Int32) (c_t_isWord : Int32) (c_t_isFigures : Int32) (c_t_all : Int64) (c_t_known : Int32) (c_t_truth : Int32) (c_t_x : Int64) (c_t_h : Int64) (c_t_refused : (Nat → Int32)) (p1 : Int32) (out : (Int64 × (Nat → Int32))) (hf : fX8_part c_t_above c_t_below c_t_refused p1 = some out) : pb_K l yX8_part wsX8_part rmX8_part (dC, dI) vwCl (pb_tys cyB cyI cyJ cyZ cyS) pb_NW [.ref a_t, .int p1] (wwX8_part cyB cyI cyJ cyZ cyS a_t a_t_w a_t_isKept a_t_text a_t_refused a_t_numbers a_t_weights c_t_texted c_t_above c_t_below c_t_at c_t_start c_t_isWord c_t_isFigures c_t_all c_t_known c_t_truth c_t_x c_t_h c_t_refused) (wwX8_part cyB cyI cyJ cyZ cyS a_t a_t_w a_t_isKept a_t_text a_t_refused a_t_numbers a_t_weights c_t_texted c_t_above c_t_below c_t_at c_t_start c_t_isWord c_t_isFigures c_t_all c_t_known c_t_truth c_t_x c_t_h out.2) (some (.long out.1)) := by
  unfold fX8_part at hf
  refine pb_K.ofV (cc := cX8_part) (maxL := 2) (ret := (some .long)) (lv0 := [(0, .ref a_t), (1, .int p1)]) (by decide) rfl (Nat.le_of_ble_eq_true rfl) rfl ?_
  intro p e s m below meth c A C hX hr hlk hA
  refine pb_iload_n (pc := 0) C dX8_part_0 rfl 1 rfl ?_
  refine pb_if_ne (pc := 1) (tgt := 11) C dX8_part_1 (by decide) (fun hc1 => ?_) (fun hc1 => ?_)
  · have hf := pb_neg hf hc1
    refine pb_iload_n (pc := 11) C dX8_part_11 rfl 1 rfl ?_
    refine pb_iconst (v := 1) (pc := 12) C dX8_part_12 pb_kI_1 ?_
    refine pb_icmp_ne (pc := 13) (tgt := 23) C dX8_part_13 (by decide) (fun hc13 => ?_) (fun hc13 => ?_)
    · have hf := pb_neg hf hc13
      refine pb_aload_n (pc := 23) C dX8_part_23 rfl 0 rfl ?_
      obtain ⟨r24, hr24, hf⟩ := pb_bind hf
      refine pb_callV (pc := 24) (n0 := 2) (ws' := (wwX8_part cyB cyI cyJ cyZ cyS a_t a_t_w a_t_isKept a_t_text a_t_refused a_t_numbers a_t_weights c_t_texted c_t_above c_t_below c_t_at c_t_start c_t_isWord c_t_isFigures c_t_all c_t_known c_t_truth c_t_x c_t_h r24.2)) (rest := []) (st2 := [.int r24.1]) C (kcX8_bad l dC dI cyB cyI cyJ cyZ cyS a_t a_t_w a_t_isKept a_t_text a_t_refused a_t_numbers a_t_weights c_t_texted c_t_above c_t_below c_t_at c_t_start c_t_isWord c_t_isFigures c_t_all c_t_known c_t_truth c_t_x c_t_h c_t_refused r24 hr24) pb_NW_b (pb_NW_x hX) (cwV 0 C.1.2.2.2.2 gX8_part_X8_bad rfl rfl rfl kdV_X8_bad ⟨Nat.le_of_ble_eq_true rfl, Nat.le_of_ble_eq_true rfl⟩) 0 rfl rfl [0, 1] [] rfl rfl trivial rfl (by decide +kernel) (adl := [a_t, a_t_refused]) rfl rfl rfl rfl rfl (Nat.le_of_ble_eq_true rfl) ⟨Nat.le_refl _, Nat.le_refl _⟩ dX8_part_24 rfl ?_
      refine pb_i2l (pc := 27) C dX8_part_27 ?_
      obtain rfl := Option.some.inj hf
      exact pb_lret (pc := 28) C hr hlk hA dX8_part_28
    · have hf := pb_pos hf hc13
      refine pb_aload_n (pc := 16) C dX8_part_16 rfl 0 rfl ?_
      refine pb_get (pc := 17) C hnX8_part_X8 0 rfl rfl 6 (by decide) (List.mem_of_getElem? (i := 2) rfl) rfl rfl dX8_part_17 ?_
      refine pb_goto (pc := 20) (tgt := 28) C dX8_part_20 (by decide) ?_
      obtain rfl := Option.some.inj hf
      exact pb_lret (pc := 28) C hr hlk hA dX8_part_28
  · have hf := pb_pos hf hc1
    refine pb_aload_n (pc := 4) C dX8_part_4 rfl 0 rfl ?_
    refine pb_get (pc := 5) C hnX8_part_X8 0 rfl rfl 5 (by decide) (List.mem_of_getElem? (i := 1) rfl) rfl rfl dX8_part_5 ?_
    refine pb_goto (pc := 8) (tgt := 28) C dX8_part_8 (by decide) ?_
    obtain rfl := Option.some.inj hf
    exact pb_lret (pc := 28) C hr hlk hA dX8_part_28
def rmX8_image : Room := { frames := 1, cells := 0, slots := 0, locals := 25 }
def wwX8_image (cyB cyI cyJ cyZ cyS : ClassId) (a_t a_t_w a_t_isKept a_t_text a_t_refused a_t_numbers a_t_weights : Nat) (c_t_texted : Int32) (c_t_above : Int64) (c_t_below : Int64) (c_t_at : Int32) (c_t_start : Int32) (c_t_isWord : Int32) (c_t_isFigures : Int32) (c_t_all : Int64) (c_t_known : Int32) (c_t_truth : Int32) (c_t_x : Int64) (c_t_h : Int64) (c_t_w : (Nat → Int32)) (c_t_isKept : (Nat → Int32)) (c_t_refused : (Nat → Int32)) : va_W := [(a_t, .inr (8, [.ref a_t_w, .ref a_t_isKept, .ref a_t_text, .int c_t_texted, .ref a_t_refused, .long c_t_above, .long c_t_below, .int c_t_at, .int c_t_start, .int c_t_isWord, .int c_t_isFigures, .ref a_t_numbers, .ref a_t_weights, .long c_t_all, .int c_t_known, .int c_t_truth, .long c_t_x, .long c_t_h])), (a_t_w, .inl (cyI, 1508, .inl c_t_w)), (a_t_isKept, .inl (cyZ, 2, .inl c_t_isKept)), (a_t_refused, .inl (cyI, 3, .inl c_t_refused))]
theorem hnX8_image_X8 : ∀ w ∈ wsX80, w ∈ wsX8_image := fun _ h => List.mem_cons_of_mem _ (List.mem_append_right _ h)
set_option maxHeartbeats 4000000 in
set_option maxRecDepth 100000 in
theorem kcX8_image (l : Launch) (dC : Nat → ClassId) (dI : Nat → Nat → Nat) (cyB cyI cyJ cyZ cyS : ClassId) (a_t a_t_w a_t_isKept a_t_text a_t_refused a_t_numbers a_t_weights : Nat) (c_t_texted : Int32) (c_t_above : Int64) (c_t_below : Int64) (c_t_at : Int32) (c_t_start : Int32) (c_t_isWord : Int32) (c_t_isFigures : Int32) (c_t_all : Int64) (c_t_known : Int32) (c_t_truth : Int32) (c_t_x : Int64) (c_t_h : Int64) (c_t_w : (Nat → Int32)) (c_t_isKept : (Nat → Int32)) (c_t_refused : (Nat → Int32)) (p1 : Int32) (out : (Int32 × (Nat → Int32) × (Nat → Int32) × (Nat → Int32))) (hf : fX8_image c_t_w c_t_isKept c_t_refused p1 = some out) : pb_K l yX8_image wsX8_image rmX8_image (dC, dI) vwCl (pb_tys cyB cyI cyJ cyZ cyS) pb_NW [.ref a_t, .int p1] (wwX8_image cyB cyI cyJ cyZ cyS a_t a_t_w a_t_isKept a_t_text a_t_refused a_t_numbers a_t_weights c_t_texted c_t_above c_t_below c_t_at c_t_start c_t_isWord c_t_isFigures c_t_all c_t_known c_t_truth c_t_x c_t_h c_t_w c_t_isKept c_t_refused) (wwX8_image cyB cyI cyJ cyZ cyS a_t a_t_w a_t_isKept a_t_text a_t_refused a_t_numbers a_t_weights c_t_texted c_t_above c_t_below c_t_at c_t_start c_t_isWord c_t_isFigures c_t_all c_t_known c_t_truth c_t_x c_t_h out.2.1 out.2.2.1 out.2.2.2) (some (.int out.1)) := by
  unfold fX8_image at hf
  refine pb_K.ofV (cc := cX8_image) (maxL := 2) (ret := (some .int)) (lv0 := [(0, .ref a_t), (1, .int p1)]) (by decide) rfl (Nat.le_of_ble_eq_true rfl) rfl ?_
  intro p e s m below meth c A C hX hr hlk hA
  refine pb_iload_n (pc := 0) C dX8_image_0 rfl 1 rfl ?_
  refine pb_i2l (pc := 1) C dX8_image_1 ?_
  refine pb_lconst (v := 0) (pc := 2) C dX8_image_2 pb_kL_0 ?_
  refine pb_lconst (v := 1) (pc := 3) C dX8_image_3 pb_kL_1 ?_
  obtain ⟨r4, hr4, hf⟩ := pb_bind hf
  refine pb_callS (pc := 4) (n0 := 4) (ws' := (wwX8_image cyB cyI cyJ cyZ cyS a_t a_t_w a_t_isKept a_t_text a_t_refused a_t_numbers a_t_weights c_t_texted c_t_above c_t_below c_t_at c_t_start c_t_isWord c_t_isFigures c_t_all c_t_known c_t_truth c_t_x c_t_h c_t_w c_t_isKept c_t_refused)) (rest := []) (st2 := [.int r4]) C (kcX8_in l dC dI cyB cyI cyJ cyZ cyS (Int32.toInt64 p1) 0 1 r4 hr4) pb_NW_b (pb_NW_x hX) (va_cwS 3 C.1.2.2.2.2 gX8_image_X8_in rfl rfl rfl kdS_X8_in ⟨Nat.le_of_ble_eq_true rfl, Nat.le_of_ble_eq_true rfl⟩) [] [0, 1, 2, 3] rfl rfl ⟨⟨_, rfl, rfl⟩, ⟨⟨_, rfl, rfl⟩, ⟨⟨_, rfl, rfl⟩, ⟨⟨_, rfl, rfl⟩, trivial⟩⟩⟩⟩ rfl (by decide +kernel) (adl := []) rfl rfl rfl rfl rfl (Nat.le_of_ble_eq_true rfl) ⟨Nat.le_refl _, Nat.le_refl _⟩ dX8_image_4 rfl ?_
  refine pb_if_ne (pc := 7) (tgt := 15) C dX8_image_7 (by decide) (fun hc7 => ?_) (fun hc7 => ?_)
  · have hf := pb_neg hf hc7
    refine pb_aload_n (pc := 15) C dX8_image_15 rfl 0 rfl ?_
    refine pb_iconst (v := 0) (pc := 16) C dX8_image_16 pb_kI_0 ?_
    refine pb_sipush (v := 377) (pc := 17) C dX8_image_17 pb_kS_377 ?_
    refine pb_iconst (v := 1) (pc := 20) C dX8_image_20 pb_kI_1 ?_
    refine pb_iload_n (pc := 21) C dX8_image_21 rfl 1 rfl ?_
    refine pb_iadd (pc := 22) C dX8_image_22 ?_
    refine pb_imul (pc := 23) C dX8_image_23 ?_
    obtain ⟨r24, hr24, hf⟩ := pb_bind hf
    refine pb_callV (pc := 24) (n0 := 4) (ws' := (wwX8_image cyB cyI cyJ cyZ cyS a_t a_t_w a_t_isKept a_t_text a_t_refused a_t_numbers a_t_weights c_t_texted c_t_above c_t_below c_t_at c_t_start c_t_isWord c_t_isFigures c_t_all c_t_known c_t_truth c_t_x c_t_h r24 c_t_isKept c_t_refused)) (rest := []) (st2 := []) C (kcX8_copy l dC dI cyB cyI cyJ cyZ cyS a_t a_t_w a_t_isKept a_t_text a_t_refused a_t_numbers a_t_weights c_t_texted c_t_above c_t_below c_t_at c_t_start c_t_isWord c_t_isFigures c_t_all c_t_known c_t_truth c_t_x c_t_h c_t_w 0 (377 * (1 + p1)) r24 hr24) pb_NW_b (pb_NW_x hX) (cwV 2 C.1.2.2.2.2 gX8_image_X8_copy rfl rfl rfl kdV_X8_copy ⟨Nat.le_of_ble_eq_true rfl, Nat.le_of_ble_eq_true rfl⟩) 0 rfl rfl [0, 1] [2, 3] rfl rfl ⟨⟨_, rfl, rfl⟩, ⟨⟨_, rfl, rfl⟩, trivial⟩⟩ rfl (by decide +kernel) (adl := [a_t, a_t_w]) rfl rfl rfl rfl rfl (Nat.le_of_ble_eq_true rfl) ⟨Nat.le_refl _, Nat.le_refl _⟩ dX8_image_24 rfl ?_
    refine pb_aload_n (pc := 27) C dX8_image_27 rfl 0 rfl ?_
    refine pb_get (pc := 28) C hnX8_image_X8 0 rfl rfl 1 (by decide) (List.mem_of_getElem? (i := 1) rfl) rfl rfl dX8_image_28 ?_
    refine pb_iload_n (pc := 31) C dX8_image_31 rfl 1 rfl ?_
    refine pb_iconst (v := 1) (pc := 32) C dX8_image_32 pb_kI_1 ?_
    obtain ⟨g33, hf⟩ := pb_grd hf
    obtain ⟨u33, eu33, hf⟩ := pb_bind hf
    have eu33 := Option.some.inj eu33
    refine pb_zast (pc := 33) (ws' := (wwX8_image cyB cyI cyJ cyZ cyS a_t a_t_w a_t_isKept a_t_text a_t_refused a_t_numbers a_t_weights c_t_texted c_t_above c_t_below c_t_at c_t_start c_t_isWord c_t_isFigures c_t_all c_t_known c_t_truth c_t_x c_t_h r24 u33 c_t_refused)) C 2 3 rfl rfl g33 eu33 rfl dX8_image_33 ?_
    refine pb_iconst (v := 1) (pc := 34) C dX8_image_34 pb_kI_1 ?_
    obtain rfl := Option.some.inj hf
    exact pb_iret (pc := 35) C hr hlk hA dX8_image_35
  · have hf := pb_pos hf hc7
    refine pb_aload_n (pc := 10) C dX8_image_10 rfl 0 rfl ?_
    obtain ⟨r11, hr11, hf⟩ := pb_bind hf
    refine pb_callV (pc := 11) (n0 := 4) (ws' := (wwX8_image cyB cyI cyJ cyZ cyS a_t a_t_w a_t_isKept a_t_text a_t_refused a_t_numbers a_t_weights c_t_texted c_t_above c_t_below c_t_at c_t_start c_t_isWord c_t_isFigures c_t_all c_t_known c_t_truth c_t_x c_t_h c_t_w c_t_isKept r11.2)) (rest := []) (st2 := [.int r11.1]) C (kcX8_bad l dC dI cyB cyI cyJ cyZ cyS a_t a_t_w a_t_isKept a_t_text a_t_refused a_t_numbers a_t_weights c_t_texted c_t_above c_t_below c_t_at c_t_start c_t_isWord c_t_isFigures c_t_all c_t_known c_t_truth c_t_x c_t_h c_t_refused r11 hr11) pb_NW_b (pb_NW_x hX) (cwV 0 C.1.2.2.2.2 gX8_image_X8_bad rfl rfl rfl kdV_X8_bad ⟨Nat.le_of_ble_eq_true rfl, Nat.le_of_ble_eq_true rfl⟩) 0 rfl rfl [0, 3] [1, 2] rfl rfl ⟨⟨_, rfl, rfl⟩, ⟨⟨_, rfl, rfl⟩, trivial⟩⟩ rfl (by decide +kernel) (adl := [a_t, a_t_refused]) rfl rfl rfl rfl rfl (Nat.le_of_ble_eq_true rfl) ⟨Nat.le_refl _, Nat.le_refl _⟩ dX8_image_11 rfl ?_
    obtain rfl := Option.some.inj hf
    exact pb_iret (pc := 14) C hr hlk hA dX8_image_14
def rmX8_from : Room := { frames := 1, cells := 0, slots := 0, locals := 25 }
def wwX8_from (cyB cyI cyJ cyZ cyS : ClassId) (a_t a_t_w a_t_isKept a_t_text a_t_refused a_t_numbers a_t_weights : Nat) (c_t_texted : Int32) (c_t_above : Int64) (c_t_below : Int64) (c_t_at : Int32) (c_t_start : Int32) (c_t_isWord : Int32) (c_t_isFigures : Int32) (c_t_all : Int64) (c_t_known : Int32) (c_t_truth : Int32) (c_t_x : Int64) (c_t_h : Int64) (c_t_w : (Nat → Int32)) (c_t_isKept : (Nat → Int32)) (c_t_refused : (Nat → Int32)) : va_W := [(a_t, .inr (8, [.ref a_t_w, .ref a_t_isKept, .ref a_t_text, .int c_t_texted, .ref a_t_refused, .long c_t_above, .long c_t_below, .int c_t_at, .int c_t_start, .int c_t_isWord, .int c_t_isFigures, .ref a_t_numbers, .ref a_t_weights, .long c_t_all, .int c_t_known, .int c_t_truth, .long c_t_x, .long c_t_h])), (a_t_w, .inl (cyI, 1508, .inl c_t_w)), (a_t_isKept, .inl (cyZ, 2, .inl c_t_isKept)), (a_t_refused, .inl (cyI, 3, .inl c_t_refused))]
theorem hnX8_from_X8 : ∀ w ∈ wsX80, w ∈ wsX8_from := fun _ h => List.mem_cons_of_mem _ (List.mem_append_right _ h)
set_option maxHeartbeats 4000000 in
set_option maxRecDepth 100000 in
theorem kcX8_from (l : Launch) (dC : Nat → ClassId) (dI : Nat → Nat → Nat) (cyB cyI cyJ cyZ cyS : ClassId) (a_t a_t_w a_t_isKept a_t_text a_t_refused a_t_numbers a_t_weights : Nat) (c_t_texted : Int32) (c_t_above : Int64) (c_t_below : Int64) (c_t_at : Int32) (c_t_start : Int32) (c_t_isWord : Int32) (c_t_isFigures : Int32) (c_t_all : Int64) (c_t_known : Int32) (c_t_truth : Int32) (c_t_x : Int64) (c_t_h : Int64) (c_t_w : (Nat → Int32)) (c_t_isKept : (Nat → Int32)) (c_t_refused : (Nat → Int32)) (p1 : Int32) (out : (Int32 × (Nat → Int32) × (Nat → Int32))) (hf : fX8_from c_t_w c_t_isKept c_t_refused p1 = some out) : pb_K l yX8_from wsX8_from rmX8_from (dC, dI) vwCl (pb_tys cyB cyI cyJ cyZ cyS) pb_NW [.ref a_t, .int p1] (wwX8_from cyB cyI cyJ cyZ cyS a_t a_t_w a_t_isKept a_t_text a_t_refused a_t_numbers a_t_weights c_t_texted c_t_above c_t_below c_t_at c_t_start c_t_isWord c_t_isFigures c_t_all c_t_known c_t_truth c_t_x c_t_h c_t_w c_t_isKept c_t_refused) (wwX8_from cyB cyI cyJ cyZ cyS a_t a_t_w a_t_isKept a_t_text a_t_refused a_t_numbers a_t_weights c_t_texted c_t_above c_t_below c_t_at c_t_start c_t_isWord c_t_isFigures c_t_all c_t_known c_t_truth c_t_x c_t_h out.2.1 c_t_isKept out.2.2) (some (.int out.1)) := by
  unfold fX8_from at hf
  refine pb_K.ofV (cc := cX8_from) (maxL := 2) (ret := (some .int)) (lv0 := [(0, .ref a_t), (1, .int p1)]) (by decide) rfl (Nat.le_of_ble_eq_true rfl) rfl ?_
  intro p e s m below meth c A C hX hr hlk hA
  refine pb_iload_n (pc := 0) C dX8_from_0 rfl 1 rfl ?_
  refine pb_i2l (pc := 1) C dX8_from_1 ?_
  refine pb_lconst (v := 0) (pc := 2) C dX8_from_2 pb_kL_0 ?_
  refine pb_lconst (v := 1) (pc := 3) C dX8_from_3 pb_kL_1 ?_
  obtain ⟨r4, hr4, hf⟩ := pb_bind hf
  refine pb_callS (pc := 4) (n0 := 4) (ws' := (wwX8_from cyB cyI cyJ cyZ cyS a_t a_t_w a_t_isKept a_t_text a_t_refused a_t_numbers a_t_weights c_t_texted c_t_above c_t_below c_t_at c_t_start c_t_isWord c_t_isFigures c_t_all c_t_known c_t_truth c_t_x c_t_h c_t_w c_t_isKept c_t_refused)) (rest := []) (st2 := [.int r4]) C (kcX8_in l dC dI cyB cyI cyJ cyZ cyS (Int32.toInt64 p1) 0 1 r4 hr4) pb_NW_b (pb_NW_x hX) (va_cwS 3 C.1.2.2.2.2 gX8_from_X8_in rfl rfl rfl kdS_X8_in ⟨Nat.le_of_ble_eq_true rfl, Nat.le_of_ble_eq_true rfl⟩) [] [0, 1, 2, 3] rfl rfl ⟨⟨_, rfl, rfl⟩, ⟨⟨_, rfl, rfl⟩, ⟨⟨_, rfl, rfl⟩, ⟨⟨_, rfl, rfl⟩, trivial⟩⟩⟩⟩ rfl (by decide +kernel) (adl := []) rfl rfl rfl rfl rfl (Nat.le_of_ble_eq_true rfl) ⟨Nat.le_refl _, Nat.le_refl _⟩ dX8_from_4 rfl ?_
  refine pb_if_ne (pc := 7) (tgt := 15) C dX8_from_7 (by decide) (fun hc7 => ?_) (fun hc7 => ?_)
  · have hf := pb_neg hf hc7
    refine pb_aload_n (pc := 15) C dX8_from_15 rfl 0 rfl ?_
    refine pb_get (pc := 16) C hnX8_from_X8 0 rfl rfl 1 (by decide) (List.mem_of_getElem? (i := 1) rfl) rfl rfl dX8_from_16 ?_
    refine pb_iload_n (pc := 19) C dX8_from_19 rfl 1 rfl ?_
    obtain ⟨g20, hf⟩ := pb_grd hf
    refine pb_zald (pc := 20) C 2 3 rfl rfl g20 dX8_from_20 ?_
    refine pb_if_ne (pc := 21) (tgt := 29) C dX8_from_21 (by decide) (fun hc21 => ?_) (fun hc21 => ?_)
    · have hf := pb_neg hf hc21
      refine pb_aload_n (pc := 29) C dX8_from_29 rfl 0 rfl ?_
      refine pb_sipush (v := 377) (pc := 30) C dX8_from_30 pb_kS_377 ?_
      refine pb_iconst (v := 1) (pc := 33) C dX8_from_33 pb_kI_1 ?_
      refine pb_iload_n (pc := 34) C dX8_from_34 rfl 1 rfl ?_
      refine pb_iadd (pc := 35) C dX8_from_35 ?_
      refine pb_imul (pc := 36) C dX8_from_36 ?_
      refine pb_iconst (v := 0) (pc := 37) C dX8_from_37 pb_kI_0 ?_
      obtain ⟨r38, hr38, hf⟩ := pb_bind hf
      refine pb_callV (pc := 38) (n0 := 4) (ws' := (wwX8_from cyB cyI cyJ cyZ cyS a_t a_t_w a_t_isKept a_t_text a_t_refused a_t_numbers a_t_weights c_t_texted c_t_above c_t_below c_t_at c_t_start c_t_isWord c_t_isFigures c_t_all c_t_known c_t_truth c_t_x c_t_h r38 c_t_isKept c_t_refused)) (rest := []) (st2 := []) C (kcX8_copy l dC dI cyB cyI cyJ cyZ cyS a_t a_t_w a_t_isKept a_t_text a_t_refused a_t_numbers a_t_weights c_t_texted c_t_above c_t_below c_t_at c_t_start c_t_isWord c_t_isFigures c_t_all c_t_known c_t_truth c_t_x c_t_h c_t_w (377 * (1 + p1)) 0 r38 hr38) pb_NW_b (pb_NW_x hX) (cwV 2 C.1.2.2.2.2 gX8_from_X8_copy rfl rfl rfl kdV_X8_copy ⟨Nat.le_of_ble_eq_true rfl, Nat.le_of_ble_eq_true rfl⟩) 0 rfl rfl [0, 1] [2, 3] rfl rfl ⟨⟨_, rfl, rfl⟩, ⟨⟨_, rfl, rfl⟩, trivial⟩⟩ rfl (by decide +kernel) (adl := [a_t, a_t_w]) rfl rfl rfl rfl rfl (Nat.le_of_ble_eq_true rfl) ⟨Nat.le_refl _, Nat.le_refl _⟩ dX8_from_38 rfl ?_
      refine pb_iconst (v := 1) (pc := 41) C dX8_from_41 pb_kI_1 ?_
      obtain rfl := Option.some.inj hf
      exact pb_iret (pc := 42) C hr hlk hA dX8_from_42
    · have hf := pb_pos hf hc21
      refine pb_aload_n (pc := 24) C dX8_from_24 rfl 0 rfl ?_
      obtain ⟨r25, hr25, hf⟩ := pb_bind hf
      refine pb_callV (pc := 25) (n0 := 4) (ws' := (wwX8_from cyB cyI cyJ cyZ cyS a_t a_t_w a_t_isKept a_t_text a_t_refused a_t_numbers a_t_weights c_t_texted c_t_above c_t_below c_t_at c_t_start c_t_isWord c_t_isFigures c_t_all c_t_known c_t_truth c_t_x c_t_h c_t_w c_t_isKept r25.2)) (rest := []) (st2 := [.int r25.1]) C (kcX8_no l dC dI cyB cyI cyJ cyZ cyS a_t a_t_w a_t_isKept a_t_text a_t_refused a_t_numbers a_t_weights c_t_texted c_t_above c_t_below c_t_at c_t_start c_t_isWord c_t_isFigures c_t_all c_t_known c_t_truth c_t_x c_t_h c_t_refused r25 hr25) pb_NW_b (pb_NW_x hX) (cwV 0 C.1.2.2.2.2 gX8_from_X8_no rfl rfl rfl kdV_X8_no ⟨Nat.le_of_ble_eq_true rfl, Nat.le_of_ble_eq_true rfl⟩) 0 rfl rfl [0, 3] [1, 2] rfl rfl ⟨⟨_, rfl, rfl⟩, ⟨⟨_, rfl, rfl⟩, trivial⟩⟩ rfl (by decide +kernel) (adl := [a_t, a_t_refused]) rfl rfl rfl rfl rfl (Nat.le_of_ble_eq_true rfl) ⟨Nat.le_refl _, Nat.le_refl _⟩ dX8_from_25 rfl ?_
      obtain rfl := Option.some.inj hf
      exact pb_iret (pc := 28) C hr hlk hA dX8_from_28
  · have hf := pb_pos hf hc7
    refine pb_aload_n (pc := 10) C dX8_from_10 rfl 0 rfl ?_
    obtain ⟨r11, hr11, hf⟩ := pb_bind hf
    refine pb_callV (pc := 11) (n0 := 4) (ws' := (wwX8_from cyB cyI cyJ cyZ cyS a_t a_t_w a_t_isKept a_t_text a_t_refused a_t_numbers a_t_weights c_t_texted c_t_above c_t_below c_t_at c_t_start c_t_isWord c_t_isFigures c_t_all c_t_known c_t_truth c_t_x c_t_h c_t_w c_t_isKept r11.2)) (rest := []) (st2 := [.int r11.1]) C (kcX8_bad l dC dI cyB cyI cyJ cyZ cyS a_t a_t_w a_t_isKept a_t_text a_t_refused a_t_numbers a_t_weights c_t_texted c_t_above c_t_below c_t_at c_t_start c_t_isWord c_t_isFigures c_t_all c_t_known c_t_truth c_t_x c_t_h c_t_refused r11 hr11) pb_NW_b (pb_NW_x hX) (cwV 0 C.1.2.2.2.2 gX8_from_X8_bad rfl rfl rfl kdV_X8_bad ⟨Nat.le_of_ble_eq_true rfl, Nat.le_of_ble_eq_true rfl⟩) 0 rfl rfl [0, 3] [1, 2] rfl rfl ⟨⟨_, rfl, rfl⟩, ⟨⟨_, rfl, rfl⟩, trivial⟩⟩ rfl (by decide +kernel) (adl := [a_t, a_t_refused]) rfl rfl rfl rfl rfl (Nat.le_of_ble_eq_true rfl) ⟨Nat.le_refl _, Nat.le_refl _⟩ dX8_from_11 rfl ?_
    obtain rfl := Option.some.inj hf
    exact pb_iret (pc := 14) C hr hlk hA dX8_from_14
def rmX8_status : Room := { frames := 1, cells := 0, slots := 0, locals := 25 }
def wwX8_status (cyB cyI cyJ cyZ cyS : ClassId) (a_t a_t_w a_t_isKept a_t_text a_t_refused a_t_numbers a_t_weights : Nat) (c_t_texted : Int32) (c_t_above : Int64) (c_t_below : Int64) (c_t_at : Int32) (c_t_start : Int32) (c_t_isWord : Int32) (c_t_isFigures : Int32) (c_t_all : Int64) (c_t_known : Int32) (c_t_truth : Int32) (c_t_x : Int64) (c_t_h : Int64) (c_t_refused : (Nat → Int32)) : va_W := [(a_t, .inr (8, [.ref a_t_w, .ref a_t_isKept, .ref a_t_text, .int c_t_texted, .ref a_t_refused, .long c_t_above, .long c_t_below, .int c_t_at, .int c_t_start, .int c_t_isWord, .int c_t_isFigures, .ref a_t_numbers, .ref a_t_weights, .long c_t_all, .int c_t_known, .int c_t_truth, .long c_t_x, .long c_t_h])), (a_t_refused, .inl (cyI, 3, .inl c_t_refused))]
theorem hnX8_status_X8 : ∀ w ∈ wsX80, w ∈ wsX8_status := fun _ h => List.mem_cons_of_mem _ (List.mem_append_right _ h)
set_option maxHeartbeats 4000000 in
set_option maxRecDepth 100000 in
theorem kcX8_status (l : Launch) (dC : Nat → ClassId) (dI : Nat → Nat → Nat) (cyB cyI cyJ cyZ cyS : ClassId) (a_t a_t_w a_t_isKept a_t_text a_t_refused a_t_numbers a_t_weights : Nat) (c_t_texted : Int32) (c_t_above : Int64) (c_t_below : Int64) (c_t_at : Int32) (c_t_start : Int32) (c_t_isWord : Int32) (c_t_isFigures : Int32) (c_t_all : Int64) (c_t_known : Int32) (c_t_truth : Int32) (c_t_x : Int64) (c_t_h : Int64) (c_t_refused : (Nat → Int32)) (p1 : Int32) (out : (Int32 × (Nat → Int32))) (hf : fX8_status c_t_refused p1 = some out) : pb_K l yX8_status wsX8_status rmX8_status (dC, dI) vwCl (pb_tys cyB cyI cyJ cyZ cyS) pb_NW [.ref a_t, .int p1] (wwX8_status cyB cyI cyJ cyZ cyS a_t a_t_w a_t_isKept a_t_text a_t_refused a_t_numbers a_t_weights c_t_texted c_t_above c_t_below c_t_at c_t_start c_t_isWord c_t_isFigures c_t_all c_t_known c_t_truth c_t_x c_t_h c_t_refused) (wwX8_status cyB cyI cyJ cyZ cyS a_t a_t_w a_t_isKept a_t_text a_t_refused a_t_numbers a_t_weights c_t_texted c_t_above c_t_below c_t_at c_t_start c_t_isWord c_t_isFigures c_t_all c_t_known c_t_truth c_t_x c_t_h out.2) (some (.int out.1)) := by
  unfold fX8_status at hf
  refine pb_K.ofV (cc := cX8_status) (maxL := 2) (ret := (some .int)) (lv0 := [(0, .ref a_t), (1, .int p1)]) (by decide) rfl (Nat.le_of_ble_eq_true rfl) rfl ?_
  intro p e s m below meth c A C hX hr hlk hA
  refine pb_iload_n (pc := 0) C dX8_status_0 rfl 1 rfl ?_
  refine pb_i2l (pc := 1) C dX8_status_1 ?_
  refine pb_lconst (v := 0) (pc := 2) C dX8_status_2 pb_kL_0 ?_
  refine pb_ldc2 (v := 2) (pc := 3) C dX8_status_3 (List.mem_of_getElem? (i := 1) rfl) ?_
  obtain ⟨r6, hr6, hf⟩ := pb_bind hf
  refine pb_callS (pc := 6) (n0 := 2) (ws' := (wwX8_status cyB cyI cyJ cyZ cyS a_t a_t_w a_t_isKept a_t_text a_t_refused a_t_numbers a_t_weights c_t_texted c_t_above c_t_below c_t_at c_t_start c_t_isWord c_t_isFigures c_t_all c_t_known c_t_truth c_t_x c_t_h c_t_refused)) (rest := []) (st2 := [.int r6]) C (kcX8_in l dC dI cyB cyI cyJ cyZ cyS (Int32.toInt64 p1) 0 2 r6 hr6) pb_NW_b (pb_NW_x hX) (va_cwS 3 C.1.2.2.2.2 gX8_status_X8_in rfl rfl rfl kdS_X8_in ⟨Nat.le_of_ble_eq_true rfl, Nat.le_of_ble_eq_true rfl⟩) [] [0, 1] rfl rfl ⟨⟨_, rfl, rfl⟩, ⟨⟨_, rfl, rfl⟩, trivial⟩⟩ rfl (by decide +kernel) (adl := []) rfl rfl rfl rfl rfl (Nat.le_of_ble_eq_true rfl) ⟨Nat.le_refl _, Nat.le_refl _⟩ dX8_status_6 rfl ?_
  refine pb_if_eq (pc := 9) (tgt := 21) C dX8_status_9 (by decide) (fun hc9 => ?_) (fun hc9 => ?_)
  · have hf := pb_pos hf hc9
    refine pb_aload_n (pc := 21) C dX8_status_21 rfl 0 rfl ?_
    refine pb_iconst (v := (-1)) (pc := 22) C dX8_status_22 pb_kI_m1 ?_
    obtain ⟨r23, hr23, hf⟩ := pb_bind hf
    refine pb_callV (pc := 23) (n0 := 2) (ws' := (wwX8_status cyB cyI cyJ cyZ cyS a_t a_t_w a_t_isKept a_t_text a_t_refused a_t_numbers a_t_weights c_t_texted c_t_above c_t_below c_t_at c_t_start c_t_isWord c_t_isFigures c_t_all c_t_known c_t_truth c_t_x c_t_h r23.2)) (rest := []) (st2 := [.int r23.1]) C (kcX8_badAs l dC dI cyB cyI cyJ cyZ cyS a_t a_t_w a_t_isKept a_t_text a_t_refused a_t_numbers a_t_weights c_t_texted c_t_above c_t_below c_t_at c_t_start c_t_isWord c_t_isFigures c_t_all c_t_known c_t_truth c_t_x c_t_h c_t_refused (-1) r23 hr23) pb_NW_b (pb_NW_x hX) (cwV 1 C.1.2.2.2.2 gX8_status_X8_badAs rfl rfl rfl kdV_X8_badAs ⟨Nat.le_of_ble_eq_true rfl, Nat.le_of_ble_eq_true rfl⟩) 0 rfl rfl [0, 1] [] rfl rfl trivial rfl (by decide +kernel) (adl := [a_t, a_t_refused]) rfl rfl rfl rfl rfl (Nat.le_of_ble_eq_true rfl) ⟨Nat.le_refl _, Nat.le_refl _⟩ dX8_status_23 rfl ?_
    obtain rfl := Option.some.inj hf
    exact pb_iret (pc := 26) C hr hlk hA dX8_status_26
  · have hf := pb_neg hf hc9
    refine pb_aload_n (pc := 12) C dX8_status_12 rfl 0 rfl ?_
    refine pb_get (pc := 13) C hnX8_status_X8 0 rfl rfl 4 (by decide) (List.mem_of_getElem? (i := 2) rfl) rfl rfl dX8_status_13 ?_
    refine pb_iload_n (pc := 16) C dX8_status_16 rfl 1 rfl ?_
    obtain ⟨g17, hf⟩ := pb_grd hf
    refine pb_iald (pc := 17) C 1 1 rfl rfl g17 dX8_status_17 ?_
    refine pb_goto (pc := 18) (tgt := 26) C dX8_status_18 (by decide) ?_
    obtain rfl := Option.some.inj hf
    exact pb_iret (pc := 26) C hr hlk hA dX8_status_26
def rmX8_countOf : Room := { frames := 0, cells := 0, slots := 0, locals := 0 }
def wwX8_countOf (cyB cyI cyJ cyZ cyS : ClassId) (a_t a_t_w a_t_isKept a_t_text a_t_refused a_t_numbers a_t_weights : Nat) (c_t_texted : Int32) (c_t_above : Int64) (c_t_below : Int64) (c_t_at : Int32) (c_t_start : Int32) (c_t_isWord : Int32) (c_t_isFigures : Int32) (c_t_all : Int64) (c_t_known : Int32) (c_t_truth : Int32) (c_t_x : Int64) (c_t_h : Int64) (c_t_w : (Nat → Int32)) : va_W := [(a_t, .inr (8, [.ref a_t_w, .ref a_t_isKept, .ref a_t_text, .int c_t_texted, .ref a_t_refused, .long c_t_above, .long c_t_below, .int c_t_at, .int c_t_start, .int c_t_isWord, .int c_t_isFigures, .ref a_t_numbers, .ref a_t_weights, .long c_t_all, .int c_t_known, .int c_t_truth, .long c_t_x, .long c_t_h])), (a_t_w, .inl (cyI, 1508, .inl c_t_w))]
theorem hnX8_countOf_X8 : ∀ w ∈ wsX80, w ∈ wsX8_countOf := fun _ h => List.mem_cons_of_mem _ (List.mem_append_right _ h)
set_option maxHeartbeats 4000000 in
set_option maxRecDepth 100000 in
theorem kcX8_countOf (l : Launch) (dC : Nat → ClassId) (dI : Nat → Nat → Nat) (cyB cyI cyJ cyZ cyS : ClassId) (a_t a_t_w a_t_isKept a_t_text a_t_refused a_t_numbers a_t_weights : Nat) (c_t_texted : Int32) (c_t_above : Int64) (c_t_below : Int64) (c_t_at : Int32) (c_t_start : Int32) (c_t_isWord : Int32) (c_t_isFigures : Int32) (c_t_all : Int64) (c_t_known : Int32) (c_t_truth : Int32) (c_t_x : Int64) (c_t_h : Int64) (c_t_w : (Nat → Int32)) (p1 : Int32) (out : Int32) (hf : fX8_countOf c_t_texted c_t_w p1 = some out) : pb_K l yX8_countOf wsX8_countOf rmX8_countOf (dC, dI) vwCl (pb_tys cyB cyI cyJ cyZ cyS) pb_NW [.ref a_t, .int p1] (wwX8_countOf cyB cyI cyJ cyZ cyS a_t a_t_w a_t_isKept a_t_text a_t_refused a_t_numbers a_t_weights c_t_texted c_t_above c_t_below c_t_at c_t_start c_t_isWord c_t_isFigures c_t_all c_t_known c_t_truth c_t_x c_t_h c_t_w) (wwX8_countOf cyB cyI cyJ cyZ cyS a_t a_t_w a_t_isKept a_t_text a_t_refused a_t_numbers a_t_weights c_t_texted c_t_above c_t_below c_t_at c_t_start c_t_isWord c_t_isFigures c_t_all c_t_known c_t_truth c_t_x c_t_h c_t_w) (some (.int out)) := by
  unfold fX8_countOf at hf
  refine pb_K.ofV (cc := cX8_countOf) (maxL := 2) (ret := (some .int)) (lv0 := [(0, .ref a_t), (1, .int p1)]) (by decide) rfl (Nat.le_of_ble_eq_true rfl) rfl ?_
  intro p e s m below meth c A C hX hr hlk hA
  refine pb_iload_n (pc := 0) C dX8_countOf_0 rfl 1 rfl ?_
  refine pb_iconst (v := 5) (pc := 1) C dX8_countOf_1 pb_kI_5 ?_
  refine pb_icmp_ne (pc := 2) (tgt := 12) C dX8_countOf_2 (by decide) (fun hc2 => ?_) (fun hc2 => ?_)
  · have hf := pb_neg hf hc2
    refine pb_aload_n (pc := 12) C dX8_countOf_12 rfl 0 rfl ?_
    refine pb_get (pc := 13) C hnX8_countOf_X8 0 rfl rfl 0 (by decide) (List.mem_of_getElem? (i := 2) rfl) rfl rfl dX8_countOf_13 ?_
    refine pb_iload_n (pc := 16) C dX8_countOf_16 rfl 1 rfl ?_
    obtain ⟨g17, hf⟩ := pb_grd hf
    refine pb_iald (pc := 17) C 1 1 rfl rfl g17 dX8_countOf_17 ?_
    obtain rfl := Option.some.inj hf
    exact pb_iret (pc := 18) C hr hlk hA dX8_countOf_18
  · have hf := pb_pos hf hc2
    refine pb_aload_n (pc := 5) C dX8_countOf_5 rfl 0 rfl ?_
    refine pb_get (pc := 6) C hnX8_countOf_X8 0 rfl rfl 3 (by decide) (List.mem_of_getElem? (i := 1) rfl) rfl rfl dX8_countOf_6 ?_
    refine pb_goto (pc := 9) (tgt := 18) C dX8_countOf_9 (by decide) ?_
    obtain rfl := Option.some.inj hf
    exact pb_iret (pc := 18) C hr hlk hA dX8_countOf_18
def rmX8_count : Room := { frames := 1, cells := 0, slots := 0, locals := 25 }
def wwX8_count (cyB cyI cyJ cyZ cyS : ClassId) (a_t a_t_w a_t_isKept a_t_text a_t_refused a_t_numbers a_t_weights : Nat) (c_t_texted : Int32) (c_t_above : Int64) (c_t_below : Int64) (c_t_at : Int32) (c_t_start : Int32) (c_t_isWord : Int32) (c_t_isFigures : Int32) (c_t_all : Int64) (c_t_known : Int32) (c_t_truth : Int32) (c_t_x : Int64) (c_t_h : Int64) (c_t_w : (Nat → Int32)) (c_t_refused : (Nat → Int32)) : va_W := [(a_t, .inr (8, [.ref a_t_w, .ref a_t_isKept, .ref a_t_text, .int c_t_texted, .ref a_t_refused, .long c_t_above, .long c_t_below, .int c_t_at, .int c_t_start, .int c_t_isWord, .int c_t_isFigures, .ref a_t_numbers, .ref a_t_weights, .long c_t_all, .int c_t_known, .int c_t_truth, .long c_t_x, .long c_t_h])), (a_t_w, .inl (cyI, 1508, .inl c_t_w)), (a_t_refused, .inl (cyI, 3, .inl c_t_refused))]
set_option maxHeartbeats 4000000 in
set_option maxRecDepth 100000 in
theorem kcX8_count (l : Launch) (dC : Nat → ClassId) (dI : Nat → Nat → Nat) (cyB cyI cyJ cyZ cyS : ClassId) (a_t a_t_w a_t_isKept a_t_text a_t_refused a_t_numbers a_t_weights : Nat) (c_t_texted : Int32) (c_t_above : Int64) (c_t_below : Int64) (c_t_at : Int32) (c_t_start : Int32) (c_t_isWord : Int32) (c_t_isFigures : Int32) (c_t_all : Int64) (c_t_known : Int32) (c_t_truth : Int32) (c_t_x : Int64) (c_t_h : Int64) (c_t_w : (Nat → Int32)) (c_t_refused : (Nat → Int32)) (p1 : Int32) (out : (Int32 × (Nat → Int32))) (hf : fX8_count c_t_texted c_t_w c_t_refused p1 = some out) : pb_K l yX8_count wsX8_count rmX8_count (dC, dI) vwCl (pb_tys cyB cyI cyJ cyZ cyS) pb_NW [.ref a_t, .int p1] (wwX8_count cyB cyI cyJ cyZ cyS a_t a_t_w a_t_isKept a_t_text a_t_refused a_t_numbers a_t_weights c_t_texted c_t_above c_t_below c_t_at c_t_start c_t_isWord c_t_isFigures c_t_all c_t_known c_t_truth c_t_x c_t_h c_t_w c_t_refused) (wwX8_count cyB cyI cyJ cyZ cyS a_t a_t_w a_t_isKept a_t_text a_t_refused a_t_numbers a_t_weights c_t_texted c_t_above c_t_below c_t_at c_t_start c_t_isWord c_t_isFigures c_t_all c_t_known c_t_truth c_t_x c_t_h c_t_w out.2) (some (.int out.1)) := by
  unfold fX8_count at hf
  refine pb_K.ofV (cc := cX8_count) (maxL := 2) (ret := (some .int)) (lv0 := [(0, .ref a_t), (1, .int p1)]) (by decide) rfl (Nat.le_of_ble_eq_true rfl) rfl ?_
  intro p e s m below meth c A C hX hr hlk hA
  refine pb_iload_n (pc := 0) C dX8_count_0 rfl 1 rfl ?_
  refine pb_i2l (pc := 1) C dX8_count_1 ?_
  refine pb_lconst (v := 0) (pc := 2) C dX8_count_2 pb_kL_0 ?_
  refine pb_ldc2 (v := 5) (pc := 3) C dX8_count_3 (List.mem_of_getElem? (i := 1) rfl) ?_
  obtain ⟨r6, hr6, hf⟩ := pb_bind hf
  refine pb_callS (pc := 6) (n0 := 3) (ws' := (wwX8_count cyB cyI cyJ cyZ cyS a_t a_t_w a_t_isKept a_t_text a_t_refused a_t_numbers a_t_weights c_t_texted c_t_above c_t_below c_t_at c_t_start c_t_isWord c_t_isFigures c_t_all c_t_known c_t_truth c_t_x c_t_h c_t_w c_t_refused)) (rest := []) (st2 := [.int r6]) C (kcX8_in l dC dI cyB cyI cyJ cyZ cyS (Int32.toInt64 p1) 0 5 r6 hr6) pb_NW_b (pb_NW_x hX) (va_cwS 3 C.1.2.2.2.2 gX8_count_X8_in rfl rfl rfl kdS_X8_in ⟨Nat.le_of_ble_eq_true rfl, Nat.le_of_ble_eq_true rfl⟩) [] [0, 1, 2] rfl rfl ⟨⟨_, rfl, rfl⟩, ⟨⟨_, rfl, rfl⟩, ⟨⟨_, rfl, rfl⟩, trivial⟩⟩⟩ rfl (by decide +kernel) (adl := []) rfl rfl rfl rfl rfl (Nat.le_of_ble_eq_true rfl) ⟨Nat.le_refl _, Nat.le_refl _⟩ dX8_count_6 rfl ?_
  refine pb_if_eq (pc := 9) (tgt := 20) C dX8_count_9 (by decide) (fun hc9 => ?_) (fun hc9 => ?_)
  · have hf := pb_pos hf hc9
    refine pb_aload_n (pc := 20) C dX8_count_20 rfl 0 rfl ?_
    obtain ⟨r21, hr21, hf⟩ := pb_bind hf
    refine pb_callV (pc := 21) (n0 := 3) (ws' := (wwX8_count cyB cyI cyJ cyZ cyS a_t a_t_w a_t_isKept a_t_text a_t_refused a_t_numbers a_t_weights c_t_texted c_t_above c_t_below c_t_at c_t_start c_t_isWord c_t_isFigures c_t_all c_t_known c_t_truth c_t_x c_t_h c_t_w r21.2)) (rest := []) (st2 := [.int r21.1]) C (kcX8_bad l dC dI cyB cyI cyJ cyZ cyS a_t a_t_w a_t_isKept a_t_text a_t_refused a_t_numbers a_t_weights c_t_texted c_t_above c_t_below c_t_at c_t_start c_t_isWord c_t_isFigures c_t_all c_t_known c_t_truth c_t_x c_t_h c_t_refused r21 hr21) pb_NW_b (pb_NW_x hX) (cwV 0 C.1.2.2.2.2 gX8_count_X8_bad rfl rfl rfl kdV_X8_bad ⟨Nat.le_of_ble_eq_true rfl, Nat.le_of_ble_eq_true rfl⟩) 0 rfl rfl [0, 2] [1] rfl rfl ⟨⟨_, rfl, rfl⟩, trivial⟩ rfl (by decide +kernel) (adl := [a_t, a_t_refused]) rfl rfl rfl rfl rfl (Nat.le_of_ble_eq_true rfl) ⟨Nat.le_refl _, Nat.le_refl _⟩ dX8_count_21 rfl ?_
    obtain rfl := Option.some.inj hf
    exact pb_iret (pc := 24) C hr hlk hA dX8_count_24
  · have hf := pb_neg hf hc9
    refine pb_aload_n (pc := 12) C dX8_count_12 rfl 0 rfl ?_
    refine pb_iload_n (pc := 13) C dX8_count_13 rfl 1 rfl ?_
    obtain ⟨r14, hr14, hf⟩ := pb_bind hf
    refine pb_callV (pc := 14) (n0 := 3) (ws' := (wwX8_count cyB cyI cyJ cyZ cyS a_t a_t_w a_t_isKept a_t_text a_t_refused a_t_numbers a_t_weights c_t_texted c_t_above c_t_below c_t_at c_t_start c_t_isWord c_t_isFigures c_t_all c_t_known c_t_truth c_t_x c_t_h c_t_w c_t_refused)) (rest := []) (st2 := [.int r14]) C (kcX8_countOf l dC dI cyB cyI cyJ cyZ cyS a_t a_t_w a_t_isKept a_t_text a_t_refused a_t_numbers a_t_weights c_t_texted c_t_above c_t_below c_t_at c_t_start c_t_isWord c_t_isFigures c_t_all c_t_known c_t_truth c_t_x c_t_h c_t_w p1 r14 hr14) pb_NW_b (pb_NW_x hX) (cwV 1 C.1.2.2.2.2 gX8_count_X8_countOf rfl rfl rfl kdV_X8_countOf ⟨Nat.le_of_ble_eq_true rfl, Nat.le_of_ble_eq_true rfl⟩) 0 rfl rfl [0, 1] [2] rfl rfl ⟨⟨_, rfl, rfl⟩, trivial⟩ rfl (by decide +kernel) (adl := [a_t, a_t_w]) rfl rfl rfl rfl rfl (Nat.le_of_ble_eq_true rfl) ⟨Nat.le_refl _, Nat.le_refl _⟩ dX8_count_14 rfl ?_
    refine pb_goto (pc := 17) (tgt := 24) C dX8_count_17 (by decide) ?_
    obtain rfl := Option.some.inj hf
    exact pb_iret (pc := 24) C hr hlk hA dX8_count_24
