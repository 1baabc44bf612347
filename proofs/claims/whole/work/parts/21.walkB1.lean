def rmX7_isWithin : Room := { frames := 0, cells := 0, slots := 0, locals := 0 }
def wwX7_isWithin (cyB cyI cyJ cyZ cyS : ClassId) : va_W := []
set_option maxHeartbeats 4000000 in
set_option maxRecDepth 100000 in
theorem kcX7_isWithin (l : Launch) (dC : Nat → ClassId) (dI : Nat → Nat → Nat) (cyB cyI cyJ cyZ cyS : ClassId) (p1 : Int32) (p2 : Int32) (p3 : Int32) (out : Int32) (hf : fX7_isWithin p1 p2 p3 = some out) : pb_K l yX7_isWithin wsX7_isWithin rmX7_isWithin (dC, dI) vwCl (pb_tys cyB cyI cyJ cyZ cyS) pb_NW [.int p1, .int p2, .int p3] (wwX7_isWithin cyB cyI cyJ cyZ cyS) (wwX7_isWithin cyB cyI cyJ cyZ cyS) (some (.int out)) := by
  unfold fX7_isWithin at hf
  refine pb_K.ofV (cc := cX7_isWithin) (maxL := 3) (ret := (some .boolean)) (lv0 := [(0, .int p1), (1, .int p2), (2, .int p3)]) (by decide) rfl (Nat.le_of_ble_eq_true rfl) rfl ?_
  intro p e s m below meth c A C hX hr hlk hA
  refine pb_iload_n (pc := 0) C dX7_isWithin_0 rfl 0 rfl ?_
  refine pb_iload_n (pc := 1) C dX7_isWithin_1 rfl 1 rfl ?_
  refine pb_icmp_lt (pc := 2) (tgt := 14) C dX7_isWithin_2 (by decide) (fun hc2 => ?_) (fun hc2 => ?_)
  · have hf := pb_pos hf hc2
    refine pb_iconst (v := 0) (pc := 14) C dX7_isWithin_14 pb_kI_0 ?_
    obtain rfl := Option.some.inj hf
    exact pb_zret (pc := 15) C hr hlk hA pb_isB0 dX7_isWithin_15
  · have hf := pb_neg hf hc2
    refine pb_iload_n (pc := 5) C dX7_isWithin_5 rfl 0 rfl ?_
    refine pb_iload_n (pc := 6) C dX7_isWithin_6 rfl 2 rfl ?_
    refine pb_icmp_gt (pc := 7) (tgt := 14) C dX7_isWithin_7 (by decide) (fun hc7 => ?_) (fun hc7 => ?_)
    · have hf := pb_pos hf hc7
      refine pb_iconst (v := 0) (pc := 14) C dX7_isWithin_14 pb_kI_0 ?_
      obtain rfl := Option.some.inj hf
      exact pb_zret (pc := 15) C hr hlk hA pb_isB0 dX7_isWithin_15
    · have hf := pb_neg hf hc7
      refine pb_iconst (v := 1) (pc := 10) C dX7_isWithin_10 pb_kI_1 ?_
      refine pb_goto (pc := 11) (tgt := 15) C dX7_isWithin_11 (by decide) ?_
      obtain rfl := Option.some.inj hf
      exact pb_zret (pc := 15) C hr hlk hA pb_isB1 dX7_isWithin_15
def rmX7_isFact : Room := { frames := 1, cells := 0, slots := 0, locals := 22 }
def wwX7_isFact (cyB cyI cyJ cyZ cyS : ClassId) : va_W := []
set_option maxHeartbeats 4000000 in
set_option maxRecDepth 100000 in
theorem kcX7_isFact (l : Launch) (dC : Nat → ClassId) (dI : Nat → Nat → Nat) (cyB cyI cyJ cyZ cyS : ClassId) (p1 : Int32) (out : Int32) (hf : fX7_isFact p1 = some out) : pb_K l yX7_isFact wsX7_isFact rmX7_isFact (dC, dI) vwCl (pb_tys cyB cyI cyJ cyZ cyS) pb_NW [.int p1] (wwX7_isFact cyB cyI cyJ cyZ cyS) (wwX7_isFact cyB cyI cyJ cyZ cyS) (some (.int out)) := by
  unfold fX7_isFact at hf
  refine pb_K.ofV (cc := cX7_isFact) (maxL := 1) (ret := (some .boolean)) (lv0 := [(0, .int p1)]) (by decide) rfl (Nat.le_of_ble_eq_true rfl) rfl ?_
  intro p e s m below meth c A C hX hr hlk hA
  refine pb_iload_n (pc := 0) C dX7_isFact_0 rfl 0 rfl ?_
  refine pb_iconst (v := 0) (pc := 1) C dX7_isFact_1 pb_kI_0 ?_
  refine pb_bipush (v := 6) (pc := 2) C dX7_isFact_2 pb_kB_6 ?_
  obtain ⟨r4, hr4, hf⟩ := pb_bind hf
  refine pb_callS (pc := 4) (n0 := 0) (ws' := (wwX7_isFact cyB cyI cyJ cyZ cyS)) (rest := []) (st2 := [.int r4]) C (kcX7_isWithin l dC dI cyB cyI cyJ cyZ cyS p1 0 6 r4 hr4) pb_NW_b (pb_NW_x hX) (va_cwS 3 C.1.2.2.2.2 gX7_isFact_X7_isWithin rfl rfl rfl kdS_X7_isWithin ⟨Nat.le_of_ble_eq_true rfl, Nat.le_of_ble_eq_true rfl⟩) [] [] rfl rfl trivial rfl (by decide +kernel) (adl := []) rfl rfl rfl rfl rfl (Nat.le_of_ble_eq_true rfl) ⟨Nat.le_refl _, Nat.le_refl _⟩ dX7_isFact_4 rfl ?_
  obtain ⟨g7, hf⟩ := pb_grd hf
  obtain rfl := Option.some.inj hf
  exact pb_zret (pc := 7) C hr hlk hA g7 dX7_isFact_7
def rmX7_isFind : Room := { frames := 2, cells := 0, slots := 0, locals := 42 }
def wwX7_isFind (cyB cyI cyJ cyZ cyS : ClassId) : va_W := []
set_option maxHeartbeats 4000000 in
set_option maxRecDepth 100000 in
theorem kcX7_isFind (l : Launch) (dC : Nat → ClassId) (dI : Nat → Nat → Nat) (cyB cyI cyJ cyZ cyS : ClassId) (p1 : Int32) (p2 : Int32) (p3 : Int32) (out : Int32) (hf : fX7_isFind p1 p2 p3 = some out) : pb_K l yX7_isFind wsX7_isFind rmX7_isFind (dC, dI) vwCl (pb_tys cyB cyI cyJ cyZ cyS) pb_NW [.int p1, .int p2, .int p3] (wwX7_isFind cyB cyI cyJ cyZ cyS) (wwX7_isFind cyB cyI cyJ cyZ cyS) (some (.int out)) := by
  unfold fX7_isFind at hf
  refine pb_K.ofV (cc := cX7_isFind) (maxL := 3) (ret := (some .boolean)) (lv0 := [(0, .int p1), (1, .int p2), (2, .int p3)]) (by decide) rfl (Nat.le_of_ble_eq_true rfl) rfl ?_
  intro p e s m below meth c A C hX hr hlk hA
  refine pb_iload_n (pc := 0) C dX7_isFind_0 rfl 0 rfl ?_
  obtain ⟨r1, hr1, hf⟩ := pb_bind hf
  refine pb_callS (pc := 1) (n0 := 0) (ws' := (wwX7_isFind cyB cyI cyJ cyZ cyS)) (rest := []) (st2 := [.int r1]) C (kcX7_isFact l dC dI cyB cyI cyJ cyZ cyS p1 r1 hr1) pb_NW_b (pb_NW_x hX) (va_cwS 1 C.1.2.2.2.2 gX7_isFind_X7_isFact rfl rfl rfl kdS_X7_isFact ⟨Nat.le_of_ble_eq_true rfl, Nat.le_of_ble_eq_true rfl⟩) [] [] rfl rfl trivial rfl (by decide +kernel) (adl := []) rfl rfl rfl rfl rfl (Nat.le_of_ble_eq_true rfl) ⟨Nat.le_refl _, Nat.le_refl _⟩ dX7_isFind_1 rfl ?_
  refine pb_if_eq (pc := 4) (tgt := 30) C dX7_isFind_4 (by decide) (fun hc4 => ?_) (fun hc4 => ?_)
  · have hf := pb_pos hf hc4
    refine pb_iconst (v := 0) (pc := 30) C dX7_isFind_30 pb_kI_0 ?_
    obtain rfl := Option.some.inj hf
    exact pb_zret (pc := 31) C hr hlk hA pb_isB0 dX7_isFind_31
  · have hf := pb_neg hf hc4
    refine pb_iload_n (pc := 7) C dX7_isFind_7 rfl 1 rfl ?_
    refine pb_iconst (v := 0) (pc := 8) C dX7_isFind_8 pb_kI_0 ?_
    refine pb_iconst (v := 1) (pc := 9) C dX7_isFind_9 pb_kI_1 ?_
    obtain ⟨r10, hr10, hf⟩ := pb_bind hf
    refine pb_callS (pc := 10) (n0 := 0) (ws' := (wwX7_isFind cyB cyI cyJ cyZ cyS)) (rest := []) (st2 := [.int r10]) C (kcX7_isWithin l dC dI cyB cyI cyJ cyZ cyS p2 0 1 r10 hr10) pb_NW_b (pb_NW_x hX) (va_cwS 3 C.1.2.2.2.2 gX7_isFind_X7_isWithin rfl rfl rfl kdS_X7_isWithin ⟨Nat.le_of_ble_eq_true rfl, Nat.le_of_ble_eq_true rfl⟩) [] [] rfl rfl trivial rfl (by decide +kernel) (adl := []) rfl rfl rfl rfl rfl (Nat.le_of_ble_eq_true rfl) ⟨Nat.le_refl _, Nat.le_refl _⟩ dX7_isFind_10 rfl ?_
    refine pb_if_eq (pc := 13) (tgt := 30) C dX7_isFind_13 (by decide) (fun hc13 => ?_) (fun hc13 => ?_)
    · have hf := pb_pos hf hc13
      refine pb_iconst (v := 0) (pc := 30) C dX7_isFind_30 pb_kI_0 ?_
      obtain rfl := Option.some.inj hf
      exact pb_zret (pc := 31) C hr hlk hA pb_isB0 dX7_isFind_31
    · have hf := pb_neg hf hc13
      refine pb_iload_n (pc := 16) C dX7_isFind_16 rfl 2 rfl ?_
      refine pb_iconst (v := 0) (pc := 17) C dX7_isFind_17 pb_kI_0 ?_
      refine pb_bipush (v := 10) (pc := 18) C dX7_isFind_18 pb_kB_10 ?_
      obtain ⟨r20, hr20, hf⟩ := pb_bind hf
      refine pb_callS (pc := 20) (n0 := 0) (ws' := (wwX7_isFind cyB cyI cyJ cyZ cyS)) (rest := []) (st2 := [.int r20]) C (kcX7_isWithin l dC dI cyB cyI cyJ cyZ cyS p3 0 10 r20 hr20) pb_NW_b (pb_NW_x hX) (va_cwS 3 C.1.2.2.2.2 gX7_isFind_X7_isWithin rfl rfl rfl kdS_X7_isWithin ⟨Nat.le_of_ble_eq_true rfl, Nat.le_of_ble_eq_true rfl⟩) [] [] rfl rfl trivial rfl (by decide +kernel) (adl := []) rfl rfl rfl rfl rfl (Nat.le_of_ble_eq_true rfl) ⟨Nat.le_refl _, Nat.le_refl _⟩ dX7_isFind_20 rfl ?_
      refine pb_if_eq (pc := 23) (tgt := 30) C dX7_isFind_23 (by decide) (fun hc23 => ?_) (fun hc23 => ?_)
      · have hf := pb_pos hf hc23
        refine pb_iconst (v := 0) (pc := 30) C dX7_isFind_30 pb_kI_0 ?_
        obtain rfl := Option.some.inj hf
        exact pb_zret (pc := 31) C hr hlk hA pb_isB0 dX7_isFind_31
      · have hf := pb_neg hf hc23
        refine pb_iconst (v := 1) (pc := 26) C dX7_isFind_26 pb_kI_1 ?_
        refine pb_goto (pc := 27) (tgt := 31) C dX7_isFind_27 (by decide) ?_
        obtain rfl := Option.some.inj hf
        exact pb_zret (pc := 31) C hr hlk hA pb_isB1 dX7_isFind_31
def rmX7_isClaim : Room := { frames := 2, cells := 0, slots := 0, locals := 42 }
def wwX7_isClaim (cyB cyI cyJ cyZ cyS : ClassId) : va_W := []
set_option maxHeartbeats 4000000 in
set_option maxRecDepth 100000 in
theorem kcX7_isClaim (l : Launch) (dC : Nat → ClassId) (dI : Nat → Nat → Nat) (cyB cyI cyJ cyZ cyS : ClassId) (p1 : Int32) (p2 : Int32) (p3 : Int32) (out : Int32) (hf : fX7_isClaim p1 p2 p3 = some out) : pb_K l yX7_isClaim wsX7_isClaim rmX7_isClaim (dC, dI) vwCl (pb_tys cyB cyI cyJ cyZ cyS) pb_NW [.int p1, .int p2, .int p3] (wwX7_isClaim cyB cyI cyJ cyZ cyS) (wwX7_isClaim cyB cyI cyJ cyZ cyS) (some (.int out)) := by
  unfold fX7_isClaim at hf
  refine pb_K.ofV (cc := cX7_isClaim) (maxL := 3) (ret := (some .boolean)) (lv0 := [(0, .int p1), (1, .int p2), (2, .int p3)]) (by decide) rfl (Nat.le_of_ble_eq_true rfl) rfl ?_
  intro p e s m below meth c A C hX hr hlk hA
  refine pb_iload_n (pc := 0) C dX7_isClaim_0 rfl 0 rfl ?_
  refine pb_iconst (v := 0) (pc := 1) C dX7_isClaim_1 pb_kI_0 ?_
  refine pb_iconst (v := 5) (pc := 2) C dX7_isClaim_2 pb_kI_5 ?_
  obtain ⟨r3, hr3, hf⟩ := pb_bind hf
  refine pb_callS (pc := 3) (n0 := 0) (ws' := (wwX7_isClaim cyB cyI cyJ cyZ cyS)) (rest := []) (st2 := [.int r3]) C (kcX7_isWithin l dC dI cyB cyI cyJ cyZ cyS p1 0 5 r3 hr3) pb_NW_b (pb_NW_x hX) (va_cwS 3 C.1.2.2.2.2 gX7_isClaim_X7_isWithin rfl rfl rfl kdS_X7_isWithin ⟨Nat.le_of_ble_eq_true rfl, Nat.le_of_ble_eq_true rfl⟩) [] [] rfl rfl trivial rfl (by decide +kernel) (adl := []) rfl rfl rfl rfl rfl (Nat.le_of_ble_eq_true rfl) ⟨Nat.le_refl _, Nat.le_refl _⟩ dX7_isClaim_3 rfl ?_
  refine pb_if_eq (pc := 6) (tgt := 27) C dX7_isClaim_6 (by decide) (fun hc6 => ?_) (fun hc6 => ?_)
  · have hf := pb_pos hf hc6
    refine pb_iconst (v := 0) (pc := 27) C dX7_isClaim_27 pb_kI_0 ?_
    obtain rfl := Option.some.inj hf
    exact pb_zret (pc := 28) C hr hlk hA pb_isB0 dX7_isClaim_28
  · have hf := pb_neg hf hc6
    refine pb_iload_n (pc := 9) C dX7_isClaim_9 rfl 1 rfl ?_
    obtain ⟨r10, hr10, hf⟩ := pb_bind hf
    refine pb_callS (pc := 10) (n0 := 0) (ws' := (wwX7_isClaim cyB cyI cyJ cyZ cyS)) (rest := []) (st2 := [.int r10]) C (kcX7_isFact l dC dI cyB cyI cyJ cyZ cyS p2 r10 hr10) pb_NW_b (pb_NW_x hX) (va_cwS 1 C.1.2.2.2.2 gX7_isClaim_X7_isFact rfl rfl rfl kdS_X7_isFact ⟨Nat.le_of_ble_eq_true rfl, Nat.le_of_ble_eq_true rfl⟩) [] [] rfl rfl trivial rfl (by decide +kernel) (adl := []) rfl rfl rfl rfl rfl (Nat.le_of_ble_eq_true rfl) ⟨Nat.le_refl _, Nat.le_refl _⟩ dX7_isClaim_10 rfl ?_
    refine pb_if_eq (pc := 13) (tgt := 27) C dX7_isClaim_13 (by decide) (fun hc13 => ?_) (fun hc13 => ?_)
    · have hf := pb_pos hf hc13
      refine pb_iconst (v := 0) (pc := 27) C dX7_isClaim_27 pb_kI_0 ?_
      obtain rfl := Option.some.inj hf
      exact pb_zret (pc := 28) C hr hlk hA pb_isB0 dX7_isClaim_28
    · have hf := pb_neg hf hc13
      refine pb_iload_n (pc := 16) C dX7_isClaim_16 rfl 2 rfl ?_
      obtain ⟨r17, hr17, hf⟩ := pb_bind hf
      refine pb_callS (pc := 17) (n0 := 0) (ws' := (wwX7_isClaim cyB cyI cyJ cyZ cyS)) (rest := []) (st2 := [.int r17]) C (kcX7_isFact l dC dI cyB cyI cyJ cyZ cyS p3 r17 hr17) pb_NW_b (pb_NW_x hX) (va_cwS 1 C.1.2.2.2.2 gX7_isClaim_X7_isFact rfl rfl rfl kdS_X7_isFact ⟨Nat.le_of_ble_eq_true rfl, Nat.le_of_ble_eq_true rfl⟩) [] [] rfl rfl trivial rfl (by decide +kernel) (adl := []) rfl rfl rfl rfl rfl (Nat.le_of_ble_eq_true rfl) ⟨Nat.le_refl _, Nat.le_refl _⟩ dX7_isClaim_17 rfl ?_
      refine pb_if_eq (pc := 20) (tgt := 27) C dX7_isClaim_20 (by decide) (fun hc20 => ?_) (fun hc20 => ?_)
      · have hf := pb_pos hf hc20
        refine pb_iconst (v := 0) (pc := 27) C dX7_isClaim_27 pb_kI_0 ?_
        obtain rfl := Option.some.inj hf
        exact pb_zret (pc := 28) C hr hlk hA pb_isB0 dX7_isClaim_28
      · have hf := pb_neg hf hc20
        refine pb_iconst (v := 1) (pc := 23) C dX7_isClaim_23 pb_kI_1 ?_
        refine pb_goto (pc := 24) (tgt := 28) C dX7_isClaim_24 (by decide) ?_
        obtain rfl := Option.some.inj hf
        exact pb_zret (pc := 28) C hr hlk hA pb_isB1 dX7_isClaim_28
def rmX7_wasSo : Room := { frames := 0, cells := 0, slots := 0, locals := 0 }
def wwX7_wasSo (cyB cyI cyJ cyZ cyS : ClassId) : va_W := []
set_option maxHeartbeats 4000000 in
set_option maxRecDepth 100000 in
theorem kcX7_wasSo (l : Launch) (dC : Nat → ClassId) (dI : Nat → Nat → Nat) (cyB cyI cyJ cyZ cyS : ClassId) (p1 : Int32) (p2 : Int32) (out : Int32) (hf : fX7_wasSo p1 p2 = some out) : pb_K l yX7_wasSo wsX7_wasSo rmX7_wasSo (dC, dI) vwCl (pb_tys cyB cyI cyJ cyZ cyS) pb_NW [.int p1, .int p2] (wwX7_wasSo cyB cyI cyJ cyZ cyS) (wwX7_wasSo cyB cyI cyJ cyZ cyS) (some (.int out)) := by
  unfold fX7_wasSo at hf
  refine pb_K.ofV (cc := cX7_wasSo) (maxL := 2) (ret := (some .boolean)) (lv0 := [(0, .int p1), (1, .int p2)]) (by decide) rfl (Nat.le_of_ble_eq_true rfl) rfl ?_
  intro p e s m below meth c A C hX hr hlk hA
  refine pb_iload_n (pc := 0) C dX7_wasSo_0 rfl 0 rfl ?_
  refine pb_iload_n (pc := 1) C dX7_wasSo_1 rfl 1 rfl ?_
  refine pb_ishr (pc := 2) C dX7_wasSo_2 ?_
  refine pb_iconst (v := 1) (pc := 3) C dX7_wasSo_3 pb_kI_1 ?_
  refine pb_iand (pc := 4) C dX7_wasSo_4 ?_
  refine pb_iconst (v := 1) (pc := 5) C dX7_wasSo_5 pb_kI_1 ?_
  refine pb_icmp_ne (pc := 6) (tgt := 13) C dX7_wasSo_6 (by decide) (fun hc6 => ?_) (fun hc6 => ?_)
  · have hf := pb_neg hf hc6
    refine pb_iconst (v := 0) (pc := 13) C dX7_wasSo_13 pb_kI_0 ?_
    obtain rfl := Option.some.inj hf
    exact pb_zret (pc := 14) C hr hlk hA pb_isB0 dX7_wasSo_14
  · have hf := pb_pos hf hc6
    refine pb_iconst (v := 1) (pc := 9) C dX7_wasSo_9 pb_kI_1 ?_
    refine pb_goto (pc := 10) (tgt := 14) C dX7_wasSo_10 (by decide) ?_
    obtain rfl := Option.some.inj hf
    exact pb_zret (pc := 14) C hr hlk hA pb_isB1 dX7_wasSo_14
def rmX7_lawKept : Room := { frames := 0, cells := 0, slots := 0, locals := 0 }
def wwX7_lawKept (cyB cyI cyJ cyZ cyS : ClassId) : va_W := []
set_option maxHeartbeats 4000000 in
set_option maxRecDepth 100000 in
theorem kcX7_lawKept (l : Launch) (dC : Nat → ClassId) (dI : Nat → Nat → Nat) (cyB cyI cyJ cyZ cyS : ClassId) (p1 : Int32) (p2 : Int32) (p3 : Int32) (out : Int32) (hf : fX7_lawKept p1 p2 p3 = some out) : pb_K l yX7_lawKept wsX7_lawKept rmX7_lawKept (dC, dI) vwCl (pb_tys cyB cyI cyJ cyZ cyS) pb_NW [.int p1, .int p2, .int p3] (wwX7_lawKept cyB cyI cyJ cyZ cyS) (wwX7_lawKept cyB cyI cyJ cyZ cyS) (some (.int out)) := by
  unfold fX7_lawKept at hf
  refine pb_K.ofV (cc := cX7_lawKept) (maxL := 3) (ret := (some .boolean)) (lv0 := [(0, .int p1), (1, .int p2), (2, .int p3)]) (by decide) rfl (Nat.le_of_ble_eq_true rfl) rfl ?_
  intro p e s m below meth c A C hX hr hlk hA
  refine pb_iload_n (pc := 0) C dX7_lawKept_0 rfl 0 rfl ?_
  by_cases hs1_0 : p1 = 0
  · have hf := pb_pos hf hs1_0
    refine pb_tableIn (pc := 1) (tgt := 28) C dX7_lawKept_1 (by rw [hs1_0]; decide) (by rw [hs1_0]; decide) (by rw [hs1_0]; rfl) (by decide) ?_
    refine pb_iload_n (pc := 28) C dX7_lawKept_28 rfl 1 rfl ?_
    refine pb_if_eq (pc := 29) (tgt := 36) C dX7_lawKept_29 (by decide) (fun hc29 => ?_) (fun hc29 => ?_)
    · have hf := pb_pos hf hc29
      refine pb_iconst (v := 1) (pc := 36) C dX7_lawKept_36 pb_kI_1 ?_
      refine pb_goto (pc := 37) (tgt := 41) C dX7_lawKept_37 (by decide) ?_
      obtain rfl := Option.some.inj hf
      exact pb_zret (pc := 41) C hr hlk hA pb_isB1 dX7_lawKept_41
    · have hf := pb_neg hf hc29
      refine pb_iload_n (pc := 32) C dX7_lawKept_32 rfl 2 rfl ?_
      refine pb_if_eq (pc := 33) (tgt := 40) C dX7_lawKept_33 (by decide) (fun hc33 => ?_) (fun hc33 => ?_)
      · have hf := pb_pos hf hc33
        refine pb_iconst (v := 0) (pc := 40) C dX7_lawKept_40 pb_kI_0 ?_
        obtain rfl := Option.some.inj hf
        exact pb_zret (pc := 41) C hr hlk hA pb_isB0 dX7_lawKept_41
      · have hf := pb_neg hf hc33
        refine pb_iconst (v := 1) (pc := 36) C dX7_lawKept_36 pb_kI_1 ?_
        refine pb_goto (pc := 37) (tgt := 41) C dX7_lawKept_37 (by decide) ?_
        obtain rfl := Option.some.inj hf
        exact pb_zret (pc := 41) C hr hlk hA pb_isB1 dX7_lawKept_41
  have hf := pb_neg hf hs1_0
  by_cases hs1_1 : p1 = 1
  · have hf := pb_pos hf hs1_1
    refine pb_tableIn (pc := 1) (tgt := 42) C dX7_lawKept_1 (by rw [hs1_1]; decide) (by rw [hs1_1]; decide) (by rw [hs1_1]; rfl) (by decide) ?_
    refine pb_iload_n (pc := 42) C dX7_lawKept_42 rfl 1 rfl ?_
    refine pb_if_eq (pc := 43) (tgt := 50) C dX7_lawKept_43 (by decide) (fun hc43 => ?_) (fun hc43 => ?_)
    · have hf := pb_pos hf hc43
      refine pb_iconst (v := 1) (pc := 50) C dX7_lawKept_50 pb_kI_1 ?_
      refine pb_goto (pc := 51) (tgt := 55) C dX7_lawKept_51 (by decide) ?_
      obtain rfl := Option.some.inj hf
      exact pb_zret (pc := 55) C hr hlk hA pb_isB1 dX7_lawKept_55
    · have hf := pb_neg hf hc43
      refine pb_iload_n (pc := 46) C dX7_lawKept_46 rfl 2 rfl ?_
      refine pb_if_ne (pc := 47) (tgt := 54) C dX7_lawKept_47 (by decide) (fun hc47 => ?_) (fun hc47 => ?_)
      · have hf := pb_neg hf hc47
        refine pb_iconst (v := 0) (pc := 54) C dX7_lawKept_54 pb_kI_0 ?_
        obtain rfl := Option.some.inj hf
        exact pb_zret (pc := 55) C hr hlk hA pb_isB0 dX7_lawKept_55
      · have hf := pb_pos hf hc47
        refine pb_iconst (v := 1) (pc := 50) C dX7_lawKept_50 pb_kI_1 ?_
        refine pb_goto (pc := 51) (tgt := 55) C dX7_lawKept_51 (by decide) ?_
        obtain rfl := Option.some.inj hf
        exact pb_zret (pc := 55) C hr hlk hA pb_isB1 dX7_lawKept_55
  have hf := pb_neg hf hs1_1
  by_cases hs1_2 : p1 = 2
  · have hf := pb_pos hf hs1_2
    refine pb_tableIn (pc := 1) (tgt := 56) C dX7_lawKept_1 (by rw [hs1_2]; decide) (by rw [hs1_2]; decide) (by rw [hs1_2]; rfl) (by decide) ?_
    refine pb_iload_n (pc := 56) C dX7_lawKept_56 rfl 1 rfl ?_
    refine pb_if_ne (pc := 57) (tgt := 64) C dX7_lawKept_57 (by decide) (fun hc57 => ?_) (fun hc57 => ?_)
    · have hf := pb_neg hf hc57
      refine pb_iconst (v := 1) (pc := 64) C dX7_lawKept_64 pb_kI_1 ?_
      refine pb_goto (pc := 65) (tgt := 69) C dX7_lawKept_65 (by decide) ?_
      obtain rfl := Option.some.inj hf
      exact pb_zret (pc := 69) C hr hlk hA pb_isB1 dX7_lawKept_69
    · have hf := pb_pos hf hc57
      refine pb_iload_n (pc := 60) C dX7_lawKept_60 rfl 2 rfl ?_
      refine pb_if_eq (pc := 61) (tgt := 68) C dX7_lawKept_61 (by decide) (fun hc61 => ?_) (fun hc61 => ?_)
      · have hf := pb_pos hf hc61
        refine pb_iconst (v := 0) (pc := 68) C dX7_lawKept_68 pb_kI_0 ?_
        obtain rfl := Option.some.inj hf
        exact pb_zret (pc := 69) C hr hlk hA pb_isB0 dX7_lawKept_69
      · have hf := pb_neg hf hc61
        refine pb_iconst (v := 1) (pc := 64) C dX7_lawKept_64 pb_kI_1 ?_
        refine pb_goto (pc := 65) (tgt := 69) C dX7_lawKept_65 (by decide) ?_
        obtain rfl := Option.some.inj hf
        exact pb_zret (pc := 69) C hr hlk hA pb_isB1 dX7_lawKept_69
  have hf := pb_neg hf hs1_2
  refine pb_tableOut (pc := 1) (tgt := 70) C dX7_lawKept_1 (by have q0 := lv_neT (a := 0) hs1_0 (by decide); have q1 := lv_neT (a := 1) hs1_1 (by decide); have q2 := lv_neT (a := 2) hs1_2 (by decide); omega) (by decide) ?_
  refine pb_iload_n (pc := 70) C dX7_lawKept_70 rfl 1 rfl ?_
  refine pb_iload_n (pc := 71) C dX7_lawKept_71 rfl 2 rfl ?_
  refine pb_icmp_ne (pc := 72) (tgt := 79) C dX7_lawKept_72 (by decide) (fun hc72 => ?_) (fun hc72 => ?_)
  · have hf := pb_neg hf hc72
    refine pb_iconst (v := 0) (pc := 79) C dX7_lawKept_79 pb_kI_0 ?_
    obtain rfl := Option.some.inj hf
    exact pb_zret (pc := 80) C hr hlk hA pb_isB0 dX7_lawKept_80
  · have hf := pb_pos hf hc72
    refine pb_iconst (v := 1) (pc := 75) C dX7_lawKept_75 pb_kI_1 ?_
    refine pb_goto (pc := 76) (tgt := 80) C dX7_lawKept_76 (by decide) ?_
    obtain rfl := Option.some.inj hf
    exact pb_zret (pc := 80) C hr hlk hA pb_isB1 dX7_lawKept_80
def rmX7_isPast : Room := { frames := 1, cells := 0, slots := 0, locals := 22 }
def wwX7_isPast (cyB cyI cyJ cyZ cyS : ClassId) : va_W := []
set_option maxHeartbeats 4000000 in
set_option maxRecDepth 100000 in
theorem kcX7_isPast (l : Launch) (dC : Nat → ClassId) (dI : Nat → Nat → Nat) (cyB cyI cyJ cyZ cyS : ClassId) (p1 : Int32) (out : Int32) (hf : fX7_isPast p1 = some out) : pb_K l yX7_isPast wsX7_isPast rmX7_isPast (dC, dI) vwCl (pb_tys cyB cyI cyJ cyZ cyS) pb_NW [.int p1] (wwX7_isPast cyB cyI cyJ cyZ cyS) (wwX7_isPast cyB cyI cyJ cyZ cyS) (some (.int out)) := by
  unfold fX7_isPast at hf
  refine pb_K.ofV (cc := cX7_isPast) (maxL := 1) (ret := (some .boolean)) (lv0 := [(0, .int p1)]) (by decide) rfl (Nat.le_of_ble_eq_true rfl) rfl ?_
  intro p e s m below meth c A C hX hr hlk hA
  refine pb_iload_n (pc := 0) C dX7_isPast_0 rfl 0 rfl ?_
  refine pb_iconst (v := 0) (pc := 1) C dX7_isPast_1 pb_kI_0 ?_
  refine pb_bipush (v := 127) (pc := 2) C dX7_isPast_2 pb_kB_127 ?_
  obtain ⟨r4, hr4, hf⟩ := pb_bind hf
  refine pb_callS (pc := 4) (n0 := 0) (ws' := (wwX7_isPast cyB cyI cyJ cyZ cyS)) (rest := []) (st2 := [.int r4]) C (kcX7_isWithin l dC dI cyB cyI cyJ cyZ cyS p1 0 127 r4 hr4) pb_NW_b (pb_NW_x hX) (va_cwS 3 C.1.2.2.2.2 gX7_isPast_X7_isWithin rfl rfl rfl kdS_X7_isWithin ⟨Nat.le_of_ble_eq_true rfl, Nat.le_of_ble_eq_true rfl⟩) [] [] rfl rfl trivial rfl (by decide +kernel) (adl := []) rfl rfl rfl rfl rfl (Nat.le_of_ble_eq_true rfl) ⟨Nat.le_refl _, Nat.le_refl _⟩ dX7_isPast_4 rfl ?_
  obtain ⟨g7, hf⟩ := pb_grd hf
  obtain rfl := Option.some.inj hf
  exact pb_zret (pc := 7) C hr hlk hA g7 dX7_isPast_7
def rmX7_claimHolds : Room := { frames := 1, cells := 0, slots := 0, locals := 21 }
def wwX7_claimHolds (cyB cyI cyJ cyZ cyS : ClassId) : va_W := []
set_option maxHeartbeats 4000000 in
set_option maxRecDepth 100000 in
theorem kcX7_claimHolds (l : Launch) (dC : Nat → ClassId) (dI : Nat → Nat → Nat) (cyB cyI cyJ cyZ cyS : ClassId) (p1 : Int32) (p2 : Int32) (p3 : Int32) (p4 : Int32) (out : Int32) (hf : fX7_claimHolds p1 p2 p3 p4 = some out) : pb_K l yX7_claimHolds wsX7_claimHolds rmX7_claimHolds (dC, dI) vwCl (pb_tys cyB cyI cyJ cyZ cyS) pb_NW [.int p1, .int p2, .int p3, .int p4] (wwX7_claimHolds cyB cyI cyJ cyZ cyS) (wwX7_claimHolds cyB cyI cyJ cyZ cyS) (some (.int out)) := by
  unfold fX7_claimHolds at hf
  refine pb_K.ofV (cc := cX7_claimHolds) (maxL := 6) (ret := (some .boolean)) (lv0 := [(0, .int p1), (1, .int p2), (2, .int p3), (3, .int p4)]) (by decide) rfl (Nat.le_of_ble_eq_true rfl) rfl ?_
  intro p e s m below meth c A C hX hr hlk hA
  refine pb_iload_n (pc := 0) C dX7_claimHolds_0 rfl 3 rfl ?_
  refine pb_iload_n (pc := 1) C dX7_claimHolds_1 rfl 1 rfl ?_
  obtain ⟨r2, hr2, hf⟩ := pb_bind hf
  refine pb_callS (pc := 2) (n0 := 0) (ws' := (wwX7_claimHolds cyB cyI cyJ cyZ cyS)) (rest := []) (st2 := [.int r2]) C (kcX7_wasSo l dC dI cyB cyI cyJ cyZ cyS p4 p2 r2 hr2) pb_NW_b (pb_NW_x hX) (va_cwS 2 C.1.2.2.2.2 gX7_claimHolds_X7_wasSo rfl rfl rfl kdS_X7_wasSo ⟨Nat.le_of_ble_eq_true rfl, Nat.le_of_ble_eq_true rfl⟩) [] [] rfl rfl trivial rfl (by decide +kernel) (adl := []) rfl rfl rfl rfl rfl (Nat.le_of_ble_eq_true rfl) ⟨Nat.le_refl _, Nat.le_refl _⟩ dX7_claimHolds_2 rfl ?_
  refine pb_istore (lv' := [(4, .int r2), (0, .int p1), (1, .int p2), (2, .int p3), (3, .int p4)]) (pc := 5) C dX7_claimHolds_5 (by decide) rfl ?_
  refine pb_iload_n (pc := 7) C dX7_claimHolds_7 rfl 4 rfl ?_
  refine pb_iload_n (pc := 8) C dX7_claimHolds_8 rfl 3 rfl ?_
  obtain ⟨r9, hr9, hf⟩ := pb_bind hf
  refine pb_callS (pc := 9) (n0 := 0) (ws' := (wwX7_claimHolds cyB cyI cyJ cyZ cyS)) (rest := []) (st2 := [.int r9]) C (kcX7_wasSo l dC dI cyB cyI cyJ cyZ cyS p4 p3 r9 hr9) pb_NW_b (pb_NW_x hX) (va_cwS 2 C.1.2.2.2.2 gX7_claimHolds_X7_wasSo rfl rfl rfl kdS_X7_wasSo ⟨Nat.le_of_ble_eq_true rfl, Nat.le_of_ble_eq_true rfl⟩) [] [] rfl rfl trivial rfl (by decide +kernel) (adl := []) rfl rfl rfl rfl rfl (Nat.le_of_ble_eq_true rfl) ⟨Nat.le_refl _, Nat.le_refl _⟩ dX7_claimHolds_9 rfl ?_
  refine pb_istore (lv' := [(5, .int r9), (4, .int r2), (0, .int p1), (1, .int p2), (2, .int p3), (3, .int p4)]) (pc := 12) C dX7_claimHolds_12 (by decide) rfl ?_
  refine pb_iload_n (pc := 14) C dX7_claimHolds_14 rfl 2 rfl ?_
  by_cases hs15_0 : p1 = 0
  · have hf := pb_pos hf hs15_0
    refine pb_tableIn (pc := 15) (tgt := 48) C dX7_claimHolds_15 (by rw [hs15_0]; decide) (by rw [hs15_0]; decide) (by rw [hs15_0]; rfl) (by decide) ?_
    refine pb_iload (pc := 48) C dX7_claimHolds_48 1 rfl ?_
    obtain ⟨g50, hf⟩ := pb_grd hf
    obtain rfl := Option.some.inj hf
    exact pb_zret (pc := 50) C hr hlk hA g50 dX7_claimHolds_50
  have hf := pb_neg hf hs15_0
  by_cases hs15_1 : p1 = 1
  · have hf := pb_pos hf hs15_1
    refine pb_tableIn (pc := 15) (tgt := 51) C dX7_claimHolds_15 (by rw [hs15_1]; decide) (by rw [hs15_1]; decide) (by rw [hs15_1]; rfl) (by decide) ?_
    refine pb_iload (pc := 51) C dX7_claimHolds_51 1 rfl ?_
    refine pb_if_ne (pc := 53) (tgt := 60) C dX7_claimHolds_53 (by decide) (fun hc53 => ?_) (fun hc53 => ?_)
    · have hf := pb_neg hf hc53
      refine pb_iconst (v := 0) (pc := 60) C dX7_claimHolds_60 pb_kI_0 ?_
      obtain rfl := Option.some.inj hf
      exact pb_zret (pc := 61) C hr hlk hA pb_isB0 dX7_claimHolds_61
    · have hf := pb_pos hf hc53
      refine pb_iconst (v := 1) (pc := 56) C dX7_claimHolds_56 pb_kI_1 ?_
      refine pb_goto (pc := 57) (tgt := 61) C dX7_claimHolds_57 (by decide) ?_
      obtain rfl := Option.some.inj hf
      exact pb_zret (pc := 61) C hr hlk hA pb_isB1 dX7_claimHolds_61
  have hf := pb_neg hf hs15_1
  by_cases hs15_2 : p1 = 2
  · have hf := pb_pos hf hs15_2
    refine pb_tableIn (pc := 15) (tgt := 62) C dX7_claimHolds_15 (by rw [hs15_2]; decide) (by rw [hs15_2]; decide) (by rw [hs15_2]; rfl) (by decide) ?_
    refine pb_iload (pc := 62) C dX7_claimHolds_62 1 rfl ?_
    refine pb_if_eq (pc := 64) (tgt := 76) C dX7_claimHolds_64 (by decide) (fun hc64 => ?_) (fun hc64 => ?_)
    · have hf := pb_pos hf hc64
      refine pb_iconst (v := 0) (pc := 76) C dX7_claimHolds_76 pb_kI_0 ?_
      obtain rfl := Option.some.inj hf
      exact pb_zret (pc := 77) C hr hlk hA pb_isB0 dX7_claimHolds_77
    · have hf := pb_neg hf hc64
      refine pb_iload (pc := 67) C dX7_claimHolds_67 0 rfl ?_
      refine pb_if_eq (pc := 69) (tgt := 76) C dX7_claimHolds_69 (by decide) (fun hc69 => ?_) (fun hc69 => ?_)
      · have hf := pb_pos hf hc69
        refine pb_iconst (v := 0) (pc := 76) C dX7_claimHolds_76 pb_kI_0 ?_
        obtain rfl := Option.some.inj hf
        exact pb_zret (pc := 77) C hr hlk hA pb_isB0 dX7_claimHolds_77
      · have hf := pb_neg hf hc69
        refine pb_iconst (v := 1) (pc := 72) C dX7_claimHolds_72 pb_kI_1 ?_
        refine pb_goto (pc := 73) (tgt := 77) C dX7_claimHolds_73 (by decide) ?_
        obtain rfl := Option.some.inj hf
        exact pb_zret (pc := 77) C hr hlk hA pb_isB1 dX7_claimHolds_77
  have hf := pb_neg hf hs15_2
  by_cases hs15_3 : p1 = 3
  · have hf := pb_pos hf hs15_3
    refine pb_tableIn (pc := 15) (tgt := 78) C dX7_claimHolds_15 (by rw [hs15_3]; decide) (by rw [hs15_3]; decide) (by rw [hs15_3]; rfl) (by decide) ?_
    refine pb_iload (pc := 78) C dX7_claimHolds_78 1 rfl ?_
    refine pb_if_ne (pc := 80) (tgt := 88) C dX7_claimHolds_80 (by decide) (fun hc80 => ?_) (fun hc80 => ?_)
    · have hf := pb_neg hf hc80
      refine pb_iconst (v := 1) (pc := 88) C dX7_claimHolds_88 pb_kI_1 ?_
      refine pb_goto (pc := 89) (tgt := 93) C dX7_claimHolds_89 (by decide) ?_
      obtain rfl := Option.some.inj hf
      exact pb_zret (pc := 93) C hr hlk hA pb_isB1 dX7_claimHolds_93
    · have hf := pb_pos hf hc80
      refine pb_iload (pc := 83) C dX7_claimHolds_83 0 rfl ?_
      refine pb_if_eq (pc := 85) (tgt := 92) C dX7_claimHolds_85 (by decide) (fun hc85 => ?_) (fun hc85 => ?_)
      · have hf := pb_pos hf hc85
        refine pb_iconst (v := 0) (pc := 92) C dX7_claimHolds_92 pb_kI_0 ?_
        obtain rfl := Option.some.inj hf
        exact pb_zret (pc := 93) C hr hlk hA pb_isB0 dX7_claimHolds_93
      · have hf := pb_neg hf hc85
        refine pb_iconst (v := 1) (pc := 88) C dX7_claimHolds_88 pb_kI_1 ?_
        refine pb_goto (pc := 89) (tgt := 93) C dX7_claimHolds_89 (by decide) ?_
        obtain rfl := Option.some.inj hf
        exact pb_zret (pc := 93) C hr hlk hA pb_isB1 dX7_claimHolds_93
  have hf := pb_neg hf hs15_3
  by_cases hs15_4 : p1 = 4
  · have hf := pb_pos hf hs15_4
    refine pb_tableIn (pc := 15) (tgt := 94) C dX7_claimHolds_15 (by rw [hs15_4]; decide) (by rw [hs15_4]; decide) (by rw [hs15_4]; rfl) (by decide) ?_
    refine pb_iload (pc := 94) C dX7_claimHolds_94 1 rfl ?_
    refine pb_if_ne (pc := 96) (tgt := 108) C dX7_claimHolds_96 (by decide) (fun hc96 => ?_) (fun hc96 => ?_)
    · have hf := pb_neg hf hc96
      refine pb_iconst (v := 0) (pc := 108) C dX7_claimHolds_108 pb_kI_0 ?_
      obtain rfl := Option.some.inj hf
      exact pb_zret (pc := 109) C hr hlk hA pb_isB0 dX7_claimHolds_109
    · have hf := pb_pos hf hc96
      refine pb_iload (pc := 99) C dX7_claimHolds_99 0 rfl ?_
      refine pb_if_ne (pc := 101) (tgt := 108) C dX7_claimHolds_101 (by decide) (fun hc101 => ?_) (fun hc101 => ?_)
      · have hf := pb_neg hf hc101
        refine pb_iconst (v := 0) (pc := 108) C dX7_claimHolds_108 pb_kI_0 ?_
        obtain rfl := Option.some.inj hf
        exact pb_zret (pc := 109) C hr hlk hA pb_isB0 dX7_claimHolds_109
      · have hf := pb_pos hf hc101
        refine pb_iconst (v := 1) (pc := 104) C dX7_claimHolds_104 pb_kI_1 ?_
        refine pb_goto (pc := 105) (tgt := 109) C dX7_claimHolds_105 (by decide) ?_
        obtain rfl := Option.some.inj hf
        exact pb_zret (pc := 109) C hr hlk hA pb_isB1 dX7_claimHolds_109
  have hf := pb_neg hf hs15_4
  refine pb_tableOut (pc := 15) (tgt := 110) C dX7_claimHolds_15 (by have q0 := lv_neT (a := 0) hs15_0 (by decide); have q1 := lv_neT (a := 1) hs15_1 (by decide); have q2 := lv_neT (a := 2) hs15_2 (by decide); have q3 := lv_neT (a := 3) hs15_3 (by decide); have q4 := lv_neT (a := 4) hs15_4 (by decide); omega) (by decide) ?_
  refine pb_iload (pc := 110) C dX7_claimHolds_110 1 rfl ?_
  refine pb_if_eq (pc := 112) (tgt := 124) C dX7_claimHolds_112 (by decide) (fun hc112 => ?_) (fun hc112 => ?_)
  · have hf := pb_pos hf hc112
    refine pb_iconst (v := 0) (pc := 124) C dX7_claimHolds_124 pb_kI_0 ?_
    obtain rfl := Option.some.inj hf
    exact pb_zret (pc := 125) C hr hlk hA pb_isB0 dX7_claimHolds_125
  · have hf := pb_neg hf hc112
    refine pb_iload (pc := 115) C dX7_claimHolds_115 0 rfl ?_
    refine pb_if_ne (pc := 117) (tgt := 124) C dX7_claimHolds_117 (by decide) (fun hc117 => ?_) (fun hc117 => ?_)
    · have hf := pb_neg hf hc117
      refine pb_iconst (v := 0) (pc := 124) C dX7_claimHolds_124 pb_kI_0 ?_
      obtain rfl := Option.some.inj hf
      exact pb_zret (pc := 125) C hr hlk hA pb_isB0 dX7_claimHolds_125
    · have hf := pb_pos hf hc117
      refine pb_iconst (v := 1) (pc := 120) C dX7_claimHolds_120 pb_kI_1 ?_
      refine pb_goto (pc := 121) (tgt := 125) C dX7_claimHolds_121 (by decide) ?_
      obtain rfl := Option.some.inj hf
      exact pb_zret (pc := 125) C hr hlk hA pb_isB1 dX7_claimHolds_125
def rmX7_shareOfTen : Room := { frames := 1, cells := 0, slots := 0, locals := 21 }
def wwX7_shareOfTen (cyB cyI cyJ cyZ cyS : ClassId) : va_W := []
set_option maxHeartbeats 4000000 in
set_option maxRecDepth 100000 in
theorem kcX7_shareOfTen (l : Launch) (dC : Nat → ClassId) (dI : Nat → Nat → Nat) (cyB cyI cyJ cyZ cyS : ClassId) (p1 : Int32) (p2 : Int32) (p3 : Int32) (p4 : Int32) (out : Int32) (hf : fX7_shareOfTen p1 p2 p3 p4 = some out) : pb_K l yX7_shareOfTen wsX7_shareOfTen rmX7_shareOfTen (dC, dI) vwCl (pb_tys cyB cyI cyJ cyZ cyS) pb_NW [.int p1, .int p2, .int p3, .int p4] (wwX7_shareOfTen cyB cyI cyJ cyZ cyS) (wwX7_shareOfTen cyB cyI cyJ cyZ cyS) (some (.int out)) := by
  unfold fX7_shareOfTen at hf
  refine pb_K.ofV (cc := cX7_shareOfTen) (maxL := 4) (ret := (some .int)) (lv0 := [(0, .int p1), (1, .int p2), (2, .int p3), (3, .int p4)]) (by decide) rfl (Nat.le_of_ble_eq_true rfl) rfl ?_
  intro p e s m below meth c A C hX hr hlk hA
  refine pb_iload_n (pc := 0) C dX7_shareOfTen_0 rfl 0 rfl ?_
  refine pb_iload_n (pc := 1) C dX7_shareOfTen_1 rfl 1 rfl ?_
  obtain ⟨r2, hr2, hf⟩ := pb_bind hf
  refine pb_callS (pc := 2) (n0 := 0) (ws' := (wwX7_shareOfTen cyB cyI cyJ cyZ cyS)) (rest := []) (st2 := [.int r2]) C (kcX7_wasSo l dC dI cyB cyI cyJ cyZ cyS p1 p2 r2 hr2) pb_NW_b (pb_NW_x hX) (va_cwS 2 C.1.2.2.2.2 gX7_shareOfTen_X7_wasSo rfl rfl rfl kdS_X7_wasSo ⟨Nat.le_of_ble_eq_true rfl, Nat.le_of_ble_eq_true rfl⟩) [] [] rfl rfl trivial rfl (by decide +kernel) (adl := []) rfl rfl rfl rfl rfl (Nat.le_of_ble_eq_true rfl) ⟨Nat.le_refl _, Nat.le_refl _⟩ dX7_shareOfTen_2 rfl ?_
  refine pb_iload_n (pc := 5) C dX7_shareOfTen_5 rfl 2 rfl ?_
  refine pb_iconst (v := 1) (pc := 6) C dX7_shareOfTen_6 pb_kI_1 ?_
  obtain ⟨y15, hf, hk15⟩ := pb_bind hf
  have J15 : ∀ (j15_s1 : Int32), fX7_shareOfTen_J15 p4 r2 j15_s1 = some out → pb_V p l e rmX7_shareOfTen s m (([.int p1, .int p2, .int p3, .int p4] : List Value).toArray) below meth c 4 (dC, dI) vwCl A 0 0 (pb_MQ below (([.int p1, .int p2, .int p3, .int p4] : List Value).toArray) s (dC, dI) vwCl (wwX7_shareOfTen cyB cyI cyJ cyZ cyS) (wwX7_shareOfTen cyB cyI cyJ cyZ cyS) (some (.int out)) A) (wwX7_shareOfTen cyB cyI cyJ cyZ cyS) [(3, .int p4)] [.int j15_s1, .int r2] 15 := by
    intro j15_s1 hf
    unfold fX7_shareOfTen_J15 at hf
    refine pb_icmp_ne (pc := 15) (tgt := 22) C dX7_shareOfTen_15 (by decide) (fun hc15 => ?_) (fun hc15 => ?_)
    · have hf := pb_neg hf hc15
      refine pb_bipush (v := 10) (pc := 22) C dX7_shareOfTen_22 pb_kB_10 ?_
      refine pb_iload_n (pc := 24) C dX7_shareOfTen_24 rfl 0 rfl ?_
      refine pb_isub (pc := 25) C dX7_shareOfTen_25 ?_
      obtain rfl := Option.some.inj hf
      exact pb_iret (pc := 26) C hr hlk hA dX7_shareOfTen_26
    · have hf := pb_pos hf hc15
      refine pb_iload_n (pc := 18) C dX7_shareOfTen_18 rfl 0 rfl ?_
      refine pb_goto (pc := 19) (tgt := 26) C dX7_shareOfTen_19 (by decide) ?_
      obtain rfl := Option.some.inj hf
      exact pb_iret (pc := 26) C hr hlk hA dX7_shareOfTen_26
  refine pb_icmp_ne (pc := 7) (tgt := 14) C dX7_shareOfTen_7 (by decide) (fun hc7 => ?_) (fun hc7 => ?_)
  · have hf := pb_neg hf hc7
    refine pb_iconst (v := 0) (pc := 14) C dX7_shareOfTen_14 pb_kI_0 ?_
    obtain rfl := Option.some.inj hf
    refine pb_sub [3] rfl ?_
    exact J15 0 hk15
  · have hf := pb_pos hf hc7
    refine pb_iconst (v := 1) (pc := 10) C dX7_shareOfTen_10 pb_kI_1 ?_
    refine pb_goto (pc := 11) (tgt := 15) C dX7_shareOfTen_11 (by decide) ?_
    obtain rfl := Option.some.inj hf
    refine pb_sub [3] rfl ?_
    exact J15 1 hk15
def rmX7_betHolds : Room := { frames := 2, cells := 0, slots := 0, locals := 46 }
def wwX7_betHolds (cyB cyI cyJ cyZ cyS : ClassId) (a_p1 a_p1_cells : Nat) (w_p1 : Int32) (m_p1 : Int32) (n_p1 : Nat) (c_p1_size : Int32) (c_p1_cells : (Nat → Int32)) : va_W := [(a_p1, .inr (6, [.int w_p1, .int m_p1, .ref a_p1_cells, .int c_p1_size])), (a_p1_cells, .inl (cyI, n_p1, .inl c_p1_cells))]
set_option maxHeartbeats 4000000 in
set_option maxRecDepth 100000 in
theorem kcX7_betHolds (l : Launch) (dC : Nat → ClassId) (dI : Nat → Nat → Nat) (cyB cyI cyJ cyZ cyS : ClassId) (a_p1 a_p1_cells : Nat) (w_p1 : Int32) (m_p1 : Int32) (n_p1 : Nat) (c_p1_size : Int32) (c_p1_cells : (Nat → Int32)) (p2 : Int32) (p3 : Int32) (out : Int32) (hf : fX7_betHolds w_p1 m_p1 n_p1 c_p1_size c_p1_cells p2 p3 = some out) : pb_K l yX7_betHolds wsX7_betHolds rmX7_betHolds (dC, dI) vwCl (pb_tys cyB cyI cyJ cyZ cyS) pb_NW [.ref a_p1, .int p2, .int p3] (wwX7_betHolds cyB cyI cyJ cyZ cyS a_p1 a_p1_cells w_p1 m_p1 n_p1 c_p1_size c_p1_cells) (wwX7_betHolds cyB cyI cyJ cyZ cyS a_p1 a_p1_cells w_p1 m_p1 n_p1 c_p1_size c_p1_cells) (some (.int out)) := by
  unfold fX7_betHolds at hf
  refine pb_K.ofV (cc := cX7_betHolds) (maxL := 3) (ret := (some .boolean)) (lv0 := [(0, .ref a_p1), (1, .int p2), (2, .int p3)]) (by decide) rfl (Nat.le_of_ble_eq_true rfl) rfl ?_
  intro p e s m below meth c A C hX hr hlk hA
  refine pb_aload_n (pc := 0) C dX7_betHolds_0 rfl 0 rfl ?_
  refine pb_iload_n (pc := 1) C dX7_betHolds_1 rfl 1 rfl ?_
  refine pb_iconst (v := 0) (pc := 2) C dX7_betHolds_2 pb_kI_0 ?_
  obtain ⟨r3, hr3, hf⟩ := pb_bind hf
  refine pb_callV (pc := 3) (n0 := 2) (ws' := (wwX7_betHolds cyB cyI cyJ cyZ cyS a_p1 a_p1_cells w_p1 m_p1 n_p1 c_p1_size c_p1_cells)) (rest := []) (st2 := [.int r3]) C (kcX6_cell l dC dI cyB cyI cyJ cyZ cyS a_p1 a_p1_cells w_p1 m_p1 n_p1 c_p1_size c_p1_cells p2 0 r3 hr3) pb_NW_b (pb_NW_x hX) (cwV 2 C.1.2.2.2.2 gX7_betHolds_X6_cell rfl rfl rfl kdV_X6_cell ⟨Nat.le_of_ble_eq_true rfl, Nat.le_of_ble_eq_true rfl⟩) 0 rfl rfl [0, 1] [] rfl rfl trivial rfl (by decide +kernel) (adl := [a_p1, a_p1_cells]) rfl rfl rfl rfl rfl (Nat.le_of_ble_eq_true rfl) ⟨Nat.le_refl _, Nat.le_refl _⟩ dX7_betHolds_3 rfl ?_
  refine pb_aload_n (pc := 6) C dX7_betHolds_6 rfl 0 rfl ?_
  refine pb_iload_n (pc := 7) C dX7_betHolds_7 rfl 1 rfl ?_
  refine pb_iconst (v := 1) (pc := 8) C dX7_betHolds_8 pb_kI_1 ?_
  obtain ⟨r9, hr9, hf⟩ := pb_bind hf
  refine pb_callV (pc := 9) (n0 := 2) (ws' := (wwX7_betHolds cyB cyI cyJ cyZ cyS a_p1 a_p1_cells w_p1 m_p1 n_p1 c_p1_size c_p1_cells)) (rest := [.int r3]) (st2 := [.int r9, .int r3]) C (kcX6_cell l dC dI cyB cyI cyJ cyZ cyS a_p1 a_p1_cells w_p1 m_p1 n_p1 c_p1_size c_p1_cells p2 1 r9 hr9) pb_NW_b (pb_NW_x hX) (cwV 2 C.1.2.2.2.2 gX7_betHolds_X6_cell rfl rfl rfl kdV_X6_cell ⟨Nat.le_of_ble_eq_true rfl, Nat.le_of_ble_eq_true rfl⟩) 0 rfl rfl [0, 1] [] rfl rfl trivial rfl (by decide +kernel) (adl := [a_p1, a_p1_cells]) rfl rfl rfl rfl rfl (Nat.le_of_ble_eq_true rfl) ⟨Nat.le_refl _, Nat.le_refl _⟩ dX7_betHolds_9 rfl ?_
  refine pb_aload_n (pc := 12) C dX7_betHolds_12 rfl 0 rfl ?_
  refine pb_iload_n (pc := 13) C dX7_betHolds_13 rfl 1 rfl ?_
  refine pb_iconst (v := 2) (pc := 14) C dX7_betHolds_14 pb_kI_2 ?_
  obtain ⟨r15, hr15, hf⟩ := pb_bind hf
  refine pb_callV (pc := 15) (n0 := 2) (ws' := (wwX7_betHolds cyB cyI cyJ cyZ cyS a_p1 a_p1_cells w_p1 m_p1 n_p1 c_p1_size c_p1_cells)) (rest := [.int r9, .int r3]) (st2 := [.int r15, .int r9, .int r3]) C (kcX6_cell l dC dI cyB cyI cyJ cyZ cyS a_p1 a_p1_cells w_p1 m_p1 n_p1 c_p1_size c_p1_cells p2 2 r15 hr15) pb_NW_b (pb_NW_x hX) (cwV 2 C.1.2.2.2.2 gX7_betHolds_X6_cell rfl rfl rfl kdV_X6_cell ⟨Nat.le_of_ble_eq_true rfl, Nat.le_of_ble_eq_true rfl⟩) 0 rfl rfl [0, 1] [] rfl rfl trivial rfl (by decide +kernel) (adl := [a_p1, a_p1_cells]) rfl rfl rfl rfl rfl (Nat.le_of_ble_eq_true rfl) ⟨Nat.le_refl _, Nat.le_refl _⟩ dX7_betHolds_15 rfl ?_
  refine pb_iload_n (pc := 18) C dX7_betHolds_18 rfl 2 rfl ?_
  obtain ⟨r19, hr19, hf⟩ := pb_bind hf
  refine pb_callS (pc := 19) (n0 := 2) (ws' := (wwX7_betHolds cyB cyI cyJ cyZ cyS a_p1 a_p1_cells w_p1 m_p1 n_p1 c_p1_size c_p1_cells)) (rest := []) (st2 := [.int r19]) C (kcX7_claimHolds l dC dI cyB cyI cyJ cyZ cyS r3 r9 r15 p3 r19 hr19) pb_NW_b (pb_NW_x hX) (va_cwS 4 C.1.2.2.2.2 gX7_betHolds_X7_claimHolds rfl rfl rfl kdS_X7_claimHolds ⟨Nat.le_of_ble_eq_true rfl, Nat.le_of_ble_eq_true rfl⟩) [] [0, 1] rfl rfl ⟨⟨_, rfl, rfl⟩, ⟨⟨_, rfl, rfl⟩, trivial⟩⟩ rfl (by decide +kernel) (adl := []) rfl rfl rfl rfl rfl (Nat.le_of_ble_eq_true rfl) ⟨Nat.le_refl _, Nat.le_refl _⟩ dX7_betHolds_19 rfl ?_
  obtain ⟨g22, hf⟩ := pb_grd hf
  obtain rfl := Option.some.inj hf
  exact pb_zret (pc := 22) C hr hlk hA g22 dX7_betHolds_22
def rmX7_gainIn : Room := { frames := 3, cells := 0, slots := 0, locals := 68 }
def wwX7_gainIn (cyB cyI cyJ cyZ cyS : ClassId) (a_p1 a_p1_cells : Nat) (w_p1 : Int32) (m_p1 : Int32) (n_p1 : Nat) (c_p1_size : Int32) (c_p1_cells : (Nat → Int32)) : va_W := [(a_p1, .inr (6, [.int w_p1, .int m_p1, .ref a_p1_cells, .int c_p1_size])), (a_p1_cells, .inl (cyI, n_p1, .inl c_p1_cells))]
set_option maxHeartbeats 4000000 in
set_option maxRecDepth 100000 in
theorem kcX7_gainIn (l : Launch) (dC : Nat → ClassId) (dI : Nat → Nat → Nat) (cyB cyI cyJ cyZ cyS : ClassId) (a_p1 a_p1_cells : Nat) (w_p1 : Int32) (m_p1 : Int32) (n_p1 : Nat) (c_p1_size : Int32) (c_p1_cells : (Nat → Int32)) (p2 : Int32) (p3 : Int32) (out : Int32) (hf : fX7_gainIn w_p1 m_p1 n_p1 c_p1_size c_p1_cells p2 p3 = some out) : pb_K l yX7_gainIn wsX7_gainIn rmX7_gainIn (dC, dI) vwCl (pb_tys cyB cyI cyJ cyZ cyS) pb_NW [.ref a_p1, .int p2, .int p3] (wwX7_gainIn cyB cyI cyJ cyZ cyS a_p1 a_p1_cells w_p1 m_p1 n_p1 c_p1_size c_p1_cells) (wwX7_gainIn cyB cyI cyJ cyZ cyS a_p1 a_p1_cells w_p1 m_p1 n_p1 c_p1_size c_p1_cells) (some (.int out)) := by
  unfold fX7_gainIn at hf
  refine pb_K.ofV (cc := cX7_gainIn) (maxL := 4) (ret := (some .int)) (lv0 := [(0, .ref a_p1), (1, .int p2), (2, .int p3)]) (by decide) rfl (Nat.le_of_ble_eq_true rfl) rfl ?_
  intro p e s m below meth c A C hX hr hlk hA
  refine pb_aload_n (pc := 0) C dX7_gainIn_0 rfl 0 rfl ?_
  refine pb_iload_n (pc := 1) C dX7_gainIn_1 rfl 1 rfl ?_
  refine pb_iconst (v := 3) (pc := 2) C dX7_gainIn_2 pb_kI_3 ?_
  obtain ⟨r3, hr3, hf⟩ := pb_bind hf
  refine pb_callV (pc := 3) (n0 := 2) (ws' := (wwX7_gainIn cyB cyI cyJ cyZ cyS a_p1 a_p1_cells w_p1 m_p1 n_p1 c_p1_size c_p1_cells)) (rest := []) (st2 := [.int r3]) C (kcX6_cell l dC dI cyB cyI cyJ cyZ cyS a_p1 a_p1_cells w_p1 m_p1 n_p1 c_p1_size c_p1_cells p2 3 r3 hr3) pb_NW_b (pb_NW_x hX) (cwV 2 C.1.2.2.2.2 gX7_gainIn_X6_cell rfl rfl rfl kdV_X6_cell ⟨Nat.le_of_ble_eq_true rfl, Nat.le_of_ble_eq_true rfl⟩) 0 rfl rfl [0, 1] [] rfl rfl trivial rfl (by decide +kernel) (adl := [a_p1, a_p1_cells]) rfl rfl rfl rfl rfl (Nat.le_of_ble_eq_true rfl) ⟨Nat.le_refl _, Nat.le_refl _⟩ dX7_gainIn_3 rfl ?_
  refine pb_istore_n (lv' := [(3, .int r3), (0, .ref a_p1), (1, .int p2), (2, .int p3)]) (pc := 6) C dX7_gainIn_6 rfl (by decide) rfl ?_
  refine pb_aload_n (pc := 7) C dX7_gainIn_7 rfl 1 rfl ?_
  refine pb_iload_n (pc := 8) C dX7_gainIn_8 rfl 2 rfl ?_
  refine pb_iload_n (pc := 9) C dX7_gainIn_9 rfl 3 rfl ?_
  obtain ⟨r10, hr10, hf⟩ := pb_bind hf
  refine pb_callS (pc := 10) (n0 := 2) (ws' := (wwX7_gainIn cyB cyI cyJ cyZ cyS a_p1 a_p1_cells w_p1 m_p1 n_p1 c_p1_size c_p1_cells)) (rest := []) (st2 := [.int r10]) C (kcX7_betHolds l dC dI cyB cyI cyJ cyZ cyS a_p1 a_p1_cells w_p1 m_p1 n_p1 c_p1_size c_p1_cells p2 p3 r10 hr10) pb_NW_b (pb_NW_x hX) (va_cwS 3 C.1.2.2.2.2 gX7_gainIn_X7_betHolds rfl rfl rfl kdS_X7_betHolds ⟨Nat.le_of_ble_eq_true rfl, Nat.le_of_ble_eq_true rfl⟩) [0, 1] [] rfl rfl trivial rfl (by decide +kernel) (adl := [a_p1, a_p1_cells]) rfl rfl rfl rfl rfl (Nat.le_of_ble_eq_true rfl) ⟨Nat.le_refl _, Nat.le_refl _⟩ dX7_gainIn_10 rfl ?_
  refine pb_if_eq (pc := 13) (tgt := 27) C dX7_gainIn_13 (by decide) (fun hc13 => ?_) (fun hc13 => ?_)
  · have hf := pb_pos hf hc13
    refine pb_iload_n (pc := 27) C dX7_gainIn_27 rfl 0 rfl ?_
    refine pb_ineg (pc := 28) C dX7_gainIn_28 ?_
    obtain rfl := Option.some.inj hf
    exact pb_iret (pc := 29) C hr hlk hA dX7_gainIn_29
  · have hf := pb_neg hf hc13
    refine pb_iload_n (pc := 16) C dX7_gainIn_16 rfl 0 rfl ?_
    refine pb_aload_n (pc := 17) C dX7_gainIn_17 rfl 1 rfl ?_
    refine pb_iload_n (pc := 18) C dX7_gainIn_18 rfl 2 rfl ?_
    refine pb_iconst (v := 4) (pc := 19) C dX7_gainIn_19 pb_kI_4 ?_
    obtain ⟨r20, hr20, hf⟩ := pb_bind hf
    refine pb_callV (pc := 20) (n0 := 2) (ws' := (wwX7_gainIn cyB cyI cyJ cyZ cyS a_p1 a_p1_cells w_p1 m_p1 n_p1 c_p1_size c_p1_cells)) (rest := [.int r3]) (st2 := [.int r20, .int r3]) C (kcX6_cell l dC dI cyB cyI cyJ cyZ cyS a_p1 a_p1_cells w_p1 m_p1 n_p1 c_p1_size c_p1_cells p2 4 r20 hr20) pb_NW_b (pb_NW_x hX) (cwV 2 C.1.2.2.2.2 gX7_gainIn_X6_cell rfl rfl rfl kdV_X6_cell ⟨Nat.le_of_ble_eq_true rfl, Nat.le_of_ble_eq_true rfl⟩) 0 rfl rfl [0, 1] [] rfl rfl trivial rfl (by decide +kernel) (adl := [a_p1, a_p1_cells]) rfl rfl rfl rfl rfl (Nat.le_of_ble_eq_true rfl) ⟨Nat.le_refl _, Nat.le_refl _⟩ dX7_gainIn_20 rfl ?_
    refine pb_imul (pc := 23) C dX7_gainIn_23 ?_
    refine pb_goto (pc := 24) (tgt := 29) C dX7_gainIn_24 (by decide) ?_
    obtain rfl := Option.some.inj hf
    exact pb_iret (pc := 29) C hr hlk hA dX7_gainIn_29
def rmX7_bookIn : Room := { frames := 4, cells := 0, slots := 0, locals := 91 }
def wwX7_bookIn (cyB cyI cyJ cyZ cyS : ClassId) (a_p1 a_p1_cells : Nat) (w_p1 : Int32) (m_p1 : Int32) (n_p1 : Nat) (c_p1_size : Int32) (c_p1_cells : (Nat → Int32)) : va_W := [(a_p1, .inr (6, [.int w_p1, .int m_p1, .ref a_p1_cells, .int c_p1_size])), (a_p1_cells, .inl (cyI, n_p1, .inl c_p1_cells))]
theorem hnX7_bookIn_X6 : ∀ w ∈ wsX60, w ∈ wsX7_bookIn := fun _ h => List.mem_cons_of_mem _ (List.mem_append_right _ h)
set_option maxHeartbeats 4000000 in
set_option maxRecDepth 100000 in
theorem kcX7_bookIn (l : Launch) (dC : Nat → ClassId) (dI : Nat → Nat → Nat) (cyB cyI cyJ cyZ cyS : ClassId) (a_p1 a_p1_cells : Nat) (w_p1 : Int32) (m_p1 : Int32) (n_p1 : Nat) (c_p1_size : Int32) (c_p1_cells : (Nat → Int32)) (p2 : Int32) (out : Int32) (hf : fX7_bookIn w_p1 m_p1 n_p1 c_p1_size c_p1_cells p2 = some out) : pb_K l yX7_bookIn wsX7_bookIn rmX7_bookIn (dC, dI) vwCl (pb_tys cyB cyI cyJ cyZ cyS) pb_NW [.ref a_p1, .int p2] (wwX7_bookIn cyB cyI cyJ cyZ cyS a_p1 a_p1_cells w_p1 m_p1 n_p1 c_p1_size c_p1_cells) (wwX7_bookIn cyB cyI cyJ cyZ cyS a_p1 a_p1_cells w_p1 m_p1 n_p1 c_p1_size c_p1_cells) (some (.int out)) := by
  unfold fX7_bookIn at hf
  refine pb_K.ofV (cc := cX7_bookIn) (maxL := 4) (ret := (some .int)) (lv0 := [(0, .ref a_p1), (1, .int p2)]) (by decide) rfl (Nat.le_of_ble_eq_true rfl) rfl ?_
  intro p e s m below meth c A C hX hr hlk hA
  refine pb_iconst (v := 0) (pc := 0) C dX7_bookIn_0 pb_kI_0 ?_
  refine pb_istore_n (lv' := [(2, .int 0), (0, .ref a_p1), (1, .int p2)]) (pc := 1) C dX7_bookIn_1 rfl (by decide) rfl ?_
  refine pb_iconst (v := 0) (pc := 2) C dX7_bookIn_2 pb_kI_0 ?_
  refine pb_istore_n (lv' := [(3, .int 0), (2, .int 0), (0, .ref a_p1), (1, .int p2)]) (pc := 3) C dX7_bookIn_3 rfl (by decide) rfl ?_
  obtain ⟨z4, hz4, hk4⟩ := pb_bind hf
  have E4 : ∀ (e4_2 : Int32) (e4_3 : Int32), fX7_bookIn_E4 e4_2 e4_3 = some out → pb_V p l e rmX7_bookIn s m (([.ref a_p1, .int p2] : List Value).toArray) below meth c 4 (dC, dI) vwCl A 0 0 (pb_MQ below (([.ref a_p1, .int p2] : List Value).toArray) s (dC, dI) vwCl (wwX7_bookIn cyB cyI cyJ cyZ cyS a_p1 a_p1_cells w_p1 m_p1 n_p1 c_p1_size c_p1_cells) (wwX7_bookIn cyB cyI cyJ cyZ cyS a_p1 a_p1_cells w_p1 m_p1 n_p1 c_p1_size c_p1_cells) (some (.int out)) A) (wwX7_bookIn cyB cyI cyJ cyZ cyS a_p1 a_p1_cells w_p1 m_p1 n_p1 c_p1_size c_p1_cells) [(2, .int e4_2)] [] 27 := by
    intro e4_2 e4_3 hf
    unfold fX7_bookIn_E4 at hf
    refine pb_iload_n (pc := 27) C dX7_bookIn_27 rfl 0 rfl ?_
    obtain rfl := Option.some.inj hf
    exact pb_iret (pc := 28) C hr hlk hA dX7_bookIn_28
  have L4 : ∀ (n : Nat) (l4_2 : Int32) (l4_3 : Int32), pb_lp (fun y => fX7_bookIn_L4 w_p1 m_p1 n_p1 c_p1_size c_p1_cells p2 y.1 y.2) n (l4_2, l4_3) = some z4 → pb_V p l e rmX7_bookIn s m (([.ref a_p1, .int p2] : List Value).toArray) below meth c 4 (dC, dI) vwCl A 0 0 (pb_MQ below (([.ref a_p1, .int p2] : List Value).toArray) s (dC, dI) vwCl (wwX7_bookIn cyB cyI cyJ cyZ cyS a_p1 a_p1_cells w_p1 m_p1 n_p1 c_p1_size c_p1_cells) (wwX7_bookIn cyB cyI cyJ cyZ cyS a_p1 a_p1_cells w_p1 m_p1 n_p1 c_p1_size c_p1_cells) (some (.int out)) A) (wwX7_bookIn cyB cyI cyJ cyZ cyS a_p1 a_p1_cells w_p1 m_p1 n_p1 c_p1_size c_p1_cells) [(0, .ref a_p1), (1, .int p2), (2, .int l4_2), (3, .int l4_3)] [] 4 := by
    intro n
    induction n with
    | zero => intro l4_2 l4_3 hf; exact (pb_lp_zero hf).elim
    | succ n ih4 =>
      intro l4_2 l4_3 hf
      obtain ⟨y4, hf, hl4⟩ := pb_lp_succ hf
      have hf : fX7_bookIn_L4 w_p1 m_p1 n_p1 c_p1_size c_p1_cells p2 l4_2 l4_3 = some y4 := hf
      unfold fX7_bookIn_L4 at hf
      refine pb_iload_n (pc := 4) C dX7_bookIn_4 rfl 3 rfl ?_
      refine pb_aload_n (pc := 5) C dX7_bookIn_5 rfl 0 rfl ?_
      refine pb_get (pc := 6) C hnX7_bookIn_X6 0 rfl rfl 3 (by decide) (List.mem_of_getElem? (i := 1) rfl) rfl rfl dX7_bookIn_6 ?_
      refine pb_icmp_ge (pc := 9) (tgt := 27) C dX7_bookIn_9 (by decide) (fun hc9 => ?_) (fun hc9 => ?_)
      · have hf := pb_pos hf hc9
        obtain rfl := Option.some.inj hf
        obtain rfl := pb_esc hl4
        refine pb_sub [2] rfl ?_
        exact E4 l4_2 l4_3 hk4
      · have hf := pb_neg hf hc9
        refine pb_iload_n (pc := 12) C dX7_bookIn_12 rfl 2 rfl ?_
        refine pb_aload_n (pc := 13) C dX7_bookIn_13 rfl 0 rfl ?_
        refine pb_iload_n (pc := 14) C dX7_bookIn_14 rfl 3 rfl ?_
        refine pb_iload_n (pc := 15) C dX7_bookIn_15 rfl 1 rfl ?_
        obtain ⟨r16, hr16, hf⟩ := pb_bind hf
        refine pb_callS (pc := 16) (n0 := 2) (ws' := (wwX7_bookIn cyB cyI cyJ cyZ cyS a_p1 a_p1_cells w_p1 m_p1 n_p1 c_p1_size c_p1_cells)) (rest := [.int l4_2]) (st2 := [.int r16, .int l4_2]) C (kcX7_gainIn l dC dI cyB cyI cyJ cyZ cyS a_p1 a_p1_cells w_p1 m_p1 n_p1 c_p1_size c_p1_cells l4_3 p2 r16 hr16) pb_NW_b (pb_NW_x hX) (va_cwS 3 C.1.2.2.2.2 gX7_bookIn_X7_gainIn rfl rfl rfl kdS_X7_gainIn ⟨Nat.le_of_ble_eq_true rfl, Nat.le_of_ble_eq_true rfl⟩) [0, 1] [] rfl rfl trivial rfl (by decide +kernel) (adl := [a_p1, a_p1_cells]) rfl rfl rfl rfl rfl (Nat.le_of_ble_eq_true rfl) ⟨Nat.le_refl _, Nat.le_refl _⟩ dX7_bookIn_16 rfl ?_
        refine pb_isub (pc := 19) C dX7_bookIn_19 ?_
        obtain ⟨x20, ex20, hf⟩ := pb_bind hf
        have ex20 := Option.some.inj ex20
        refine pb_topi ex20 ?_
        refine pb_istore_n (lv' := [(2, .int x20), (0, .ref a_p1), (1, .int p2), (3, .int l4_3)]) (pc := 20) C dX7_bookIn_20 rfl (by decide) rfl ?_
        refine pb_iinc (v := l4_3 + 1) (lv' := [(3, .int (l4_3 + 1)), (2, .int x20), (0, .ref a_p1), (1, .int p2)]) (pc := 21) C dX7_bookIn_21 3 rfl (pb_inc pb_kI_1 rfl) (by decide) rfl ?_
        refine pb_goto (pc := 24) (tgt := 4) C dX7_bookIn_24 (by decide) ?_
        obtain rfl := Option.some.inj hf
        refine pb_sub [2, 3, 1, 0] rfl ?_
        have hl4 := pb_inl hl4
        exact ih4 x20 (l4_3 + 1) hl4
  refine pb_sub [2, 3, 1, 0] rfl ?_
  exact L4 pb_FU 0 0 hz4
