def rmJ3_checkIndex_8e157 : Room := { frames := 0, cells := 0, slots := 0, locals := 0 }
def rmJ0_checkIndex_df160 : Room := { frames := 1, cells := 0, slots := 0, locals := 22 }
def rmJ1_charAt_3b067 : Room := { frames := 2, cells := 0, slots := 0, locals := 43 }
def rmJ0_isLatin1_aae02 : Room := { frames := 0, cells := 0, slots := 0, locals := 0 }
def rmJ0_coder_7d493 : Room := { frames := 0, cells := 0, slots := 0, locals := 0 }
def rmJ0_charAt_5068e : Room := { frames := 3, cells := 0, slots := 0, locals := 64 }
def rmJ0_length_8abf5 : Room := { frames := 1, cells := 0, slots := 0, locals := 20 }
theorem kdS_J3_checkIndex_8e157 : yJ3_checkIndex_8e157.cls ≠ "java/lang/invoke/MethodHandle" ∧ yJ3_checkIndex_8e157.cls ≠ "java/lang/invoke/VarHandle" ∧ (parseMethodDescriptor yJ3_checkIndex_8e157.desc).map (fun d => d.parameters.length) = some 3 := by decide +kernel
theorem kdS_J0_checkIndex_df160 : yJ0_checkIndex_df160.cls ≠ "java/lang/invoke/MethodHandle" ∧ yJ0_checkIndex_df160.cls ≠ "java/lang/invoke/VarHandle" ∧ (parseMethodDescriptor yJ0_checkIndex_df160.desc).map (fun d => d.parameters.length) = some 2 := by decide +kernel
theorem kdS_J1_charAt_3b067 : yJ1_charAt_3b067.cls ≠ "java/lang/invoke/MethodHandle" ∧ yJ1_charAt_3b067.cls ≠ "java/lang/invoke/VarHandle" ∧ (parseMethodDescriptor yJ1_charAt_3b067.desc).map (fun d => d.parameters.length) = some 2 := by decide +kernel
theorem kdV_J0_isLatin1_aae02 : yJ0_isLatin1_aae02.cls = RJ0 ∧ yJ0_isLatin1_aae02.cls ≠ "java/lang/invoke/MethodHandle" ∧ yJ0_isLatin1_aae02.cls ≠ "java/lang/invoke/VarHandle" ∧ (parseMethodDescriptor yJ0_isLatin1_aae02.desc).map (fun d => d.parameters.length) = some 0 := by decide +kernel
theorem kdV_J0_coder_7d493 : yJ0_coder_7d493.cls = RJ0 ∧ yJ0_coder_7d493.cls ≠ "java/lang/invoke/MethodHandle" ∧ yJ0_coder_7d493.cls ≠ "java/lang/invoke/VarHandle" ∧ (parseMethodDescriptor yJ0_coder_7d493.desc).map (fun d => d.parameters.length) = some 0 := by decide +kernel
theorem kdV_J0_charAt_5068e : yJ0_charAt_5068e.cls = RJ0 ∧ yJ0_charAt_5068e.cls ≠ "java/lang/invoke/MethodHandle" ∧ yJ0_charAt_5068e.cls ≠ "java/lang/invoke/VarHandle" ∧ (parseMethodDescriptor yJ0_charAt_5068e.desc).map (fun d => d.parameters.length) = some 1 := by decide +kernel
theorem kdV_J0_length_8abf5 : yJ0_length_8abf5.cls = RJ0 ∧ yJ0_length_8abf5.cls ≠ "java/lang/invoke/MethodHandle" ∧ yJ0_length_8abf5.cls ≠ "java/lang/invoke/VarHandle" ∧ (parseMethodDescriptor yJ0_length_8abf5.desc).map (fun d => d.parameters.length) = some 0 := by decide +kernel
set_option maxHeartbeats 4000000 in
set_option maxRecDepth 100000 in
theorem kcJ3_checkIndex_8e157_n (l : Launch) (dC : Nat → ClassId) (dI : Nat → Nat → Nat) (cyB cyI cyJ cyZ cyS : ClassId) (k v t : Nat → Nat) (i n : Int32) (h1 : ¬ i < 0) (h2 : i < n) : pb_K l yJ3_checkIndex_8e157 wsJ3_checkIndex_8e157 rmJ3_checkIndex_8e157 (dC, dI) vwCl (pb_tys cyB cyI cyJ cyZ cyS) (pb_X k v t []) [.int i, .int n, .null] [] [] (some (.int i)) := by
  refine pb_K.ofV (cc := cJ3_checkIndex_8e157) (maxL := 3) (ret := (some .int)) (lv0 := [(0, .int i), (1, .int n), (2, .null)]) (by decide) rfl (Nat.le_of_ble_eq_true rfl) rfl ?_
  intro p e s m below meth c A C hX hr hlk hA
  refine pb_iload_n (pc := 0) C dJ3_checkIndex_8e157_0 rfl 0 rfl ?_
  refine pb_if_lt (pc := 1) (tgt := 9) C dJ3_checkIndex_8e157_1 (by decide) (fun hc => absurd hc h1) (fun _ => ?_)
  refine pb_iload_n (pc := 4) C dJ3_checkIndex_8e157_4 rfl 0 rfl ?_
  refine pb_iload_n (pc := 5) C dJ3_checkIndex_8e157_5 rfl 1 rfl ?_
  refine pb_icmp_lt (pc := 6) (tgt := 16) C dJ3_checkIndex_8e157_6 (by decide) (fun _ => ?_) (fun hc => absurd h2 hc)
  refine pb_iload_n (pc := 16) C dJ3_checkIndex_8e157_16 rfl 0 rfl ?_
  exact pb_iret (pc := 17) C hr hlk hA dJ3_checkIndex_8e157_17
set_option maxHeartbeats 4000000 in
set_option maxRecDepth 100000 in
theorem kcJ3_checkIndex_8e157_r (l : Launch) (dC : Nat → ClassId) (dI : Nat → Nat → Nat) (cyB cyI cyJ cyZ cyS : ClassId) (k v t : Nat → Nat) (i n : Int32) (q : Nat) (h1 : ¬ i < 0) (h2 : i < n) : pb_K l yJ3_checkIndex_8e157 wsJ3_checkIndex_8e157 rmJ3_checkIndex_8e157 (dC, dI) vwCl (pb_tys cyB cyI cyJ cyZ cyS) (pb_X k v t []) [.int i, .int n, (.ref q)] [] [] (some (.int i)) := by
  refine pb_K.ofV (cc := cJ3_checkIndex_8e157) (maxL := 3) (ret := (some .int)) (lv0 := [(0, .int i), (1, .int n), (2, (.ref q))]) (by decide) rfl (Nat.le_of_ble_eq_true rfl) rfl ?_
  intro p e s m below meth c A C hX hr hlk hA
  refine pb_iload_n (pc := 0) C dJ3_checkIndex_8e157_0 rfl 0 rfl ?_
  refine pb_if_lt (pc := 1) (tgt := 9) C dJ3_checkIndex_8e157_1 (by decide) (fun hc => absurd hc h1) (fun _ => ?_)
  refine pb_iload_n (pc := 4) C dJ3_checkIndex_8e157_4 rfl 0 rfl ?_
  refine pb_iload_n (pc := 5) C dJ3_checkIndex_8e157_5 rfl 1 rfl ?_
  refine pb_icmp_lt (pc := 6) (tgt := 16) C dJ3_checkIndex_8e157_6 (by decide) (fun _ => ?_) (fun hc => absurd h2 hc)
  refine pb_iload_n (pc := 16) C dJ3_checkIndex_8e157_16 rfl 0 rfl ?_
  exact pb_iret (pc := 17) C hr hlk hA dJ3_checkIndex_8e157_17
set_option maxHeartbeats 4000000 in
set_option maxRecDepth 100000 in
theorem kcJ0_checkIndex_df160 (l : Launch) (dC : Nat → ClassId) (dI : Nat → Nat → Nat) (cyB cyI cyJ cyZ cyS : ClassId) (k v t : Nat → Nat) (i n : Int32) (h1 : ¬ i < 0) (h2 : i < n) : pb_K l yJ0_checkIndex_df160 wsJ0_checkIndex_df160 rmJ0_checkIndex_df160 (dC, dI) vwCl (pb_tys cyB cyI cyJ cyZ cyS) (pb_X k v t []) [.int i, .int n] [] [] none := by
  refine pb_K.ofV (cc := cJ0_checkIndex_df160) (maxL := 2) (ret := none) (lv0 := [(0, .int i), (1, .int n)]) (by decide) rfl (Nat.le_of_ble_eq_true rfl) rfl ?_
  intro p e s m below meth c A C hX hr hlk hA
  have hE := hX.2
  rw [hA] at hE
  refine pb_iload_n (pc := 0) C dJ0_checkIndex_df160_0 rfl 0 rfl ?_
  refine pb_iload_n (pc := 1) C dJ0_checkIndex_df160_1 rfl 1 rfl ?_
  rcases hE.2.1 with hq | ⟨q, hq⟩
  · refine pb_gets (pc := 2) C hq (List.mem_of_getElem? (i := 1) rfl) rfl dJ0_checkIndex_df160_2 ?_
    refine pb_callS (pc := 5) (n0 := 0) (ws' := []) (rest := []) (st2 := [.int i]) C (kcJ3_checkIndex_8e157_n l dC dI cyB cyI cyJ cyZ cyS k v t i n h1 h2) pb_X_b (pb_X_x hX.1 hE) (va_cwS 3 C.1.2.2.2.2 gJ0_checkIndex_df160_J3_checkIndex_8e157 rfl rfl rfl kdS_J3_checkIndex_8e157 ⟨Nat.le_of_ble_eq_true rfl, Nat.le_of_ble_eq_true rfl⟩) [] [] rfl rfl trivial rfl (by decide +kernel) (adl := []) rfl rfl rfl rfl rfl (Nat.le_of_ble_eq_true rfl) ⟨Nat.le_refl _, Nat.le_refl _⟩ dJ0_checkIndex_df160_5 rfl ?_
    refine pb_pop (pc := 8) C dJ0_checkIndex_df160_8 rfl ?_
    exact pb_vret (pc := 9) C hr hlk hA dJ0_checkIndex_df160_9
  · refine pb_gets (pc := 2) C hq (List.mem_of_getElem? (i := 1) rfl) rfl dJ0_checkIndex_df160_2 ?_
    refine pb_callS (pc := 5) (n0 := 0) (ws' := []) (rest := []) (st2 := [.int i]) C (kcJ3_checkIndex_8e157_r l dC dI cyB cyI cyJ cyZ cyS k v t i n q h1 h2) pb_X_b (pb_X_x hX.1 hE) (va_cwS 3 C.1.2.2.2.2 gJ0_checkIndex_df160_J3_checkIndex_8e157 rfl rfl rfl kdS_J3_checkIndex_8e157 ⟨Nat.le_of_ble_eq_true rfl, Nat.le_of_ble_eq_true rfl⟩) [] [] rfl rfl trivial rfl (by decide +kernel) (adl := []) rfl rfl rfl rfl rfl (Nat.le_of_ble_eq_true rfl) ⟨Nat.le_refl _, Nat.le_refl _⟩ dJ0_checkIndex_df160_5 rfl ?_
    refine pb_pop (pc := 8) C dJ0_checkIndex_df160_8 rfl ?_
    exact pb_vret (pc := 9) C hr hlk hA dJ0_checkIndex_df160_9
theorem pb_chr_ok : ∀ i, i < 4 → ∀ j, j < 4 → ((pb_chr i j &&& 255).toUInt32 % 65536).toInt32 = pb_chr i j ∧ narrow .char (.int (pb_chr i j)) = .int (pb_chr i j) := by decide +kernel
theorem pb_lens_le : ∀ i, i < 4 → pb_lens.getD i 0 ≤ 4 := by decide
theorem pb_ok_lt {j : Int32} {n : Nat} (h : pb_ok j n = true) : ¬ j < 0 ∧ j.toNatClampNeg < n := by
  have h1 : ¬ (j < 0 ∨ n ≤ j.toNatClampNeg) := of_decide_eq_true h
  exact ⟨fun q => h1 (Or.inl q), Nat.not_le.mp fun q => h1 (Or.inr q)⟩
theorem pb_ok_lt32 {j : Int32} {n : Nat} (h : pb_ok j n = true) (hn : n < 2 ^ 31) : j < Int32.ofNat n := by
  obtain ⟨m, hm, rfl⟩ := vp_in_of (pb_in h) hn
  exact nI_lt hm hn
set_option maxHeartbeats 4000000 in
set_option maxRecDepth 100000 in
theorem kcJ1_charAt_3b067 (l : Launch) (dC : Nat → ClassId) (dI : Nat → Nat → Nat) (cyB cyI cyJ cyZ cyS : ClassId) (k v t : Nat → Nat) (i : Nat) (hi : i < 4) (j : Int32) (hj : pb_ok j (pb_lens.getD i 0) = true) : pb_K l yJ1_charAt_3b067 wsJ1_charAt_3b067 rmJ1_charAt_3b067 (dC, dI) vwCl (pb_tys cyB cyI cyJ cyZ cyS) (pb_X k v t []) [.ref (v i), .int j] [] [] (some (.int (pb_chr i j.toNatClampNeg))) := by
  refine pb_K.ofV (cc := cJ1_charAt_3b067) (maxL := 2) (ret := (some .char)) (lv0 := [(0, .ref (v i)), (1, .int j)]) (by decide) rfl (Nat.le_of_ble_eq_true rfl) rfl ?_
  intro p e s m below meth c A C hX hr hlk hA
  have hE := hX.2
  rw [hA] at hE
  have hT : va_T .byte (v i) (pb_lens.getD i 0) (fun j => .int (pb_chr i j)) A s s.heap := (hE.2.2.1.1 i hi).2.2.2
  have hlt := pb_ok_lt hj
  have hle := pb_lens_le i hi
  have ho := pb_chr_ok i hi j.toNatClampNeg (by omega)
  refine pb_iload_n (pc := 0) C dJ1_charAt_3b067_0 rfl 1 rfl ?_
  refine pb_aload_n (pc := 1) C dJ1_charAt_3b067_1 rfl 0 rfl ?_
  refine pb_tlen (pc := 2) C hT rfl dJ1_charAt_3b067_2 ?_
  refine pb_callS (pc := 3) (n0 := 0) (ws' := []) (rest := []) (st2 := []) C (kcJ0_checkIndex_df160 l dC dI cyB cyI cyJ cyZ cyS k v t j (Int32.ofNat (pb_lens.getD i 0)) hlt.1 (pb_ok_lt32 hj (by omega))) pb_X_b (pb_X_x hX.1 hE) (va_cwS 2 C.1.2.2.2.2 gJ1_charAt_3b067_J0_checkIndex_df160 rfl rfl rfl kdS_J0_checkIndex_df160 ⟨Nat.le_of_ble_eq_true rfl, Nat.le_of_ble_eq_true rfl⟩) [] [] rfl rfl trivial rfl (by decide +kernel) (adl := []) rfl rfl rfl rfl rfl (Nat.le_of_ble_eq_true rfl) ⟨Nat.le_refl _, Nat.le_refl _⟩ dJ1_charAt_3b067_3 rfl ?_
  refine pb_aload_n (pc := 6) C dJ1_charAt_3b067_6 rfl 0 rfl ?_
  refine pb_iload_n (pc := 7) C dJ1_charAt_3b067_7 rfl 1 rfl ?_
  refine pb_tb (pc := 8) C hT hj dJ1_charAt_3b067_8 ?_
  refine pb_sipush (v := 255) (pc := 9) C dJ1_charAt_3b067_9 (by decide) ?_
  refine pb_iand (pc := 12) C dJ1_charAt_3b067_12 ?_
  refine pb_i2c (pc := 13) C ho.1 dJ1_charAt_3b067_13 ?_
  exact pb_nret (pc := 14) C hr hlk hA ho.2 dJ1_charAt_3b067_14
set_option maxHeartbeats 4000000 in
set_option maxRecDepth 100000 in
theorem kcJ0_isLatin1_aae02 (l : Launch) (dC : Nat → ClassId) (dI : Nat → Nat → Nat) (cyB cyI cyJ cyZ cyS : ClassId) (k v t : Nat → Nat) (i : Nat) (hi : i < 4) : pb_K l yJ0_isLatin1_aae02 wsJ0_isLatin1_aae02 rmJ0_isLatin1_aae02 (dC, dI) vwCl (pb_tys cyB cyI cyJ cyZ cyS) (pb_X k v t []) [.ref (k i)] [] [] (some (.int 1)) := by
  refine pb_K.ofV (cc := cJ0_isLatin1_aae02) (maxL := 1) (ret := (some .boolean)) (lv0 := [(0, .ref (k i))]) (by decide) rfl (Nat.le_of_ble_eq_true rfl) rfl ?_
  intro p e s m below meth c A C hX hr hlk hA
  have hE := hX.2
  rw [hA] at hE
  refine pb_gets (pc := 0) C hE.1 (List.mem_of_getElem? (i := 1) rfl) rfl dJ0_isLatin1_aae02_0 ?_
  refine pb_if_eq (pc := 3) (tgt := 17) C dJ0_isLatin1_aae02_3 (by decide) (fun hc => absurd hc (by decide)) (fun _ => ?_)
  refine pb_aload_n (pc := 6) C dJ0_isLatin1_aae02_6 rfl 0 rfl ?_
  refine pb_sgetf (pc := 7) C (hE.2.2.1.1 i hi).2.1 (List.mem_of_getElem? (i := 2) rfl) rfl dJ0_isLatin1_aae02_7 ?_
  refine pb_if_ne (pc := 10) (tgt := 17) C dJ0_isLatin1_aae02_10 (by decide) (fun hc => absurd rfl hc) (fun _ => ?_)
  refine pb_iconst (v := 1) (pc := 13) C dJ0_isLatin1_aae02_13 (by decide) ?_
  refine pb_goto (pc := 14) (tgt := 18) C dJ0_isLatin1_aae02_14 (by decide) ?_
  exact pb_zret (pc := 18) C hr hlk hA pb_isB1 dJ0_isLatin1_aae02_18
set_option maxHeartbeats 4000000 in
set_option maxRecDepth 100000 in
theorem kcJ0_coder_7d493 (l : Launch) (dC : Nat → ClassId) (dI : Nat → Nat → Nat) (cyB cyI cyJ cyZ cyS : ClassId) (k v t : Nat → Nat) (i : Nat) (hi : i < 4) : pb_K l yJ0_coder_7d493 wsJ0_coder_7d493 rmJ0_coder_7d493 (dC, dI) vwCl (pb_tys cyB cyI cyJ cyZ cyS) (pb_X k v t []) [.ref (k i)] [] [] (some (.int 0)) := by
  refine pb_K.ofV (cc := cJ0_coder_7d493) (maxL := 1) (ret := (some .byte)) (lv0 := [(0, .ref (k i))]) (by decide) rfl (Nat.le_of_ble_eq_true rfl) rfl ?_
  intro p e s m below meth c A C hX hr hlk hA
  have hE := hX.2
  rw [hA] at hE
  refine pb_gets (pc := 0) C hE.1 (List.mem_of_getElem? (i := 1) rfl) rfl dJ0_coder_7d493_0 ?_
  refine pb_if_eq (pc := 3) (tgt := 13) C dJ0_coder_7d493_3 (by decide) (fun hc => absurd hc (by decide)) (fun _ => ?_)
  refine pb_aload_n (pc := 6) C dJ0_coder_7d493_6 rfl 0 rfl ?_
  refine pb_sgetf (pc := 7) C (hE.2.2.1.1 i hi).2.1 (List.mem_of_getElem? (i := 2) rfl) rfl dJ0_coder_7d493_7 ?_
  refine pb_goto (pc := 10) (tgt := 14) C dJ0_coder_7d493_10 (by decide) ?_
  exact pb_nret (pc := 14) C hr hlk hA rfl dJ0_coder_7d493_14
set_option maxHeartbeats 4000000 in
set_option maxRecDepth 100000 in
theorem kcJ0_charAt_5068e (l : Launch) (dC : Nat → ClassId) (dI : Nat → Nat → Nat) (cyB cyI cyJ cyZ cyS : ClassId) (k v t : Nat → Nat) (i : Nat) (hi : i < 4) (j : Int32) (hj : pb_ok j (pb_lens.getD i 0) = true) : pb_K l yJ0_charAt_5068e wsJ0_charAt_5068e rmJ0_charAt_5068e (dC, dI) vwCl (pb_tys cyB cyI cyJ cyZ cyS) (pb_X k v t []) [.ref (k i), .int j] [] [] (some (.int (pb_chr i j.toNatClampNeg))) := by
  refine pb_K.ofV (cc := cJ0_charAt_5068e) (maxL := 2) (ret := (some .char)) (lv0 := [(0, .ref (k i)), (1, .int j)]) (by decide) rfl (Nat.le_of_ble_eq_true rfl) rfl ?_
  intro p e s m below meth c A C hX hr hlk hA
  have hE := hX.2
  rw [hA] at hE
  have hlt := pb_ok_lt hj
  have hle := pb_lens_le i hi
  have ho := pb_chr_ok i hi j.toNatClampNeg (by omega)
  refine pb_aload_n (pc := 0) C dJ0_charAt_5068e_0 rfl 0 rfl ?_
  refine pb_callVO (pc := 1) (n0 := 0) (ws' := []) (rest := []) (st2 := [.int 1]) C (kcJ0_isLatin1_aae02 l dC dI cyB cyI cyJ cyZ cyS k v t i hi) pb_X_b (pb_X_x hX.1 hE) (cwV 0 C.1.2.2.2.2 gJ0_charAt_5068e_J0_isLatin1_aae02 rfl rfl rfl kdV_J0_isLatin1_aae02 ⟨Nat.le_of_ble_eq_true rfl, Nat.le_of_ble_eq_true rfl⟩) (hE.2.2.1.1 i hi).1 [] [] rfl rfl trivial rfl (by decide +kernel) (adl := []) rfl rfl rfl rfl rfl (Nat.le_of_ble_eq_true rfl) ⟨Nat.le_refl _, Nat.le_refl _⟩ dJ0_charAt_5068e_1 rfl ?_
  refine pb_if_eq (pc := 4) (tgt := 16) C dJ0_charAt_5068e_4 (by decide) (fun hc => absurd hc (by decide)) (fun _ => ?_)
  refine pb_aload_n (pc := 7) C dJ0_charAt_5068e_7 rfl 0 rfl ?_
  refine pb_sgetf (pc := 8) C (hE.2.2.1.1 i hi).2.2.1 (List.mem_of_getElem? (i := 1) rfl) rfl dJ0_charAt_5068e_8 ?_
  refine pb_iload_n (pc := 11) C dJ0_charAt_5068e_11 rfl 1 rfl ?_
  refine pb_callS (pc := 12) (n0 := 0) (ws' := []) (rest := []) (st2 := [.int (pb_chr i j.toNatClampNeg)]) C (kcJ1_charAt_3b067 l dC dI cyB cyI cyJ cyZ cyS k v t i hi j hj) pb_X_b (pb_X_x hX.1 hE) (va_cwS 2 C.1.2.2.2.2 gJ0_charAt_5068e_J1_charAt_3b067 rfl rfl rfl kdS_J1_charAt_3b067 ⟨Nat.le_of_ble_eq_true rfl, Nat.le_of_ble_eq_true rfl⟩) [] [] rfl rfl trivial rfl (by decide +kernel) (adl := []) rfl rfl rfl rfl rfl (Nat.le_of_ble_eq_true rfl) ⟨Nat.le_refl _, Nat.le_refl _⟩ dJ0_charAt_5068e_12 rfl ?_
  exact pb_nret (pc := 15) C hr hlk hA ho.2 dJ0_charAt_5068e_15
set_option maxHeartbeats 4000000 in
set_option maxRecDepth 100000 in
theorem kcJ0_length_8abf5 (l : Launch) (dC : Nat → ClassId) (dI : Nat → Nat → Nat) (cyB cyI cyJ cyZ cyS : ClassId) (k v t : Nat → Nat) (i : Nat) (hi : i < 4) : pb_K l yJ0_length_8abf5 wsJ0_length_8abf5 rmJ0_length_8abf5 (dC, dI) vwCl (pb_tys cyB cyI cyJ cyZ cyS) (pb_X k v t []) [.ref (k i)] [] [] (some (.int (Int32.ofNat (pb_lens.getD i 0)))) := by
  refine pb_K.ofV (cc := cJ0_length_8abf5) (maxL := 1) (ret := (some .int)) (lv0 := [(0, .ref (k i))]) (by decide) rfl (Nat.le_of_ble_eq_true rfl) rfl ?_
  intro p e s m below meth c A C hX hr hlk hA
  have hE := hX.2
  rw [hA] at hE
  refine pb_aload_n (pc := 0) C dJ0_length_8abf5_0 rfl 0 rfl ?_
  refine pb_sgetf (pc := 1) C (hE.2.2.1.1 i hi).2.2.1 (List.mem_of_getElem? (i := 1) rfl) rfl dJ0_length_8abf5_1 ?_
  refine pb_tlen (pc := 4) C (hE.2.2.1.1 i hi).2.2.2 rfl dJ0_length_8abf5_4 ?_
  refine pb_aload_n (pc := 5) C dJ0_length_8abf5_5 rfl 0 rfl ?_
  refine pb_callVO (pc := 6) (n0 := 0) (ws' := []) (rest := [.int (Int32.ofNat (pb_lens.getD i 0))]) (st2 := [.int 0, .int (Int32.ofNat (pb_lens.getD i 0))]) C (kcJ0_coder_7d493 l dC dI cyB cyI cyJ cyZ cyS k v t i hi) pb_X_b (pb_X_x hX.1 hE) (cwV 0 C.1.2.2.2.2 gJ0_length_8abf5_J0_coder_7d493 rfl rfl rfl kdV_J0_coder_7d493 ⟨Nat.le_of_ble_eq_true rfl, Nat.le_of_ble_eq_true rfl⟩) (hE.2.2.1.1 i hi).1 [] [] rfl rfl trivial rfl (by decide +kernel) (adl := []) rfl rfl rfl rfl rfl (Nat.le_of_ble_eq_true rfl) ⟨Nat.le_refl _, Nat.le_refl _⟩ dJ0_length_8abf5_6 rfl ?_
  refine pb_ishr (pc := 9) C dJ0_length_8abf5_9 ?_
  refine pb_topi (sb_shr0 _) ?_
  exact pb_iret (pc := 10) C hr hlk hA dJ0_length_8abf5_10
