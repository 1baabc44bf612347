set_option maxHeartbeats 4000000 in
theorem st_chance {c_x_refusedBad : Int32} {c_x_refusedNo : Int32} {c_x_refusedFull : Int32} {c_x_now_steps : Int32} {c_x_now_laws_size : Int32} {c_x_now_laws_cells : (Nat → Int32)} {c_x_now_finds_size : Int32} {c_x_now_finds_cells : (Nat → Int32)} {c_x_now_bets_size : Int32} {c_x_now_bets_cells : (Nat → Int32)} {c_x_now_prices_size : Int32} {c_x_now_prices_cells : (Nat → Int32)} {c_x_now_stepCells : (Nat → Int32)} {c_x_now_stepSizes : (Nat → Int32)} {c_x_draft_steps : Int32} {c_x_draft_laws_size : Int32} {c_x_draft_laws_cells : (Nat → Int32)} {c_x_draft_finds_size : Int32} {c_x_draft_finds_cells : (Nat → Int32)} {c_x_draft_bets_size : Int32} {c_x_draft_bets_cells : (Nat → Int32)} {c_x_draft_prices_size : Int32} {c_x_draft_prices_cells : (Nat → Int32)} {c_x_draft_stepCells : (Nat → Int32)} {c_x_draft_stepSizes : (Nat → Int32)} {c_x_im0_steps : Int32} {c_x_im0_laws_size : Int32} {c_x_im0_laws_cells : (Nat → Int32)} {c_x_im0_finds_size : Int32} {c_x_im0_finds_cells : (Nat → Int32)} {c_x_im0_bets_size : Int32} {c_x_im0_bets_cells : (Nat → Int32)} {c_x_im0_prices_size : Int32} {c_x_im0_prices_cells : (Nat → Int32)} {c_x_im0_stepCells : (Nat → Int32)} {c_x_im0_stepSizes : (Nat → Int32)} {c_x_im1_steps : Int32} {c_x_im1_laws_size : Int32} {c_x_im1_laws_cells : (Nat → Int32)} {c_x_im1_finds_size : Int32} {c_x_im1_finds_cells : (Nat → Int32)} {c_x_im1_bets_size : Int32} {c_x_im1_bets_cells : (Nat → Int32)} {c_x_im1_prices_size : Int32} {c_x_im1_prices_cells : (Nat → Int32)} {c_x_im1_stepCells : (Nat → Int32)} {c_x_im1_stepSizes : (Nat → Int32)} {c_x_kept : (Nat → Int32)} {c_x_pasts_total : Int64} {c_x_pasts_stale : Int32} {c_x_pasts_open : (Nat → Int32)} {c_x_pasts_weight : (Nat → Int64)} {c_x_ledger_heldCount : Int32} {c_x_ledger_worstBook : Int32} {c_x_ledger_worstPast : Int32} {c_x_ledger_sureSet : Int32} {c_x_ledger_sureWin : Int32} {c_x_ledger_seenSet : (Nat → Int32)} {c_x_ledger_heldSets : (Nat → Int32)} {c_x_ledger_pays : (Nat → Int32)} {c_x_ledger_stakes : (Nat → Int32)} {c_x_settling_leftCount : Int32} {c_x_settling_x : Int64} {c_x_settling_left : (Nat → Int32)} {c_x_reader_size : Int32} {c_x_reader_place : Int32} {c_x_reader_behind : Int32} {c_x_reader_sort : Int32} {c_x_reader_bytes : (Nat → Int32)} {c_x_reader_numbers : (Nat → Int32)} {c_x_fraction_above : Int64} {c_x_fraction_below : Int64} {c_m_texted : Int32} {c_m_above : Int64} {c_m_below : Int64} {c_m_at : Int32} {c_m_start : Int32} {c_m_isWord : Int32} {c_m_isFigures : Int32} {c_m_all : Int64} {c_m_known : Int32} {c_m_truth : Int32} {c_m_x : Int64} {c_m_h : Int64} {c_m_w : (Nat → Int32)} {c_m_isKept : (Nat → Int32)} {c_m_text : (Nat → Int32)} {c_m_refused : (Nat → Int32)} {c_m_numbers : (Nat → Int32)} {c_m_weights : (Nat → Int64)} (h : pb_R c_x_refusedBad c_x_refusedNo c_x_refusedFull c_x_now_steps c_x_now_laws_size c_x_now_laws_cells c_x_now_finds_size c_x_now_finds_cells c_x_now_bets_size c_x_now_bets_cells c_x_now_prices_size c_x_now_prices_cells c_x_now_stepCells c_x_now_stepSizes c_x_draft_steps c_x_draft_laws_size c_x_draft_laws_cells c_x_draft_finds_size c_x_draft_finds_cells c_x_draft_bets_size c_x_draft_bets_cells c_x_draft_prices_size c_x_draft_prices_cells c_x_draft_stepCells c_x_draft_stepSizes c_x_im0_steps c_x_im0_laws_size c_x_im0_laws_cells c_x_im0_finds_size c_x_im0_finds_cells c_x_im0_bets_size c_x_im0_bets_cells c_x_im0_prices_size c_x_im0_prices_cells c_x_im0_stepCells c_x_im0_stepSizes c_x_im1_steps c_x_im1_laws_size c_x_im1_laws_cells c_x_im1_finds_size c_x_im1_finds_cells c_x_im1_bets_size c_x_im1_bets_cells c_x_im1_prices_size c_x_im1_prices_cells c_x_im1_stepCells c_x_im1_stepSizes c_x_kept c_x_pasts_total c_x_pasts_stale c_x_pasts_open c_x_pasts_weight c_x_ledger_heldCount c_x_ledger_worstBook c_x_ledger_worstPast c_x_ledger_sureSet c_x_ledger_sureWin c_x_ledger_seenSet c_x_ledger_heldSets c_x_ledger_pays c_x_ledger_stakes c_x_settling_leftCount c_x_settling_x c_x_settling_left c_x_reader_size c_x_reader_place c_x_reader_behind c_x_reader_sort c_x_reader_bytes c_x_reader_numbers c_x_fraction_above c_x_fraction_below c_m_texted c_m_above c_m_below c_m_at c_m_start c_m_isWord c_m_isFigures c_m_all c_m_known c_m_truth c_m_x c_m_h c_m_w c_m_isKept c_m_text c_m_refused c_m_numbers c_m_weights) (p1 : Int32) (p2 : Int32) (p3 : Int32) : ∃ (oc : (Int32 × Int32 × Int32 × Int64 × Int32 × (Nat → Int32) × (Nat → Int64) × Int64 × Int64)) (om : (Int32 × Int64 × Int64 × Int64 × (Nat → Int32) × (Nat → Int64))), fX7_chance c_x_refusedBad c_x_refusedNo c_x_now_laws_size c_x_now_laws_cells c_x_now_finds_size c_x_now_finds_cells c_x_pasts_total c_x_pasts_stale c_x_pasts_open c_x_pasts_weight c_x_fraction_above c_x_fraction_below p1 p2 p3 = some oc ∧ fX8_chance c_m_above c_m_below c_m_all c_m_w c_m_refused c_m_weights p1 p2 p3 = some om ∧ oc.1 = om.1 ∧ pb_R oc.2.1 oc.2.2.1 c_x_refusedFull c_x_now_steps c_x_now_laws_size c_x_now_laws_cells c_x_now_finds_size c_x_now_finds_cells c_x_now_bets_size c_x_now_bets_cells c_x_now_prices_size c_x_now_prices_cells c_x_now_stepCells c_x_now_stepSizes c_x_draft_steps c_x_draft_laws_size c_x_draft_laws_cells c_x_draft_finds_size c_x_draft_finds_cells c_x_draft_bets_size c_x_draft_bets_cells c_x_draft_prices_size c_x_draft_prices_cells c_x_draft_stepCells c_x_draft_stepSizes c_x_im0_steps c_x_im0_laws_size c_x_im0_laws_cells c_x_im0_finds_size c_x_im0_finds_cells c_x_im0_bets_size c_x_im0_bets_cells c_x_im0_prices_size c_x_im0_prices_cells c_x_im0_stepCells c_x_im0_stepSizes c_x_im1_steps c_x_im1_laws_size c_x_im1_laws_cells c_x_im1_finds_size c_x_im1_finds_cells c_x_im1_bets_size c_x_im1_bets_cells c_x_im1_prices_size c_x_im1_prices_cells c_x_im1_stepCells c_x_im1_stepSizes c_x_kept oc.2.2.2.1 oc.2.2.2.2.1 oc.2.2.2.2.2.1 oc.2.2.2.2.2.2.1 c_x_ledger_heldCount c_x_ledger_worstBook c_x_ledger_worstPast c_x_ledger_sureSet c_x_ledger_sureWin c_x_ledger_seenSet c_x_ledger_heldSets c_x_ledger_pays c_x_ledger_stakes c_x_settling_leftCount c_x_settling_x c_x_settling_left c_x_reader_size c_x_reader_place c_x_reader_behind c_x_reader_sort c_x_reader_bytes c_x_reader_numbers oc.2.2.2.2.2.2.2.1 oc.2.2.2.2.2.2.2.2 c_m_texted om.2.1 om.2.2.1 c_m_at c_m_start c_m_isWord c_m_isFigures om.2.2.2.1 c_m_known c_m_truth c_m_x c_m_h c_m_w c_m_isKept c_m_text om.2.2.2.2.1 c_m_numbers om.2.2.2.2.2 := by
  -- group g
  obtain ⟨hN, hI0, hI1, hk, hT, hF, hB, hP⟩ := id h
  obtain ⟨nl, nf, nb, np, ns, ⟨b1, b2, b3, b4, b5⟩, ⟨rfl, rfl, rfl, rfl, rfl⟩, ⟨w0, w1, w2, w3, w4⟩, ⟨lo, le⟩, ⟨fo, fe⟩, _⟩ := id hN
  unfold fX7_chance fX8_chance
  rw [fX7_isClaim_eq, fX8_isClaim_eq, Option.bind_some, Option.bind_some]
  by_cases h1 : pb_vC p1 p2 p3 = true
  case neg =>
    rw [Bool.not_eq_true] at h1
    rw [h1, pb_bI_f, if_pos rfl, if_pos rfl, fX8_bad_eq, fX7_asBad_eq]
    exact ⟨_, _, rfl, rfl, rfl, pb_R_bad h⟩
  obtain ⟨⟨k, hk6, rfl⟩, ⟨a, ha, rfl⟩, ⟨b, hb, rfl⟩⟩ := pb_vC_lt h1
  obtain ⟨t', O', W', e, hf⟩ := fX7_weighed_eq b1 b2 lo fo hP
  obtain ⟨hf1, hf2, rfl⟩ := id hf
  have hnn := fun q => pb_wt_nn (lc := c_x_now_laws_cells) (nl := nl) b2 fo q
  rw [h1, pb_bI_t, if_neg pb_ne10, if_neg pb_ne10, e, fX8_fits_eq c_m_all c_m_weights w0 w1 b1 b2 lo le fo fe, Option.bind_some, Option.bind_some, fX2_fits_eq, Option.bind_some]
  by_cases hs : pb_sum (pb_wt c_x_now_laws_cells nl c_x_now_finds_cells nf) 128 ≤ 0
  · rw [decide_eq_true hs]
    exact ⟨_, _, rfl, rfl, rfl, pb_R_no ⟨hN, hI0, hI1, hk, hT, hF, hB, pb_Fr_Pa b1 b2 hf⟩⟩
  · rw [decide_eq_false hs, show (!false) = true from rfl, pb_bI_t, if_neg pb_ne10]
    rw [if_neg (show ¬ ((1 : Int32), pb_sum (pb_wt c_x_now_laws_cells nl c_x_now_finds_cells nf) 128, pb_fill (pb_wt c_x_now_laws_cells nl c_x_now_finds_cells nf) c_m_weights 128).1 = 0 from pb_ne10)]
    have e1 := fX2_held_eq hk6 ha hb hf2 hnn
    have e2 := fX8_weightOf_eq (W := pb_fill (pb_wt c_x_now_laws_cells nl c_x_now_finds_cells nf) c_m_weights 128) hk6 ha hb pb_fill_in
    obtain ⟨s1, hs1, es1, _⟩ := pb_sum_nn (n := 128) (fun q _ => pb_held_nn (k := k) (a := a) (b := b) hnn q)
    obtain ⟨s2, hs2, es2, _⟩ := pb_sum_nn (n := 128) (fun q _ => hnn q)
    have h2 : 0 < s2 := by
      rcases Nat.eq_zero_or_pos s2 with h0 | h0
      · exact absurd ((pb_nn_0 es2 (by omega)).mpr h0) hs
      · exact h0
    obtain ⟨u, v, e3, e4⟩ := fX_put_tells (a := c_m_above) (b := c_m_below) (c := c_m_above) (d := c_m_below) (show s1 < 2 ^ 63 by omega) (show s2 < 2 ^ 63 by omega) h2 (pb_oN_abs (by omega)).1 (pb_oN_abs (by omega)).2
    obtain ⟨rfl, rfl⟩ := id hF
    rw [e1, e2, es1, es2, Option.bind_some, Option.bind_some, e3, e4, Option.bind_some, Option.bind_some]
    rw [es2] at hf
    exact ⟨_, _, rfl, rfl, rfl, hN, hI0, hI1, hk, hT, ⟨rfl, rfl⟩, hB, pb_Fr_Pa b1 b2 hf⟩
set_option maxHeartbeats 4000000 in
theorem st_ifFound {c_x_refusedBad : Int32} {c_x_refusedNo : Int32} {c_x_refusedFull : Int32} {c_x_now_steps : Int32} {c_x_now_laws_size : Int32} {c_x_now_laws_cells : (Nat → Int32)} {c_x_now_finds_size : Int32} {c_x_now_finds_cells : (Nat → Int32)} {c_x_now_bets_size : Int32} {c_x_now_bets_cells : (Nat → Int32)} {c_x_now_prices_size : Int32} {c_x_now_prices_cells : (Nat → Int32)} {c_x_now_stepCells : (Nat → Int32)} {c_x_now_stepSizes : (Nat → Int32)} {c_x_draft_steps : Int32} {c_x_draft_laws_size : Int32} {c_x_draft_laws_cells : (Nat → Int32)} {c_x_draft_finds_size : Int32} {c_x_draft_finds_cells : (Nat → Int32)} {c_x_draft_bets_size : Int32} {c_x_draft_bets_cells : (Nat → Int32)} {c_x_draft_prices_size : Int32} {c_x_draft_prices_cells : (Nat → Int32)} {c_x_draft_stepCells : (Nat → Int32)} {c_x_draft_stepSizes : (Nat → Int32)} {c_x_im0_steps : Int32} {c_x_im0_laws_size : Int32} {c_x_im0_laws_cells : (Nat → Int32)} {c_x_im0_finds_size : Int32} {c_x_im0_finds_cells : (Nat → Int32)} {c_x_im0_bets_size : Int32} {c_x_im0_bets_cells : (Nat → Int32)} {c_x_im0_prices_size : Int32} {c_x_im0_prices_cells : (Nat → Int32)} {c_x_im0_stepCells : (Nat → Int32)} {c_x_im0_stepSizes : (Nat → Int32)} {c_x_im1_steps : Int32} {c_x_im1_laws_size : Int32} {c_x_im1_laws_cells : (Nat → Int32)} {c_x_im1_finds_size : Int32} {c_x_im1_finds_cells : (Nat → Int32)} {c_x_im1_bets_size : Int32} {c_x_im1_bets_cells : (Nat → Int32)} {c_x_im1_prices_size : Int32} {c_x_im1_prices_cells : (Nat → Int32)} {c_x_im1_stepCells : (Nat → Int32)} {c_x_im1_stepSizes : (Nat → Int32)} {c_x_kept : (Nat → Int32)} {c_x_pasts_total : Int64} {c_x_pasts_stale : Int32} {c_x_pasts_open : (Nat → Int32)} {c_x_pasts_weight : (Nat → Int64)} {c_x_ledger_heldCount : Int32} {c_x_ledger_worstBook : Int32} {c_x_ledger_worstPast : Int32} {c_x_ledger_sureSet : Int32} {c_x_ledger_sureWin : Int32} {c_x_ledger_seenSet : (Nat → Int32)} {c_x_ledger_heldSets : (Nat → Int32)} {c_x_ledger_pays : (Nat → Int32)} {c_x_ledger_stakes : (Nat → Int32)} {c_x_settling_leftCount : Int32} {c_x_settling_x : Int64} {c_x_settling_left : (Nat → Int32)} {c_x_reader_size : Int32} {c_x_reader_place : Int32} {c_x_reader_behind : Int32} {c_x_reader_sort : Int32} {c_x_reader_bytes : (Nat → Int32)} {c_x_reader_numbers : (Nat → Int32)} {c_x_fraction_above : Int64} {c_x_fraction_below : Int64} {c_m_texted : Int32} {c_m_above : Int64} {c_m_below : Int64} {c_m_at : Int32} {c_m_start : Int32} {c_m_isWord : Int32} {c_m_isFigures : Int32} {c_m_all : Int64} {c_m_known : Int32} {c_m_truth : Int32} {c_m_x : Int64} {c_m_h : Int64} {c_m_w : (Nat → Int32)} {c_m_isKept : (Nat → Int32)} {c_m_text : (Nat → Int32)} {c_m_refused : (Nat → Int32)} {c_m_numbers : (Nat → Int32)} {c_m_weights : (Nat → Int64)} (h : pb_R c_x_refusedBad c_x_refusedNo c_x_refusedFull c_x_now_steps c_x_now_laws_size c_x_now_laws_cells c_x_now_finds_size c_x_now_finds_cells c_x_now_bets_size c_x_now_bets_cells c_x_now_prices_size c_x_now_prices_cells c_x_now_stepCells c_x_now_stepSizes c_x_draft_steps c_x_draft_laws_size c_x_draft_laws_cells c_x_draft_finds_size c_x_draft_finds_cells c_x_draft_bets_size c_x_draft_bets_cells c_x_draft_prices_size c_x_draft_prices_cells c_x_draft_stepCells c_x_draft_stepSizes c_x_im0_steps c_x_im0_laws_size c_x_im0_laws_cells c_x_im0_finds_size c_x_im0_finds_cells c_x_im0_bets_size c_x_im0_bets_cells c_x_im0_prices_size c_x_im0_prices_cells c_x_im0_stepCells c_x_im0_stepSizes c_x_im1_steps c_x_im1_laws_size c_x_im1_laws_cells c_x_im1_finds_size c_x_im1_finds_cells c_x_im1_bets_size c_x_im1_bets_cells c_x_im1_prices_size c_x_im1_prices_cells c_x_im1_stepCells c_x_im1_stepSizes c_x_kept c_x_pasts_total c_x_pasts_stale c_x_pasts_open c_x_pasts_weight c_x_ledger_heldCount c_x_ledger_worstBook c_x_ledger_worstPast c_x_ledger_sureSet c_x_ledger_sureWin c_x_ledger_seenSet c_x_ledger_heldSets c_x_ledger_pays c_x_ledger_stakes c_x_settling_leftCount c_x_settling_x c_x_settling_left c_x_reader_size c_x_reader_place c_x_reader_behind c_x_reader_sort c_x_reader_bytes c_x_reader_numbers c_x_fraction_above c_x_fraction_below c_m_texted c_m_above c_m_below c_m_at c_m_start c_m_isWord c_m_isFigures c_m_all c_m_known c_m_truth c_m_x c_m_h c_m_w c_m_isKept c_m_text c_m_refused c_m_numbers c_m_weights) (p1 : Int32) (p2 : Int32) (p3 : Int32) (p4 : Int32) (p5 : Int32) (p6 : Int32) : ∃ (oc : (Int32 × Int32 × Int32 × Int64 × Int32 × (Nat → Int32) × (Nat → Int64) × Int64 × Int64)) (om : (Int32 × Int64 × Int64 × Int64 × (Nat → Int32) × (Nat → Int64))), fX7_ifFound c_x_refusedBad c_x_refusedNo c_x_now_laws_size c_x_now_laws_cells c_x_now_finds_size c_x_now_finds_cells c_x_pasts_total c_x_pasts_stale c_x_pasts_open c_x_pasts_weight c_x_fraction_above c_x_fraction_below p1 p2 p3 p4 p5 p6 = some oc ∧ fX8_ifFound c_m_above c_m_below c_m_all c_m_w c_m_refused c_m_weights p1 p2 p3 p4 p5 p6 = some om ∧ oc.1 = om.1 ∧ pb_R oc.2.1 oc.2.2.1 c_x_refusedFull c_x_now_steps c_x_now_laws_size c_x_now_laws_cells c_x_now_finds_size c_x_now_finds_cells c_x_now_bets_size c_x_now_bets_cells c_x_now_prices_size c_x_now_prices_cells c_x_now_stepCells c_x_now_stepSizes c_x_draft_steps c_x_draft_laws_size c_x_draft_laws_cells c_x_draft_finds_size c_x_draft_finds_cells c_x_draft_bets_size c_x_draft_bets_cells c_x_draft_prices_size c_x_draft_prices_cells c_x_draft_stepCells c_x_draft_stepSizes c_x_im0_steps c_x_im0_laws_size c_x_im0_laws_cells c_x_im0_finds_size c_x_im0_finds_cells c_x_im0_bets_size c_x_im0_bets_cells c_x_im0_prices_size c_x_im0_prices_cells c_x_im0_stepCells c_x_im0_stepSizes c_x_im1_steps c_x_im1_laws_size c_x_im1_laws_cells c_x_im1_finds_size c_x_im1_finds_cells c_x_im1_bets_size c_x_im1_bets_cells c_x_im1_prices_size c_x_im1_prices_cells c_x_im1_stepCells c_x_im1_stepSizes c_x_kept oc.2.2.2.1 oc.2.2.2.2.1 oc.2.2.2.2.2.1 oc.2.2.2.2.2.2.1 c_x_ledger_heldCount c_x_ledger_worstBook c_x_ledger_worstPast c_x_ledger_sureSet c_x_ledger_sureWin c_x_ledger_seenSet c_x_ledger_heldSets c_x_ledger_pays c_x_ledger_stakes c_x_settling_leftCount c_x_settling_x c_x_settling_left c_x_reader_size c_x_reader_place c_x_reader_behind c_x_reader_sort c_x_reader_bytes c_x_reader_numbers oc.2.2.2.2.2.2.2.1 oc.2.2.2.2.2.2.2.2 c_m_texted om.2.1 om.2.2.1 c_m_at c_m_start c_m_isWord c_m_isFigures om.2.2.2.1 c_m_known c_m_truth c_m_x c_m_h c_m_w c_m_isKept c_m_text om.2.2.2.2.1 c_m_numbers om.2.2.2.2.2 := by
  -- group g
  obtain ⟨hN, hI0, hI1, hk, hT, hF, hB, hP⟩ := id h
  obtain ⟨nl, nf, nb, np, ns, ⟨b1, b2, b3, b4, b5⟩, ⟨rfl, rfl, rfl, rfl, rfl⟩, ⟨w0, w1, w2, w3, w4⟩, ⟨lo, le⟩, ⟨fo, fe⟩, _⟩ := id hN
  unfold fX7_ifFound fX8_ifFound
  rw [fX7_isClaim_eq, fX8_isClaim_eq, Option.bind_some, Option.bind_some]
  by_cases h1 : pb_vC p1 p2 p3 = true
  case neg =>
    rw [Bool.not_eq_true] at h1
    rw [h1, pb_bI_f, if_pos rfl, if_pos rfl, fX8_bad_eq, fX7_asBad_eq]
    exact ⟨_, _, rfl, rfl, rfl, pb_R_bad h⟩
  rw [h1, pb_bI_t, if_neg pb_ne10, if_neg pb_ne10, fX7_isFind_eq, fX8_isFind_eq, Option.bind_some, Option.bind_some]
  by_cases h2 : pb_vF p4 p5 p6 = true
  case neg =>
    rw [Bool.not_eq_true] at h2
    rw [h2, pb_bI_f, if_pos rfl, if_pos rfl, fX8_bad_eq, fX7_asBad_eq]
    exact ⟨_, _, rfl, rfl, rfl, pb_R_bad h⟩
  obtain ⟨⟨k, hk6, rfl⟩, ⟨a, ha, rfl⟩, ⟨b, hb, rfl⟩⟩ := pb_vC_lt h1
  obtain ⟨⟨f, hf7, rfl⟩, ⟨vv, hvv, rfl⟩, ⟨r, hr, rfl⟩⟩ := pb_vF_lt h2
  obtain ⟨t', O', W', e, hf⟩ := fX7_weighed_eq b1 b2 lo fo hP
  obtain ⟨hf1, hf2, rfl⟩ := id hf
  have hnn := fun q => pb_wt_nn (lc := c_x_now_laws_cells) (nl := nl) b2 fo q
  generalize hVV : pb_wt c_x_now_laws_cells nl c_x_now_finds_cells nf = V at hnn hf2 hf e
  have hn2 := fun q => pb_V2_nn (a := f) (v := nI vv) hr hnn q
  obtain ⟨s2, hs2, es2, hz2⟩ := pb_sum_nn (n := 128) (fun q _ => hn2 q)
  have et := fX2_totalIf_eq (v := nI vv) (r := nI r) hf7 hf2
  have efit := fX8_fits_eq c_m_all c_m_weights w0 w1 b1 b2 lo le fo fe
  rw [hVV] at efit
  rw [h2, pb_bI_t, if_neg pb_ne10, if_neg pb_ne10, e, efit, Option.bind_some, Option.bind_some, et, Option.bind_some]
  by_cases hs : pb_sum V 128 ≤ 0
  · have hz : ¬ (0 : Int64) < pb_sum (pb_V2 V f (nI vv) (nI r)) 128 := by
      rw [Int64.not_lt, pb_nn_0 es2 (by omega), hz2 (by omega)]
      intro q hq
      have ht := pb_tot (lc := c_x_now_laws_cells) (nl := nl) b2 fo
      rw [hVV] at ht
      unfold pb_V2
      rw [pb_nn_le0 (hnn q) (by omega) (ht.mp hs q hq), Int64.zero_mul]
      exact Int64.le_refl _
    rw [decide_eq_true hs, if_neg hz]
    exact ⟨_, _, rfl, rfl, rfl, pb_R_no ⟨hN, hI0, hI1, hk, hT, hF, hB, pb_Fr_Pa b1 b2 hf⟩⟩
  · rw [decide_eq_false hs, show (!false) = true from rfl, pb_bI_t]
    rw [if_neg (show ¬ ((1 : Int32), pb_sum V 128, pb_fill V c_m_weights 128).1 = 0 from pb_ne10), fX8_ifFound_loop (V := V) (W := pb_fill V c_m_weights 128) hf7 pb_fill_in, Option.bind_some]
    unfold fX8_ifFound_E46
    by_cases hp : pb_sum (pb_V2 V f (nI vv) (nI r)) 128 ≤ 0
    · rw [if_neg (Int64.not_lt.mpr hp), if_pos hp]
      exact ⟨_, _, rfl, rfl, rfl, pb_R_no ⟨hN, hI0, hI1, hk, hT, hF, hB, pb_Fr_Pa b1 b2 hf⟩⟩
    · rw [if_pos (Int64.not_le.mp hp), if_neg hp]
      have e1 := fX2_heldIf_eq (v := nI vv) (r := nI r) hk6 ha hb hf7 hf2 hnn
      have e2 := fX8_weightOf_eq (V := pb_V2 V f (nI vv) (nI r)) (W := pb_fill (pb_V2 V f (nI vv) (nI r)) (pb_fill V c_m_weights 128) 128) hk6 ha hb pb_fill_in
      obtain ⟨s1, hs1, es1, _⟩ := pb_sum_nn (n := 128) (fun q _ => pb_held_nn (k := k) (a := a) (b := b) hn2 q)
      have h3 : 0 < s2 := by
        rcases Nat.eq_zero_or_pos s2 with h0 | h0
        · exact absurd ((pb_nn_0 es2 (by omega)).mpr h0) hp
        · exact h0
      obtain ⟨u, v, e3, e4⟩ := fX_put_tells (a := c_m_above) (b := c_m_below) (c := c_m_above) (d := c_m_below) (show s1 < 2 ^ 63 by omega) (show s2 < 2 ^ 63 by omega) h3 (pb_oN_abs (by omega)).1 (pb_oN_abs (by omega)).2
      obtain ⟨rfl, rfl⟩ := id hF
      rw [e1, e2, es1, es2, Option.bind_some, Option.bind_some, e3, e4, Option.bind_some, Option.bind_some]
      exact ⟨_, _, rfl, rfl, rfl, hN, hI0, hI1, hk, hT, ⟨rfl, rfl⟩, hB, pb_Fr_Pa b1 b2 hf⟩
