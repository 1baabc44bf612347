set_option maxHeartbeats 4000000 in
theorem st_days {c_x_refusedBad : Int32} {c_x_refusedNo : Int32} {c_x_refusedFull : Int32} {c_x_now_steps : Int32} {c_x_now_laws_size : Int32} {c_x_now_laws_cells : (Nat → Int32)} {c_x_now_finds_size : Int32} {c_x_now_finds_cells : (Nat → Int32)} {c_x_now_bets_size : Int32} {c_x_now_bets_cells : (Nat → Int32)} {c_x_now_prices_size : Int32} {c_x_now_prices_cells : (Nat → Int32)} {c_x_now_stepCells : (Nat → Int32)} {c_x_now_stepSizes : (Nat → Int32)} {c_x_draft_steps : Int32} {c_x_draft_laws_size : Int32} {c_x_draft_laws_cells : (Nat → Int32)} {c_x_draft_finds_size : Int32} {c_x_draft_finds_cells : (Nat → Int32)} {c_x_draft_bets_size : Int32} {c_x_draft_bets_cells : (Nat → Int32)} {c_x_draft_prices_size : Int32} {c_x_draft_prices_cells : (Nat → Int32)} {c_x_draft_stepCells : (Nat → Int32)} {c_x_draft_stepSizes : (Nat → Int32)} {c_x_im0_steps : Int32} {c_x_im0_laws_size : Int32} {c_x_im0_laws_cells : (Nat → Int32)} {c_x_im0_finds_size : Int32} {c_x_im0_finds_cells : (Nat → Int32)} {c_x_im0_bets_size : Int32} {c_x_im0_bets_cells : (Nat → Int32)} {c_x_im0_prices_size : Int32} {c_x_im0_prices_cells : (Nat → Int32)} {c_x_im0_stepCells : (Nat → Int32)} {c_x_im0_stepSizes : (Nat → Int32)} {c_x_im1_steps : Int32} {c_x_im1_laws_size : Int32} {c_x_im1_laws_cells : (Nat → Int32)} {c_x_im1_finds_size : Int32} {c_x_im1_finds_cells : (Nat → Int32)} {c_x_im1_bets_size : Int32} {c_x_im1_bets_cells : (Nat → Int32)} {c_x_im1_prices_size : Int32} {c_x_im1_prices_cells : (Nat → Int32)} {c_x_im1_stepCells : (Nat → Int32)} {c_x_im1_stepSizes : (Nat → Int32)} {c_x_kept : (Nat → Int32)} {c_x_pasts_total : Int64} {c_x_pasts_stale : Int32} {c_x_pasts_open : (Nat → Int32)} {c_x_pasts_weight : (Nat → Int64)} {c_x_ledger_heldCount : Int32} {c_x_ledger_worstBook : Int32} {c_x_ledger_worstPast : Int32} {c_x_ledger_sureSet : Int32} {c_x_ledger_sureWin : Int32} {c_x_ledger_seenSet : (Nat → Int32)} {c_x_ledger_heldSets : (Nat → Int32)} {c_x_ledger_pays : (Nat → Int32)} {c_x_ledger_stakes : (Nat → Int32)} {c_x_settling_leftCount : Int32} {c_x_settling_x : Int64} {c_x_settling_left : (Nat → Int32)} {c_x_reader_size : Int32} {c_x_reader_place : Int32} {c_x_reader_behind : Int32} {c_x_reader_sort : Int32} {c_x_reader_bytes : (Nat → Int32)} {c_x_reader_numbers : (Nat → Int32)} {c_x_fraction_above : Int64} {c_x_fraction_below : Int64} {c_m_texted : Int32} {c_m_above : Int64} {c_m_below : Int64} {c_m_at : Int32} {c_m_start : Int32} {c_m_isWord : Int32} {c_m_isFigures : Int32} {c_m_all : Int64} {c_m_known : Int32} {c_m_truth : Int32} {c_m_x : Int64} {c_m_h : Int64} {c_m_w : (Nat → Int32)} {c_m_isKept : (Nat → Int32)} {c_m_text : (Nat → Int32)} {c_m_refused : (Nat → Int32)} {c_m_numbers : (Nat → Int32)} {c_m_weights : (Nat → Int64)} (h : pb_R c_x_refusedBad c_x_refusedNo c_x_refusedFull c_x_now_steps c_x_now_laws_size c_x_now_laws_cells c_x_now_finds_size c_x_now_finds_cells c_x_now_bets_size c_x_now_bets_cells c_x_now_prices_size c_x_now_prices_cells c_x_now_stepCells c_x_now_stepSizes c_x_draft_steps c_x_draft_laws_size c_x_draft_laws_cells c_x_draft_finds_size c_x_draft_finds_cells c_x_draft_bets_size c_x_draft_bets_cells c_x_draft_prices_size c_x_draft_prices_cells c_x_draft_stepCells c_x_draft_stepSizes c_x_im0_steps c_x_im0_laws_size c_x_im0_laws_cells c_x_im0_finds_size c_x_im0_finds_cells c_x_im0_bets_size c_x_im0_bets_cells c_x_im0_prices_size c_x_im0_prices_cells c_x_im0_stepCells c_x_im0_stepSizes c_x_im1_steps c_x_im1_laws_size c_x_im1_laws_cells c_x_im1_finds_size c_x_im1_finds_cells c_x_im1_bets_size c_x_im1_bets_cells c_x_im1_prices_size c_x_im1_prices_cells c_x_im1_stepCells c_x_im1_stepSizes c_x_kept c_x_pasts_total c_x_pasts_stale c_x_pasts_open c_x_pasts_weight c_x_ledger_heldCount c_x_ledger_worstBook c_x_ledger_worstPast c_x_ledger_sureSet c_x_ledger_sureWin c_x_ledger_seenSet c_x_ledger_heldSets c_x_ledger_pays c_x_ledger_stakes c_x_settling_leftCount c_x_settling_x c_x_settling_left c_x_reader_size c_x_reader_place c_x_reader_behind c_x_reader_sort c_x_reader_bytes c_x_reader_numbers c_x_fraction_above c_x_fraction_below c_m_texted c_m_above c_m_below c_m_at c_m_start c_m_isWord c_m_isFigures c_m_all c_m_known c_m_truth c_m_x c_m_h c_m_w c_m_isKept c_m_text c_m_refused c_m_numbers c_m_weights) (p1 : Int32) (p2 : Int32) (p3 : Int32) (p4 : Int32) (p5 : Int32) : ∃ (oc : (Int32 × Int32 × Int32 × Int64 × Int32 × (Nat → Int32) × (Nat → Int64) × Int32 × Int64 × (Nat → Int32) × Int64 × Int64)) (om : (Int32 × Int64 × Int64 × Int64 × Int32 × Int32 × Int64 × (Nat → Int32) × (Nat → Int64))), fX7_days c_x_refusedBad c_x_refusedNo c_x_now_laws_size c_x_now_laws_cells c_x_now_finds_size c_x_now_finds_cells c_x_pasts_total c_x_pasts_stale c_x_pasts_open c_x_pasts_weight c_x_settling_leftCount c_x_settling_x c_x_settling_left c_x_fraction_above c_x_fraction_below p1 p2 p3 p4 p5 = some oc ∧ fX8_days c_m_above c_m_below c_m_all c_m_known c_m_truth c_m_x c_m_w c_m_refused c_m_weights p1 p2 p3 p4 p5 = some om ∧ oc.1 = om.1 ∧ pb_R oc.2.1 oc.2.2.1 c_x_refusedFull c_x_now_steps c_x_now_laws_size c_x_now_laws_cells c_x_now_finds_size c_x_now_finds_cells c_x_now_bets_size c_x_now_bets_cells c_x_now_prices_size c_x_now_prices_cells c_x_now_stepCells c_x_now_stepSizes c_x_draft_steps c_x_draft_laws_size c_x_draft_laws_cells c_x_draft_finds_size c_x_draft_finds_cells c_x_draft_bets_size c_x_draft_bets_cells c_x_draft_prices_size c_x_draft_prices_cells c_x_draft_stepCells c_x_draft_stepSizes c_x_im0_steps c_x_im0_laws_size c_x_im0_laws_cells c_x_im0_finds_size c_x_im0_finds_cells c_x_im0_bets_size c_x_im0_bets_cells c_x_im0_prices_size c_x_im0_prices_cells c_x_im0_stepCells c_x_im0_stepSizes c_x_im1_steps c_x_im1_laws_size c_x_im1_laws_cells c_x_im1_finds_size c_x_im1_finds_cells c_x_im1_bets_size c_x_im1_bets_cells c_x_im1_prices_size c_x_im1_prices_cells c_x_im1_stepCells c_x_im1_stepSizes c_x_kept oc.2.2.2.1 oc.2.2.2.2.1 oc.2.2.2.2.2.1 oc.2.2.2.2.2.2.1 c_x_ledger_heldCount c_x_ledger_worstBook c_x_ledger_worstPast c_x_ledger_sureSet c_x_ledger_sureWin c_x_ledger_seenSet c_x_ledger_heldSets c_x_ledger_pays c_x_ledger_stakes oc.2.2.2.2.2.2.2.1 oc.2.2.2.2.2.2.2.2.1 oc.2.2.2.2.2.2.2.2.2.1 c_x_reader_size c_x_reader_place c_x_reader_behind c_x_reader_sort c_x_reader_bytes c_x_reader_numbers oc.2.2.2.2.2.2.2.2.2.2.1 oc.2.2.2.2.2.2.2.2.2.2.2 c_m_texted om.2.1 om.2.2.1 c_m_at c_m_start c_m_isWord c_m_isFigures om.2.2.2.1 om.2.2.2.2.1 om.2.2.2.2.2.1 om.2.2.2.2.2.2.1 c_m_h c_m_w c_m_isKept c_m_text om.2.2.2.2.2.2.2.1 c_m_numbers om.2.2.2.2.2.2.2.2 := by
  -- group t.days
  obtain ⟨hN, hI0, hI1, hk, hT, hF, hB, hP⟩ := id h
  obtain ⟨nl, nf, nb, np, ns, ⟨b1, b2, b3, b4, b5⟩, ⟨rfl, rfl, rfl, rfl, rfl⟩, ⟨w0, w1, w2, w3, w4⟩, ⟨lo, le⟩, ⟨fo, fe⟩, _⟩ := id hN
  unfold fX7_days fX8_days
  rw [fX7_isWithin_eq, fX8_in_eq' p1 0 999999 (by decide) (by decide), Option.bind_some, Option.bind_some]
  by_cases h1 : pb_w p1 0 999999 = true
  case neg =>
    rw [Bool.not_eq_true] at h1
    rw [h1, pb_bI_f, if_pos rfl, if_pos rfl, fX8_bad_eq, fX7_asBad_eq]
    exact ⟨_, _, rfl, rfl, rfl, pb_R_bad h⟩
  rw [h1, pb_bI_t, if_neg pb_ne10, if_neg pb_ne10, fX7_isWithin_eq, fX8_in_eq' p2 1 30 (by decide) (by decide), Option.bind_some, Option.bind_some]
  by_cases h2 : pb_w p2 1 30 = true
  case neg =>
    rw [Bool.not_eq_true] at h2
    rw [h2, pb_bI_f, if_pos rfl, if_pos rfl, fX8_bad_eq, fX7_asBad_eq]
    exact ⟨_, _, rfl, rfl, rfl, pb_R_bad h⟩
  rw [h2, pb_bI_t, if_neg pb_ne10, if_neg pb_ne10, fX7_isClaim_eq, fX8_isClaim_eq, Option.bind_some, Option.bind_some]
  by_cases h3 : pb_vC p3 p4 p5 = true
  case neg =>
    rw [Bool.not_eq_true] at h3
    rw [h3, pb_bI_f, if_pos rfl, if_pos rfl, fX8_bad_eq, fX7_asBad_eq]
    exact ⟨_, _, rfl, rfl, rfl, pb_R_bad h⟩
  obtain ⟨sd, hsd, rfl⟩ := pb_w_nat (n := 999999) (by decide) h1
  obtain ⟨N, hN1, hN30, rfl⟩ := pb_w1_nat (n := 30) (by decide) h2
  obtain ⟨⟨k, hk6, rfl⟩, ⟨a, ha, rfl⟩, ⟨b, hb, rfl⟩⟩ := pb_vC_lt h3
  obtain ⟨t', O', W', e, hf⟩ := fX7_weighed_eq b1 b2 lo fo hP
  obtain ⟨hf1, hf2, rfl⟩ := id hf
  have hnn := fun q => pb_wt_nn (lc := c_x_now_laws_cells) (nl := nl) b2 fo q
  rw [h3, pb_bI_t, if_neg pb_ne10, if_neg pb_ne10, e, fX8_fits_eq c_m_all c_m_weights w0 w1 b1 b2 lo le fo fe, Option.bind_some, Option.bind_some, fX2_fits_eq, Option.bind_some]
  by_cases hs : pb_sum (pb_wt c_x_now_laws_cells nl c_x_now_finds_cells nf) 128 ≤ 0
  · rw [decide_eq_true hs]
    exact ⟨_, _, rfl, rfl, rfl, pb_R_no ⟨hN, hI0, hI1, hk, hT, hF, hB, pb_Fr_Pa b1 b2 hf⟩⟩
  · rw [decide_eq_false hs, show (!false) = true from rfl, pb_bI_t, if_neg pb_ne10]
    rw [if_neg (show ¬ ((1 : Int32), pb_sum (pb_wt c_x_now_laws_cells nl c_x_now_finds_cells nf) 128, pb_fill (pb_wt c_x_now_laws_cells nl c_x_now_finds_cells nf) c_m_weights 128).1 = 0 from pb_ne10)]
    have hcnt : 0 < pb_num (pb_ft (pb_wt c_x_now_laws_cells nl c_x_now_finds_cells nf)) 128 := by
      rcases Nat.eq_zero_or_pos (pb_num (pb_ft (pb_wt c_x_now_laws_cells nl c_x_now_finds_cells nf)) 128) with h0 | h0
      · refine absurd ((pb_tot b2 fo).mpr (fun q hq => ?_)) hs
        by_cases hv : pb_wt c_x_now_laws_cells nl c_x_now_finds_cells nf q ≤ 0
        · exact hv
        · have := pb_num_lt (F := pb_ft (pb_wt c_x_now_laws_cells nl c_x_now_finds_cells nf)) hq (by unfold pb_ft; rw [decide_eq_false hv]; rfl)
          omega
      · exact h0
    have es : (nI sd).toInt64 = Int64.ofNat sd := nI_l (by omega)
    have eN : (nI N).toInt64 = Int64.ofNat N := nI_l (by omega)
    obtain ⟨S, X', c', L', d1, d2, kn', tr', hS, e1, e2⟩ := fX_days_sim (t := pb_sum (pb_wt c_x_now_laws_cells nl c_x_now_finds_cells nf) 128) (t1 := pb_sum (pb_wt c_x_now_laws_cells nl c_x_now_finds_cells nf) 128) (x0 := 1) (st := 0) (O := O') (W2 := pb_fill (pb_wt c_x_now_laws_cells nl c_x_now_finds_cells nf) c_m_weights 128) hk6 ha hb (show sd < 2147483648 by omega) hN30 hf2 pb_fill_in hnn hcnt c_x_settling_leftCount c_x_settling_left c_m_known c_m_truth
    have eS : (nI S).toInt64 = Int64.ofNat S := nI_l (by omega)
    obtain ⟨u, v, e3, e4⟩ := fX_put_tells (a := c_m_above) (b := c_m_below) (c := c_m_above) (d := c_m_below) (show S < 2 ^ 63 by omega) (show N < 2 ^ 63 by omega) (by omega) (pb_oN_abs (by omega)).1 (pb_oN_abs (by omega)).2
    obtain ⟨rfl, rfl⟩ := id hF
    unfold fX4_begin
    rw [fX8_days_count (V := pb_wt c_x_now_laws_cells nl c_x_now_finds_cells nf) pb_fill_in, Option.bind_some, Option.bind_some, Option.bind_some]
    unfold fX8_days_E58
    rw [Option.bind_some, es, e1, e2, Option.bind_some, Option.bind_some]
    unfold fX7_days_E74 fX8_days_E106
    rw [eS, eN, e3, e4, Option.bind_some, Option.bind_some]
    exact ⟨_, _, rfl, rfl, rfl, hN, hI0, hI1, hk, hT, ⟨rfl, rfl⟩, hB, pb_Fr_Pa b1 b2 hf⟩
