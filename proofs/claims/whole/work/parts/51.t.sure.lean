set_option maxHeartbeats 4000000 in
theorem st_sure {c_x_refusedBad : Int32} {c_x_refusedNo : Int32} {c_x_refusedFull : Int32} {c_x_now_steps : Int32} {c_x_now_laws_size : Int32} {c_x_now_laws_cells : (Nat → Int32)} {c_x_now_finds_size : Int32} {c_x_now_finds_cells : (Nat → Int32)} {c_x_now_bets_size : Int32} {c_x_now_bets_cells : (Nat → Int32)} {c_x_now_prices_size : Int32} {c_x_now_prices_cells : (Nat → Int32)} {c_x_now_stepCells : (Nat → Int32)} {c_x_now_stepSizes : (Nat → Int32)} {c_x_draft_steps : Int32} {c_x_draft_laws_size : Int32} {c_x_draft_laws_cells : (Nat → Int32)} {c_x_draft_finds_size : Int32} {c_x_draft_finds_cells : (Nat → Int32)} {c_x_draft_bets_size : Int32} {c_x_draft_bets_cells : (Nat → Int32)} {c_x_draft_prices_size : Int32} {c_x_draft_prices_cells : (Nat → Int32)} {c_x_draft_stepCells : (Nat → Int32)} {c_x_draft_stepSizes : (Nat → Int32)} {c_x_im0_steps : Int32} {c_x_im0_laws_size : Int32} {c_x_im0_laws_cells : (Nat → Int32)} {c_x_im0_finds_size : Int32} {c_x_im0_finds_cells : (Nat → Int32)} {c_x_im0_bets_size : Int32} {c_x_im0_bets_cells : (Nat → Int32)} {c_x_im0_prices_size : Int32} {c_x_im0_prices_cells : (Nat → Int32)} {c_x_im0_stepCells : (Nat → Int32)} {c_x_im0_stepSizes : (Nat → Int32)} {c_x_im1_steps : Int32} {c_x_im1_laws_size : Int32} {c_x_im1_laws_cells : (Nat → Int32)} {c_x_im1_finds_size : Int32} {c_x_im1_finds_cells : (Nat → Int32)} {c_x_im1_bets_size : Int32} {c_x_im1_bets_cells : (Nat → Int32)} {c_x_im1_prices_size : Int32} {c_x_im1_prices_cells : (Nat → Int32)} {c_x_im1_stepCells : (Nat → Int32)} {c_x_im1_stepSizes : (Nat → Int32)} {c_x_kept : (Nat → Int32)} {c_x_pasts_total : Int64} {c_x_pasts_stale : Int32} {c_x_pasts_open : (Nat → Int32)} {c_x_pasts_weight : (Nat → Int64)} {c_x_ledger_heldCount : Int32} {c_x_ledger_worstBook : Int32} {c_x_ledger_worstPast : Int32} {c_x_ledger_sureSet : Int32} {c_x_ledger_sureWin : Int32} {c_x_ledger_seenSet : (Nat → Int32)} {c_x_ledger_heldSets : (Nat → Int32)} {c_x_ledger_pays : (Nat → Int32)} {c_x_ledger_stakes : (Nat → Int32)} {c_x_settling_leftCount : Int32} {c_x_settling_x : Int64} {c_x_settling_left : (Nat → Int32)} {c_x_reader_size : Int32} {c_x_reader_place : Int32} {c_x_reader_behind : Int32} {c_x_reader_sort : Int32} {c_x_reader_bytes : (Nat → Int32)} {c_x_reader_numbers : (Nat → Int32)} {c_x_fraction_above : Int64} {c_x_fraction_below : Int64} {c_m_texted : Int32} {c_m_above : Int64} {c_m_below : Int64} {c_m_at : Int32} {c_m_start : Int32} {c_m_isWord : Int32} {c_m_isFigures : Int32} {c_m_all : Int64} {c_m_known : Int32} {c_m_truth : Int32} {c_m_x : Int64} {c_m_h : Int64} {c_m_w : (Nat → Int32)} {c_m_isKept : (Nat → Int32)} {c_m_text : (Nat → Int32)} {c_m_refused : (Nat → Int32)} {c_m_numbers : (Nat → Int32)} {c_m_weights : (Nat → Int64)} (h : pb_R c_x_refusedBad c_x_refusedNo c_x_refusedFull c_x_now_steps c_x_now_laws_size c_x_now_laws_cells c_x_now_finds_size c_x_now_finds_cells c_x_now_bets_size c_x_now_bets_cells c_x_now_prices_size c_x_now_prices_cells c_x_now_stepCells c_x_now_stepSizes c_x_draft_steps c_x_draft_laws_size c_x_draft_laws_cells c_x_draft_finds_size c_x_draft_finds_cells c_x_draft_bets_size c_x_draft_bets_cells c_x_draft_prices_size c_x_draft_prices_cells c_x_draft_stepCells c_x_draft_stepSizes c_x_im0_steps c_x_im0_laws_size c_x_im0_laws_cells c_x_im0_finds_size c_x_im0_finds_cells c_x_im0_bets_size c_x_im0_bets_cells c_x_im0_prices_size c_x_im0_prices_cells c_x_im0_stepCells c_x_im0_stepSizes c_x_im1_steps c_x_im1_laws_size c_x_im1_laws_cells c_x_im1_finds_size c_x_im1_finds_cells c_x_im1_bets_size c_x_im1_bets_cells c_x_im1_prices_size c_x_im1_prices_cells c_x_im1_stepCells c_x_im1_stepSizes c_x_kept c_x_pasts_total c_x_pasts_stale c_x_pasts_open c_x_pasts_weight c_x_ledger_heldCount c_x_ledger_worstBook c_x_ledger_worstPast c_x_ledger_sureSet c_x_ledger_sureWin c_x_ledger_seenSet c_x_ledger_heldSets c_x_ledger_pays c_x_ledger_stakes c_x_settling_leftCount c_x_settling_x c_x_settling_left c_x_reader_size c_x_reader_place c_x_reader_behind c_x_reader_sort c_x_reader_bytes c_x_reader_numbers c_x_fraction_above c_x_fraction_below c_m_texted c_m_above c_m_below c_m_at c_m_start c_m_isWord c_m_isFigures c_m_all c_m_known c_m_truth c_m_x c_m_h c_m_w c_m_isKept c_m_text c_m_refused c_m_numbers c_m_weights) (p1 : Int32) : ∃ (oc : (Int32 × Int32 × Int64 × Int32 × (Nat → Int32) × (Nat → Int64) × Int32 × Int32 × Int32 × (Nat → Int32) × (Nat → Int32) × (Nat → Int32) × (Nat → Int32))) (om : (Int32 × Int64 × (Nat → Int32) × (Nat → Int64))), fX7_sure c_x_refusedBad c_x_now_laws_size c_x_now_laws_cells c_x_now_finds_size c_x_now_finds_cells c_x_now_bets_size c_x_now_bets_cells c_x_pasts_total c_x_pasts_stale c_x_pasts_open c_x_pasts_weight c_x_ledger_heldCount c_x_ledger_sureSet c_x_ledger_sureWin c_x_ledger_seenSet c_x_ledger_heldSets c_x_ledger_pays c_x_ledger_stakes p1 = some oc ∧ fX8_sure c_m_all c_m_w c_m_refused c_m_weights p1 = some om ∧ oc.1 = om.1 ∧ pb_R oc.2.1 c_x_refusedNo c_x_refusedFull c_x_now_steps c_x_now_laws_size c_x_now_laws_cells c_x_now_finds_size c_x_now_finds_cells c_x_now_bets_size c_x_now_bets_cells c_x_now_prices_size c_x_now_prices_cells c_x_now_stepCells c_x_now_stepSizes c_x_draft_steps c_x_draft_laws_size c_x_draft_laws_cells c_x_draft_finds_size c_x_draft_finds_cells c_x_draft_bets_size c_x_draft_bets_cells c_x_draft_prices_size c_x_draft_prices_cells c_x_draft_stepCells c_x_draft_stepSizes c_x_im0_steps c_x_im0_laws_size c_x_im0_laws_cells c_x_im0_finds_size c_x_im0_finds_cells c_x_im0_bets_size c_x_im0_bets_cells c_x_im0_prices_size c_x_im0_prices_cells c_x_im0_stepCells c_x_im0_stepSizes c_x_im1_steps c_x_im1_laws_size c_x_im1_laws_cells c_x_im1_finds_size c_x_im1_finds_cells c_x_im1_bets_size c_x_im1_bets_cells c_x_im1_prices_size c_x_im1_prices_cells c_x_im1_stepCells c_x_im1_stepSizes c_x_kept oc.2.2.1 oc.2.2.2.1 oc.2.2.2.2.1 oc.2.2.2.2.2.1 oc.2.2.2.2.2.2.1 c_x_ledger_worstBook c_x_ledger_worstPast oc.2.2.2.2.2.2.2.1 oc.2.2.2.2.2.2.2.2.1 oc.2.2.2.2.2.2.2.2.2.1 oc.2.2.2.2.2.2.2.2.2.2.1 oc.2.2.2.2.2.2.2.2.2.2.2.1 oc.2.2.2.2.2.2.2.2.2.2.2.2 c_x_settling_leftCount c_x_settling_x c_x_settling_left c_x_reader_size c_x_reader_place c_x_reader_behind c_x_reader_sort c_x_reader_bytes c_x_reader_numbers c_x_fraction_above c_x_fraction_below c_m_texted c_m_above c_m_below c_m_at c_m_start c_m_isWord c_m_isFigures om.2.1 c_m_known c_m_truth c_m_x c_m_h c_m_w c_m_isKept c_m_text om.2.2.1 c_m_numbers om.2.2.2 := by
  -- group t.sure
  obtain ⟨hN, hI0, hI1, hk, hT, hF, hB, hP⟩ := id h
  obtain ⟨nl, nf, nb, np, ns, ⟨b1, b2, b3, b4, b5⟩, ⟨rfl, rfl, rfl, rfl, rfl⟩, ⟨w0, w1, w2, w3, w4⟩, ⟨lo, le⟩, ⟨fo, fe⟩, ⟨bo, be⟩, _⟩ := id hN
  unfold fX7_sure fX8_sure
  rw [fX7_isWithin_eq, fX8_in_eq' p1 0 1 (by decide) (by decide), Option.bind_some, Option.bind_some]
  by_cases hw : pb_w p1 0 1 = true
  case neg =>
    rw [Bool.not_eq_true] at hw
    rw [hw, pb_bI_f, if_pos rfl, if_pos rfl, fX8_bad_eq, fX7_asBad_eq]
    exact ⟨_, _, rfl, rfl, rfl, pb_R_bad h⟩
  obtain ⟨t', O', W', e, hf⟩ := fX7_weighed_eq b1 b2 lo fo hP
  obtain ⟨hf1, hf2, rfl⟩ := id hf
  obtain ⟨c, S', H', eL, hc, hHS⟩ := fX1_listHeldSets_eq c_x_ledger_heldCount c_x_ledger_seenSet c_x_ledger_heldSets b3 bo hf2
  unfold fX1_seekSure
  rw [hw, pb_bI_t, if_neg pb_ne10, if_neg pb_ne10, e, fX8_fits_eq c_m_all c_m_weights w0 w1 b1 b2 lo le fo fe, Option.bind_some, Option.bind_some, eL, Option.bind_some]
  by_cases hs : pb_sum (pb_wt c_x_now_laws_cells nl c_x_now_finds_cells nf) 128 ≤ 0
  · have hc0 : c = 0 := by
      rcases Nat.eq_zero_or_pos c with h0 | h0
      · exact h0
      · obtain ⟨q, hq, h1, _⟩ := hHS.1 0 h0
        exact absurd ((pb_tot b2 fo).mp hs q hq) h1
    subst hc0
    rw [fX8_sure_none (by rw [decide_eq_true hs]; rfl), Option.bind_some]
    exact ⟨_, _, rfl, rfl, rfl, hN, hI0, hI1, hk, hT, hF, hB, pb_Fr_Pa b1 b2 hf⟩
  · have hc0 : 0 < c := by
      rcases Nat.eq_zero_or_pos c with h0 | h0
      · refine absurd ((pb_tot b2 fo).mpr (fun q hq => ?_)) hs
        by_cases hv : pb_wt c_x_now_laws_cells nl c_x_now_finds_cells nf q ≤ 0
        · exact hv
        · obtain ⟨j, hj, _⟩ := hHS.2 q hq hv
          omega
      · exact h0
    obtain ⟨P', Q', eS, hPQ⟩ := fX1_sumSets_eq (bc := c_x_now_bets_cells) c_x_ledger_pays c_x_ledger_stakes b3
    obtain ⟨b, u, d, e', e1, e2⟩ := fX_sure_sim (S' := S') (x0 := pb_bI (!decide (pb_sum (pb_wt c_x_now_laws_cells nl c_x_now_finds_cells nf) 128 ≤ 0))) (t := pb_sum (pb_wt c_x_now_laws_cells nl c_x_now_finds_cells nf) 128) (W2 := pb_fill (pb_wt c_x_now_laws_cells nl c_x_now_finds_cells nf) c_m_weights 128) (by rw [decide_eq_false hs]; decide) w2 b3 bo be pb_fill_in hc hc0 hHS hPQ
    rw [if_neg (show ¬ ((nI c, S', H') : Int32 × (Nat → Int32) × (Nat → Int32)).1 = 0 from nI_ne0 hc0 (by omega)), eS, Option.bind_some, pb_sets ⟨nb, by omega⟩, Option.bind_some, e1, e2, Option.bind_some, Option.bind_some]
    unfold fX1_seekSure_E45 fX8_sure_E28
    rw [Option.bind_some]
    by_cases hb : b = 0
    · subst hb
      exact ⟨_, _, rfl, rfl, rfl, hN, hI0, hI1, hk, hT, hF, hB, pb_Fr_Pa b1 b2 hf⟩
    · simp only [if_neg hb]
      by_cases hp : p1 = 0
      · simp only [if_pos hp]
        exact ⟨_, _, rfl, rfl, rfl, hN, hI0, hI1, hk, hT, hF, hB, pb_Fr_Pa b1 b2 hf⟩
      · simp only [if_neg hp]
        exact ⟨_, _, rfl, rfl, rfl, hN, hI0, hI1, hk, hT, hF, hB, pb_Fr_Pa b1 b2 hf⟩
