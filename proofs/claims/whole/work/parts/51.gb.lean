set_option maxHeartbeats 4000000 in
theorem st_rule {c_x_refusedBad : Int32} {c_x_refusedNo : Int32} {c_x_refusedFull : Int32} {c_x_now_steps : Int32} {c_x_now_laws_size : Int32} {c_x_now_laws_cells : (Nat → Int32)} {c_x_now_finds_size : Int32} {c_x_now_finds_cells : (Nat → Int32)} {c_x_now_bets_size : Int32} {c_x_now_bets_cells : (Nat → Int32)} {c_x_now_prices_size : Int32} {c_x_now_prices_cells : (Nat → Int32)} {c_x_now_stepCells : (Nat → Int32)} {c_x_now_stepSizes : (Nat → Int32)} {c_x_draft_steps : Int32} {c_x_draft_laws_size : Int32} {c_x_draft_laws_cells : (Nat → Int32)} {c_x_draft_finds_size : Int32} {c_x_draft_finds_cells : (Nat → Int32)} {c_x_draft_bets_size : Int32} {c_x_draft_bets_cells : (Nat → Int32)} {c_x_draft_prices_size : Int32} {c_x_draft_prices_cells : (Nat → Int32)} {c_x_draft_stepCells : (Nat → Int32)} {c_x_draft_stepSizes : (Nat → Int32)} {c_x_im0_steps : Int32} {c_x_im0_laws_size : Int32} {c_x_im0_laws_cells : (Nat → Int32)} {c_x_im0_finds_size : Int32} {c_x_im0_finds_cells : (Nat → Int32)} {c_x_im0_bets_size : Int32} {c_x_im0_bets_cells : (Nat → Int32)} {c_x_im0_prices_size : Int32} {c_x_im0_prices_cells : (Nat → Int32)} {c_x_im0_stepCells : (Nat → Int32)} {c_x_im0_stepSizes : (Nat → Int32)} {c_x_im1_steps : Int32} {c_x_im1_laws_size : Int32} {c_x_im1_laws_cells : (Nat → Int32)} {c_x_im1_finds_size : Int32} {c_x_im1_finds_cells : (Nat → Int32)} {c_x_im1_bets_size : Int32} {c_x_im1_bets_cells : (Nat → Int32)} {c_x_im1_prices_size : Int32} {c_x_im1_prices_cells : (Nat → Int32)} {c_x_im1_stepCells : (Nat → Int32)} {c_x_im1_stepSizes : (Nat → Int32)} {c_x_kept : (Nat → Int32)} {c_x_pasts_total : Int64} {c_x_pasts_stale : Int32} {c_x_pasts_open : (Nat → Int32)} {c_x_pasts_weight : (Nat → Int64)} {c_x_ledger_heldCount : Int32} {c_x_ledger_worstBook : Int32} {c_x_ledger_worstPast : Int32} {c_x_ledger_sureSet : Int32} {c_x_ledger_sureWin : Int32} {c_x_ledger_seenSet : (Nat → Int32)} {c_x_ledger_heldSets : (Nat → Int32)} {c_x_ledger_pays : (Nat → Int32)} {c_x_ledger_stakes : (Nat → Int32)} {c_x_settling_leftCount : Int32} {c_x_settling_x : Int64} {c_x_settling_left : (Nat → Int32)} {c_x_reader_size : Int32} {c_x_reader_place : Int32} {c_x_reader_behind : Int32} {c_x_reader_sort : Int32} {c_x_reader_bytes : (Nat → Int32)} {c_x_reader_numbers : (Nat → Int32)} {c_x_fraction_above : Int64} {c_x_fraction_below : Int64} {c_m_texted : Int32} {c_m_above : Int64} {c_m_below : Int64} {c_m_at : Int32} {c_m_start : Int32} {c_m_isWord : Int32} {c_m_isFigures : Int32} {c_m_all : Int64} {c_m_known : Int32} {c_m_truth : Int32} {c_m_x : Int64} {c_m_h : Int64} {c_m_w : (Nat → Int32)} {c_m_isKept : (Nat → Int32)} {c_m_text : (Nat → Int32)} {c_m_refused : (Nat → Int32)} {c_m_numbers : (Nat → Int32)} {c_m_weights : (Nat → Int64)} (h : pb_R c_x_refusedBad c_x_refusedNo c_x_refusedFull c_x_now_steps c_x_now_laws_size c_x_now_laws_cells c_x_now_finds_size c_x_now_finds_cells c_x_now_bets_size c_x_now_bets_cells c_x_now_prices_size c_x_now_prices_cells c_x_now_stepCells c_x_now_stepSizes c_x_draft_steps c_x_draft_laws_size c_x_draft_laws_cells c_x_draft_finds_size c_x_draft_finds_cells c_x_draft_bets_size c_x_draft_bets_cells c_x_draft_prices_size c_x_draft_prices_cells c_x_draft_stepCells c_x_draft_stepSizes c_x_im0_steps c_x_im0_laws_size c_x_im0_laws_cells c_x_im0_finds_size c_x_im0_finds_cells c_x_im0_bets_size c_x_im0_bets_cells c_x_im0_prices_size c_x_im0_prices_cells c_x_im0_stepCells c_x_im0_stepSizes c_x_im1_steps c_x_im1_laws_size c_x_im1_laws_cells c_x_im1_finds_size c_x_im1_finds_cells c_x_im1_bets_size c_x_im1_bets_cells c_x_im1_prices_size c_x_im1_prices_cells c_x_im1_stepCells c_x_im1_stepSizes c_x_kept c_x_pasts_total c_x_pasts_stale c_x_pasts_open c_x_pasts_weight c_x_ledger_heldCount c_x_ledger_worstBook c_x_ledger_worstPast c_x_ledger_sureSet c_x_ledger_sureWin c_x_ledger_seenSet c_x_ledger_heldSets c_x_ledger_pays c_x_ledger_stakes c_x_settling_leftCount c_x_settling_x c_x_settling_left c_x_reader_size c_x_reader_place c_x_reader_behind c_x_reader_sort c_x_reader_bytes c_x_reader_numbers c_x_fraction_above c_x_fraction_below c_m_texted c_m_above c_m_below c_m_at c_m_start c_m_isWord c_m_isFigures c_m_all c_m_known c_m_truth c_m_x c_m_h c_m_w c_m_isKept c_m_text c_m_refused c_m_numbers c_m_weights) (p1 : Int32) (p2 : Int32) (p3 : Int32) : ∃ (oc : (Int32 × Int32 × Int32 × Int32 × Int32 × (Nat → Int32) × Int32)) (om : (Int32 × (Nat → Int32) × (Nat → Int32))), fX7_rule c_x_refusedBad c_x_refusedFull c_x_now_steps c_x_now_laws_size c_x_now_laws_cells c_x_pasts_stale p1 p2 p3 = some oc ∧ fX8_rule c_m_w c_m_refused p1 p2 p3 = some om ∧ oc.1 = om.1 ∧ pb_R oc.2.1 c_x_refusedNo oc.2.2.1 oc.2.2.2.1 oc.2.2.2.2.1 oc.2.2.2.2.2.1 c_x_now_finds_size c_x_now_finds_cells c_x_now_bets_size c_x_now_bets_cells c_x_now_prices_size c_x_now_prices_cells c_x_now_stepCells c_x_now_stepSizes c_x_draft_steps c_x_draft_laws_size c_x_draft_laws_cells c_x_draft_finds_size c_x_draft_finds_cells c_x_draft_bets_size c_x_draft_bets_cells c_x_draft_prices_size c_x_draft_prices_cells c_x_draft_stepCells c_x_draft_stepSizes c_x_im0_steps c_x_im0_laws_size c_x_im0_laws_cells c_x_im0_finds_size c_x_im0_finds_cells c_x_im0_bets_size c_x_im0_bets_cells c_x_im0_prices_size c_x_im0_prices_cells c_x_im0_stepCells c_x_im0_stepSizes c_x_im1_steps c_x_im1_laws_size c_x_im1_laws_cells c_x_im1_finds_size c_x_im1_finds_cells c_x_im1_bets_size c_x_im1_bets_cells c_x_im1_prices_size c_x_im1_prices_cells c_x_im1_stepCells c_x_im1_stepSizes c_x_kept c_x_pasts_total oc.2.2.2.2.2.2 c_x_pasts_open c_x_pasts_weight c_x_ledger_heldCount c_x_ledger_worstBook c_x_ledger_worstPast c_x_ledger_sureSet c_x_ledger_sureWin c_x_ledger_seenSet c_x_ledger_heldSets c_x_ledger_pays c_x_ledger_stakes c_x_settling_leftCount c_x_settling_x c_x_settling_left c_x_reader_size c_x_reader_place c_x_reader_behind c_x_reader_sort c_x_reader_bytes c_x_reader_numbers c_x_fraction_above c_x_fraction_below c_m_texted c_m_above c_m_below c_m_at c_m_start c_m_isWord c_m_isFigures c_m_all c_m_known c_m_truth c_m_x c_m_h om.2.1 c_m_isKept c_m_text om.2.2 c_m_numbers c_m_weights := by
  -- group b
  obtain ⟨hN, hI0, hI1, hk, hT, hF, hB, hP⟩ := id h
  obtain ⟨nl, nf, nb, np, ns, ⟨n1, n2, n3, n4, n5⟩, ⟨rfl, rfl, rfl, rfl, rfl⟩, ⟨w0, -⟩, -⟩ := id hN
  unfold fX7_rule fX8_rule
  simp only [fX7_isWithin_eq, fX8_in_eq' p1 0 3 (a := 0) (b := 3) (by decide) (by decide), fX7_isFact_eq, fX8_isFact_eq, Option.bind_some, fX8_bad_eq, fX7_asBad_eq, fX8_full_eq, fX7_asFull_eq]
  by_cases h1 : pb_w p1 0 3 = true
  case neg => 
    rw [Bool.not_eq_true] at h1
    rw [h1]
    exact ⟨_, _, rfl, rfl, rfl, pb_R_bad h⟩
  by_cases h2 : pb_w p2 0 6 = true
  case neg => 
    rw [Bool.not_eq_true] at h2
    rw [h1, h2]
    exact ⟨_, _, rfl, rfl, rfl, pb_R_bad h⟩
  by_cases h3 : pb_w p3 0 6 = true
  case neg => 
    rw [Bool.not_eq_true] at h3
    rw [h1, h2, h3]
    exact ⟨_, _, rfl, rfl, rfl, pb_R_bad h⟩
  rw [h1, h2, h3, pb_bI_t]
  simp only [if_neg pb_ne10, w0]
  by_cases h8 : nl = 8
  · subst h8
    exact ⟨_, _, rfl, rfl, rfl, pb_R_full h⟩
  · have hne : ¬ nI nl = 8 := fun e => h8 ((nI_eq (a := nl) (b := 8) (by omega) (by decide)).mp e)
    have e1 : fX6_isFull 3 8 (nI nl) = some 0 := fX6_isFull_eq (M := 8) (by omega) (by omega)
    have e2 : fX6_addThree 3 8 24 (nI nl) c_x_now_laws_cells p1 p2 p3 = some (nI (nl + 1), pb_put3 c_x_now_laws_cells (3 * nl) p1 p2 p3) := fX6_addThree_eq (M := 8) (by omega) (by omega) (by omega)
    have e3 : fX8_adds (upd c_m_w 4 0) 0 0 5 p1 p2 p3 = some (nI nl, upd (pb_put3 (upd c_m_w 4 0) (0 + 5 + 3 * nl) p1 p2 p3) (0 + 0) (nI (nl + 1))) := fX8_adds_eq (r := 0) (many := 0) (first := 5) (k := nl) (by rw [pk_un (by omega)]; exact w0) (by omega) (by omega)
    rw [if_neg hne, e1, e2, e3]
    simp only [Option.bind_some, if_true]
    refine ⟨_, _, rfl, rfl, ?_, pb_St_rule hN (by omega) (pb_w_lt (n := 3) (by decide) h1) (pb_w_lt (n := 6) (by decide) h2) (pb_w_lt (n := 6) (by decide) h3), pb_St_frame hI0 ?_, pb_St_frame hI1 ?_, hk, hT, hF, hB, Or.inl rfl⟩
    · exact nI_pred nl
    · intro j a b
      simp only [pb_put3]
      rw [pk_un (by omega), pk_un (by omega), pk_un (by omega), pk_un (by omega), pk_un (by omega)]
    · intro j a b
      simp only [pb_put3]
      rw [pk_un (by omega), pk_un (by omega), pk_un (by omega), pk_un (by omega), pk_un (by omega)]
set_option maxHeartbeats 4000000 in
theorem st_bet {c_x_refusedBad : Int32} {c_x_refusedNo : Int32} {c_x_refusedFull : Int32} {c_x_now_steps : Int32} {c_x_now_laws_size : Int32} {c_x_now_laws_cells : (Nat → Int32)} {c_x_now_finds_size : Int32} {c_x_now_finds_cells : (Nat → Int32)} {c_x_now_bets_size : Int32} {c_x_now_bets_cells : (Nat → Int32)} {c_x_now_prices_size : Int32} {c_x_now_prices_cells : (Nat → Int32)} {c_x_now_stepCells : (Nat → Int32)} {c_x_now_stepSizes : (Nat → Int32)} {c_x_draft_steps : Int32} {c_x_draft_laws_size : Int32} {c_x_draft_laws_cells : (Nat → Int32)} {c_x_draft_finds_size : Int32} {c_x_draft_finds_cells : (Nat → Int32)} {c_x_draft_bets_size : Int32} {c_x_draft_bets_cells : (Nat → Int32)} {c_x_draft_prices_size : Int32} {c_x_draft_prices_cells : (Nat → Int32)} {c_x_draft_stepCells : (Nat → Int32)} {c_x_draft_stepSizes : (Nat → Int32)} {c_x_im0_steps : Int32} {c_x_im0_laws_size : Int32} {c_x_im0_laws_cells : (Nat → Int32)} {c_x_im0_finds_size : Int32} {c_x_im0_finds_cells : (Nat → Int32)} {c_x_im0_bets_size : Int32} {c_x_im0_bets_cells : (Nat → Int32)} {c_x_im0_prices_size : Int32} {c_x_im0_prices_cells : (Nat → Int32)} {c_x_im0_stepCells : (Nat → Int32)} {c_x_im0_stepSizes : (Nat → Int32)} {c_x_im1_steps : Int32} {c_x_im1_laws_size : Int32} {c_x_im1_laws_cells : (Nat → Int32)} {c_x_im1_finds_size : Int32} {c_x_im1_finds_cells : (Nat → Int32)} {c_x_im1_bets_size : Int32} {c_x_im1_bets_cells : (Nat → Int32)} {c_x_im1_prices_size : Int32} {c_x_im1_prices_cells : (Nat → Int32)} {c_x_im1_stepCells : (Nat → Int32)} {c_x_im1_stepSizes : (Nat → Int32)} {c_x_kept : (Nat → Int32)} {c_x_pasts_total : Int64} {c_x_pasts_stale : Int32} {c_x_pasts_open : (Nat → Int32)} {c_x_pasts_weight : (Nat → Int64)} {c_x_ledger_heldCount : Int32} {c_x_ledger_worstBook : Int32} {c_x_ledger_worstPast : Int32} {c_x_ledger_sureSet : Int32} {c_x_ledger_sureWin : Int32} {c_x_ledger_seenSet : (Nat → Int32)} {c_x_ledger_heldSets : (Nat → Int32)} {c_x_ledger_pays : (Nat → Int32)} {c_x_ledger_stakes : (Nat → Int32)} {c_x_settling_leftCount : Int32} {c_x_settling_x : Int64} {c_x_settling_left : (Nat → Int32)} {c_x_reader_size : Int32} {c_x_reader_place : Int32} {c_x_reader_behind : Int32} {c_x_reader_sort : Int32} {c_x_reader_bytes : (Nat → Int32)} {c_x_reader_numbers : (Nat → Int32)} {c_x_fraction_above : Int64} {c_x_fraction_below : Int64} {c_m_texted : Int32} {c_m_above : Int64} {c_m_below : Int64} {c_m_at : Int32} {c_m_start : Int32} {c_m_isWord : Int32} {c_m_isFigures : Int32} {c_m_all : Int64} {c_m_known : Int32} {c_m_truth : Int32} {c_m_x : Int64} {c_m_h : Int64} {c_m_w : (Nat → Int32)} {c_m_isKept : (Nat → Int32)} {c_m_text : (Nat → Int32)} {c_m_refused : (Nat → Int32)} {c_m_numbers : (Nat → Int32)} {c_m_weights : (Nat → Int64)} (h : pb_R c_x_refusedBad c_x_refusedNo c_x_refusedFull c_x_now_steps c_x_now_laws_size c_x_now_laws_cells c_x_now_finds_size c_x_now_finds_cells c_x_now_bets_size c_x_now_bets_cells c_x_now_prices_size c_x_now_prices_cells c_x_now_stepCells c_x_now_stepSizes c_x_draft_steps c_x_draft_laws_size c_x_draft_laws_cells c_x_draft_finds_size c_x_draft_finds_cells c_x_draft_bets_size c_x_draft_bets_cells c_x_draft_prices_size c_x_draft_prices_cells c_x_draft_stepCells c_x_draft_stepSizes c_x_im0_steps c_x_im0_laws_size c_x_im0_laws_cells c_x_im0_finds_size c_x_im0_finds_cells c_x_im0_bets_size c_x_im0_bets_cells c_x_im0_prices_size c_x_im0_prices_cells c_x_im0_stepCells c_x_im0_stepSizes c_x_im1_steps c_x_im1_laws_size c_x_im1_laws_cells c_x_im1_finds_size c_x_im1_finds_cells c_x_im1_bets_size c_x_im1_bets_cells c_x_im1_prices_size c_x_im1_prices_cells c_x_im1_stepCells c_x_im1_stepSizes c_x_kept c_x_pasts_total c_x_pasts_stale c_x_pasts_open c_x_pasts_weight c_x_ledger_heldCount c_x_ledger_worstBook c_x_ledger_worstPast c_x_ledger_sureSet c_x_ledger_sureWin c_x_ledger_seenSet c_x_ledger_heldSets c_x_ledger_pays c_x_ledger_stakes c_x_settling_leftCount c_x_settling_x c_x_settling_left c_x_reader_size c_x_reader_place c_x_reader_behind c_x_reader_sort c_x_reader_bytes c_x_reader_numbers c_x_fraction_above c_x_fraction_below c_m_texted c_m_above c_m_below c_m_at c_m_start c_m_isWord c_m_isFigures c_m_all c_m_known c_m_truth c_m_x c_m_h c_m_w c_m_isKept c_m_text c_m_refused c_m_numbers c_m_weights) (p1 : Int32) (p2 : Int32) (p3 : Int32) (p4 : Int32) (p5 : Int32) : ∃ (oc : (Int32 × Int32 × Int32 × Int32 × (Nat → Int32))) (om : (Int32 × (Nat → Int32) × (Nat → Int32))), fX7_bet c_x_refusedBad c_x_refusedFull c_x_now_bets_size c_x_now_bets_cells p1 p2 p3 p4 p5 = some oc ∧ fX8_bet c_m_w c_m_refused p1 p2 p3 p4 p5 = some om ∧ oc.1 = om.1 ∧ pb_R oc.2.1 c_x_refusedNo oc.2.2.1 c_x_now_steps c_x_now_laws_size c_x_now_laws_cells c_x_now_finds_size c_x_now_finds_cells oc.2.2.2.1 oc.2.2.2.2 c_x_now_prices_size c_x_now_prices_cells c_x_now_stepCells c_x_now_stepSizes c_x_draft_steps c_x_draft_laws_size c_x_draft_laws_cells c_x_draft_finds_size c_x_draft_finds_cells c_x_draft_bets_size c_x_draft_bets_cells c_x_draft_prices_size c_x_draft_prices_cells c_x_draft_stepCells c_x_draft_stepSizes c_x_im0_steps c_x_im0_laws_size c_x_im0_laws_cells c_x_im0_finds_size c_x_im0_finds_cells c_x_im0_bets_size c_x_im0_bets_cells c_x_im0_prices_size c_x_im0_prices_cells c_x_im0_stepCells c_x_im0_stepSizes c_x_im1_steps c_x_im1_laws_size c_x_im1_laws_cells c_x_im1_finds_size c_x_im1_finds_cells c_x_im1_bets_size c_x_im1_bets_cells c_x_im1_prices_size c_x_im1_prices_cells c_x_im1_stepCells c_x_im1_stepSizes c_x_kept c_x_pasts_total c_x_pasts_stale c_x_pasts_open c_x_pasts_weight c_x_ledger_heldCount c_x_ledger_worstBook c_x_ledger_worstPast c_x_ledger_sureSet c_x_ledger_sureWin c_x_ledger_seenSet c_x_ledger_heldSets c_x_ledger_pays c_x_ledger_stakes c_x_settling_leftCount c_x_settling_x c_x_settling_left c_x_reader_size c_x_reader_place c_x_reader_behind c_x_reader_sort c_x_reader_bytes c_x_reader_numbers c_x_fraction_above c_x_fraction_below c_m_texted c_m_above c_m_below c_m_at c_m_start c_m_isWord c_m_isFigures c_m_all c_m_known c_m_truth c_m_x c_m_h om.2.1 c_m_isKept c_m_text om.2.2 c_m_numbers c_m_weights := by
  -- group b
  obtain ⟨hN, hI0, hI1, hk, hT, hF, hB, hP⟩ := id h
  obtain ⟨nl, nf, nb, np, ns, ⟨n1, n2, n3, n4, n5⟩, ⟨rfl, rfl, rfl, rfl, rfl⟩, ⟨-, -, w2, -, -⟩, -⟩ := id hN
  unfold fX7_bet fX8_bet
  simp only [fX7_isWithin_eq, fX7_isClaim_eq, fX8_isStake_eq, Option.bind_some, fX8_bad_eq, fX7_asBad_eq, fX8_full_eq, fX7_asFull_eq, pb_vS]
  by_cases h1 : pb_vC p1 p2 p3 = true
  case neg => 
    rw [Bool.not_eq_true] at h1
    rw [h1]
    exact ⟨_, _, rfl, rfl, rfl, pb_R_bad h⟩
  by_cases h2 : pb_w p4 1 99 = true
  case neg => 
    rw [Bool.not_eq_true] at h2
    rw [h1, h2]
    exact ⟨_, _, rfl, rfl, rfl, pb_R_bad h⟩
  by_cases h3 : pb_w p5 0 99 = true
  case neg => 
    rw [Bool.not_eq_true] at h3
    rw [h1, h2, h3]
    exact ⟨_, _, rfl, rfl, rfl, pb_R_bad h⟩
  rw [h1, h2, h3]
  simp only [Bool.and_self]
  rw [pb_bI_t]
  simp only [if_neg pb_ne10]
  rw [show c_m_w 2 = nI nb from w2]
  by_cases h8 : nb = 8
  · subst h8
    exact ⟨_, _, rfl, rfl, rfl, pb_R_full h⟩
  · have hne : ¬ nI nb = 8 := fun e => h8 ((nI_eq (a := nb) (b := 8) (by omega) (by decide)).mp e)
    have e1 : fX6_isFull 5 8 (nI nb) = some 0 := fX6_isFull_eq (M := 8) (by omega) (by omega)
    have e2 : fX6_addFive 5 8 40 (nI nb) c_x_now_bets_cells p1 p2 p3 p4 p5 = some (nI (nb + 1), pb_put5 c_x_now_bets_cells (5 * nb) p1 p2 p3 p4 p5) := fX6_addFive_eq (M := 8) (by omega) (by omega) (by omega)
    have e3 : fX8_adds5 c_m_w 0 2 59 p1 p2 p3 p4 p5 = some (nI nb, upd (pb_put5 c_m_w (0 + 59 + 5 * nb) p1 p2 p3 p4 p5) (0 + 2) (nI (nb + 1))) := fX8_adds5_eq (r := 0) (many := 2) (first := 59) (k := nb) w2 (by omega) (by omega)
    rw [if_neg hne, e1, e2, e3]
    simp only [Option.bind_some, if_true]
    have hs0 : ∃ t : Nat, 1 ≤ t ∧ t ≤ 99 ∧ p4 = nI t := by
      have hq : (1 : Int32) ≤ p4 ∧ p4 ≤ nI 99 := of_decide_eq_true h2
      have h0 : ¬ p4 < 0 := pb_nlt.mpr (by have := hq.1; rw [Int32.le_iff_toInt_le] at this ⊢; exact Int.le_trans (by decide) this)
      obtain ⟨t, ht, rfl⟩ := nI_of h0
      exact ⟨t, (nI_leI (a := 1) (by decide) ht).mp hq.1, (nI_leI ht (by decide)).mp hq.2, rfl⟩
    obtain ⟨k1, k2, k3⟩ := pb_vC_lt h1
    refine ⟨_, _, rfl, rfl, ?_, pb_St_bet hN (by omega) k1 k2 k3 hs0 (pb_w_lt (n := 99) (by decide) h3), pb_St_frame hI0 ?_, pb_St_frame hI1 ?_, hk, hT, hF, hB, hP⟩
    · exact nI_pred nb
    · intro j a b
      show upd (pb_put5 _ _ _ _ _ _ _) _ _ j = _
      rw [pk_un (by omega), pb_put5_out (by omega)]
    · intro j a b
      show upd (pb_put5 _ _ _ _ _ _ _) _ _ j = _
      rw [pk_un (by omega), pb_put5_out (by omega)]
set_option maxHeartbeats 4000000 in
theorem st_price {c_x_refusedBad : Int32} {c_x_refusedNo : Int32} {c_x_refusedFull : Int32} {c_x_now_steps : Int32} {c_x_now_laws_size : Int32} {c_x_now_laws_cells : (Nat → Int32)} {c_x_now_finds_size : Int32} {c_x_now_finds_cells : (Nat → Int32)} {c_x_now_bets_size : Int32} {c_x_now_bets_cells : (Nat → Int32)} {c_x_now_prices_size : Int32} {c_x_now_prices_cells : (Nat → Int32)} {c_x_now_stepCells : (Nat → Int32)} {c_x_now_stepSizes : (Nat → Int32)} {c_x_draft_steps : Int32} {c_x_draft_laws_size : Int32} {c_x_draft_laws_cells : (Nat → Int32)} {c_x_draft_finds_size : Int32} {c_x_draft_finds_cells : (Nat → Int32)} {c_x_draft_bets_size : Int32} {c_x_draft_bets_cells : (Nat → Int32)} {c_x_draft_prices_size : Int32} {c_x_draft_prices_cells : (Nat → Int32)} {c_x_draft_stepCells : (Nat → Int32)} {c_x_draft_stepSizes : (Nat → Int32)} {c_x_im0_steps : Int32} {c_x_im0_laws_size : Int32} {c_x_im0_laws_cells : (Nat → Int32)} {c_x_im0_finds_size : Int32} {c_x_im0_finds_cells : (Nat → Int32)} {c_x_im0_bets_size : Int32} {c_x_im0_bets_cells : (Nat → Int32)} {c_x_im0_prices_size : Int32} {c_x_im0_prices_cells : (Nat → Int32)} {c_x_im0_stepCells : (Nat → Int32)} {c_x_im0_stepSizes : (Nat → Int32)} {c_x_im1_steps : Int32} {c_x_im1_laws_size : Int32} {c_x_im1_laws_cells : (Nat → Int32)} {c_x_im1_finds_size : Int32} {c_x_im1_finds_cells : (Nat → Int32)} {c_x_im1_bets_size : Int32} {c_x_im1_bets_cells : (Nat → Int32)} {c_x_im1_prices_size : Int32} {c_x_im1_prices_cells : (Nat → Int32)} {c_x_im1_stepCells : (Nat → Int32)} {c_x_im1_stepSizes : (Nat → Int32)} {c_x_kept : (Nat → Int32)} {c_x_pasts_total : Int64} {c_x_pasts_stale : Int32} {c_x_pasts_open : (Nat → Int32)} {c_x_pasts_weight : (Nat → Int64)} {c_x_ledger_heldCount : Int32} {c_x_ledger_worstBook : Int32} {c_x_ledger_worstPast : Int32} {c_x_ledger_sureSet : Int32} {c_x_ledger_sureWin : Int32} {c_x_ledger_seenSet : (Nat → Int32)} {c_x_ledger_heldSets : (Nat → Int32)} {c_x_ledger_pays : (Nat → Int32)} {c_x_ledger_stakes : (Nat → Int32)} {c_x_settling_leftCount : Int32} {c_x_settling_x : Int64} {c_x_settling_left : (Nat → Int32)} {c_x_reader_size : Int32} {c_x_reader_place : Int32} {c_x_reader_behind : Int32} {c_x_reader_sort : Int32} {c_x_reader_bytes : (Nat → Int32)} {c_x_reader_numbers : (Nat → Int32)} {c_x_fraction_above : Int64} {c_x_fraction_below : Int64} {c_m_texted : Int32} {c_m_above : Int64} {c_m_below : Int64} {c_m_at : Int32} {c_m_start : Int32} {c_m_isWord : Int32} {c_m_isFigures : Int32} {c_m_all : Int64} {c_m_known : Int32} {c_m_truth : Int32} {c_m_x : Int64} {c_m_h : Int64} {c_m_w : (Nat → Int32)} {c_m_isKept : (Nat → Int32)} {c_m_text : (Nat → Int32)} {c_m_refused : (Nat → Int32)} {c_m_numbers : (Nat → Int32)} {c_m_weights : (Nat → Int64)} (h : pb_R c_x_refusedBad c_x_refusedNo c_x_refusedFull c_x_now_steps c_x_now_laws_size c_x_now_laws_cells c_x_now_finds_size c_x_now_finds_cells c_x_now_bets_size c_x_now_bets_cells c_x_now_prices_size c_x_now_prices_cells c_x_now_stepCells c_x_now_stepSizes c_x_draft_steps c_x_draft_laws_size c_x_draft_laws_cells c_x_draft_finds_size c_x_draft_finds_cells c_x_draft_bets_size c_x_draft_bets_cells c_x_draft_prices_size c_x_draft_prices_cells c_x_draft_stepCells c_x_draft_stepSizes c_x_im0_steps c_x_im0_laws_size c_x_im0_laws_cells c_x_im0_finds_size c_x_im0_finds_cells c_x_im0_bets_size c_x_im0_bets_cells c_x_im0_prices_size c_x_im0_prices_cells c_x_im0_stepCells c_x_im0_stepSizes c_x_im1_steps c_x_im1_laws_size c_x_im1_laws_cells c_x_im1_finds_size c_x_im1_finds_cells c_x_im1_bets_size c_x_im1_bets_cells c_x_im1_prices_size c_x_im1_prices_cells c_x_im1_stepCells c_x_im1_stepSizes c_x_kept c_x_pasts_total c_x_pasts_stale c_x_pasts_open c_x_pasts_weight c_x_ledger_heldCount c_x_ledger_worstBook c_x_ledger_worstPast c_x_ledger_sureSet c_x_ledger_sureWin c_x_ledger_seenSet c_x_ledger_heldSets c_x_ledger_pays c_x_ledger_stakes c_x_settling_leftCount c_x_settling_x c_x_settling_left c_x_reader_size c_x_reader_place c_x_reader_behind c_x_reader_sort c_x_reader_bytes c_x_reader_numbers c_x_fraction_above c_x_fraction_below c_m_texted c_m_above c_m_below c_m_at c_m_start c_m_isWord c_m_isFigures c_m_all c_m_known c_m_truth c_m_x c_m_h c_m_w c_m_isKept c_m_text c_m_refused c_m_numbers c_m_weights) (p1 : Int32) (p2 : Int32) (p3 : Int32) (p4 : Int32) (p5 : Int32) : ∃ (oc : (Int32 × Int32 × Int32 × Int32 × (Nat → Int32))) (om : (Int32 × (Nat → Int32) × (Nat → Int32))), fX7_price c_x_refusedBad c_x_refusedFull c_x_now_prices_size c_x_now_prices_cells p1 p2 p3 p4 p5 = some oc ∧ fX8_price c_m_w c_m_refused p1 p2 p3 p4 p5 = some om ∧ oc.1 = om.1 ∧ pb_R oc.2.1 c_x_refusedNo oc.2.2.1 c_x_now_steps c_x_now_laws_size c_x_now_laws_cells c_x_now_finds_size c_x_now_finds_cells c_x_now_bets_size c_x_now_bets_cells oc.2.2.2.1 oc.2.2.2.2 c_x_now_stepCells c_x_now_stepSizes c_x_draft_steps c_x_draft_laws_size c_x_draft_laws_cells c_x_draft_finds_size c_x_draft_finds_cells c_x_draft_bets_size c_x_draft_bets_cells c_x_draft_prices_size c_x_draft_prices_cells c_x_draft_stepCells c_x_draft_stepSizes c_x_im0_steps c_x_im0_laws_size c_x_im0_laws_cells c_x_im0_finds_size c_x_im0_finds_cells c_x_im0_bets_size c_x_im0_bets_cells c_x_im0_prices_size c_x_im0_prices_cells c_x_im0_stepCells c_x_im0_stepSizes c_x_im1_steps c_x_im1_laws_size c_x_im1_laws_cells c_x_im1_finds_size c_x_im1_finds_cells c_x_im1_bets_size c_x_im1_bets_cells c_x_im1_prices_size c_x_im1_prices_cells c_x_im1_stepCells c_x_im1_stepSizes c_x_kept c_x_pasts_total c_x_pasts_stale c_x_pasts_open c_x_pasts_weight c_x_ledger_heldCount c_x_ledger_worstBook c_x_ledger_worstPast c_x_ledger_sureSet c_x_ledger_sureWin c_x_ledger_seenSet c_x_ledger_heldSets c_x_ledger_pays c_x_ledger_stakes c_x_settling_leftCount c_x_settling_x c_x_settling_left c_x_reader_size c_x_reader_place c_x_reader_behind c_x_reader_sort c_x_reader_bytes c_x_reader_numbers c_x_fraction_above c_x_fraction_below c_m_texted c_m_above c_m_below c_m_at c_m_start c_m_isWord c_m_isFigures c_m_all c_m_known c_m_truth c_m_x c_m_h om.2.1 c_m_isKept c_m_text om.2.2 c_m_numbers c_m_weights := by
  -- group b
  obtain ⟨hN, hI0, hI1, hk, hT, hF, hB, hP⟩ := id h
  obtain ⟨nl, nf, nb, np, ns, ⟨n1, n2, n3, n4, n5⟩, ⟨rfl, rfl, rfl, rfl, rfl⟩, ⟨-, -, -, w3, -⟩, -⟩ := id hN
  unfold fX7_price fX8_price
  simp only [fX7_isWithin_eq, fX7_isClaim_eq, fX8_isClaim_eq, fX8_in_eq' p4 0 99 (a := 0) (b := 99) (by decide) (by decide), fX8_in_eq' p5 0 1 (a := 0) (b := 1) (by decide) (by decide), Option.bind_some, fX8_bad_eq, fX7_asBad_eq, fX8_full_eq, fX7_asFull_eq]
  by_cases h1 : pb_vC p1 p2 p3 = true
  case neg => 
    rw [Bool.not_eq_true] at h1
    rw [h1]
    exact ⟨_, _, rfl, rfl, rfl, pb_R_bad h⟩
  by_cases h2 : pb_w p4 0 99 = true
  case neg => 
    rw [Bool.not_eq_true] at h2
    rw [h1, h2]
    exact ⟨_, _, rfl, rfl, rfl, pb_R_bad h⟩
  by_cases h3 : pb_w p5 0 1 = true
  case neg => 
    rw [Bool.not_eq_true] at h3
    rw [h1, h2, h3]
    exact ⟨_, _, rfl, rfl, rfl, pb_R_bad h⟩
  rw [h1, h2, h3]
  rw [pb_bI_t]
  simp only [if_neg pb_ne10]
  rw [show c_m_w 3 = nI np from w3]
  by_cases h8 : np = 6
  · subst h8
    exact ⟨_, _, rfl, rfl, rfl, pb_R_full h⟩
  · have hne : ¬ nI np = 6 := fun e => h8 ((nI_eq (a := np) (b := 6) (by omega) (by decide)).mp e)
    have e1 : fX6_isFull 5 6 (nI np) = some 0 := fX6_isFull_eq (M := 6) (by omega) (by omega)
    have e2 : fX6_addFive 5 6 30 (nI np) c_x_now_prices_cells p1 p2 p3 p4 p5 = some (nI (np + 1), pb_put5 c_x_now_prices_cells (5 * np) p1 p2 p3 p4 p5) := fX6_addFive_eq (M := 6) (by omega) (by omega) (by omega)
    have e3 : fX8_adds5 c_m_w 0 3 99 p1 p2 p3 p4 p5 = some (nI np, upd (pb_put5 c_m_w (0 + 99 + 5 * np) p1 p2 p3 p4 p5) (0 + 3) (nI (np + 1))) := fX8_adds5_eq (r := 0) (many := 3) (first := 99) (k := np) w3 (by omega) (by omega)
    rw [if_neg hne, e1, e2, e3]
    simp only [Option.bind_some, if_true]
    obtain ⟨k1, k2, k3⟩ := pb_vC_lt h1
    refine ⟨_, _, rfl, rfl, ?_, pb_St_price hN (by omega) k1 k2 k3 (pb_w_lt (n := 99) (by decide) h2) (pb_w_lt (n := 1) (by decide) h3), pb_St_frame hI0 ?_, pb_St_frame hI1 ?_, hk, hT, hF, hB, hP⟩
    · exact (nI_1 np).symm
    · intro j a b
      show upd (pb_put5 _ _ _ _ _ _ _) _ _ j = _
      rw [pk_un (by omega), pb_put5_out (by omega)]
    · intro j a b
      show upd (pb_put5 _ _ _ _ _ _ _) _ _ j = _
      rw [pk_un (by omega), pb_put5_out (by omega)]
