set_option maxHeartbeats 8000000 in
set_option maxRecDepth 100000 in
theorem law_sw {l : Launch} {D : va_G} {cI cB cJ cZ : ClassId} {ad : Nat → Nat} {ws : va_W} {sz b n : Nat} {xs : Nat → Int32} {k nc ns : Nat} {k_length : Int32} {k_repaired : Int32} {k_spent : Int32} {g_size : Int32} {g_heads : Nat → Int32} {g_lengths : Nat → Int32} {g_symbols : Nat → Int32} {g_hints : Nat → Int32} {g_ins : Nat → Int32} {g_ground : Nat → Int32} {k_text : Nat → Int32} {c_length : Int32} {c_size : Int32} {c_comments : Int32} {c_text : Nat → Int32} {c_starts : Nat → Int32} {c_lengths : Nat → Int32} {c_signs : Nat → Int32} {c_firstComments : Nat → Int32} {c_commentStarts : Nat → Int32} {c_commentEnds : Nat → Int32} {h_prices : Nat → Int64} {h_choices : Nat → Int32} {h_begun : Nat → Int64} {h_traced : Nat → Int64} {t_waiting : Int32} {t_size : Int32} {t_skipped : Int32} {t_cells : Nat → Int32} {t_hints : Nat → Int32} {t_within : Nat → Int32} {t_begins : Nat → Int32} {t_waitSymbols : Nat → Int32} {t_waitParents : Nat → Int32} {t_waitFirsts : Nat → Int32} {t_waitEnds : Nat → Int32} {t_waitHints : Nat → Int32} {p_size : Int32} {p_column : Int32} {p_sheet : Nat → Int32} {p_flats : Nat → Int32} {p_broken : Nat → Int32} {p_indents : Nat → Int32} {m_thrown : Int32} {m_rules : Int32} {m_length : Int32} {m_tree : Int32} {m_tokens : Int32} {m_comments : Int32} {m_parts : Int32} {m_end : Int32} {m_open : Int32} {m_column : Int32} {m_printed : Int32} {m_repaired : Int32} {m_paid : Int32} {m_head : Nat → Int32} {m_size : Nat → Int32} {m_symbol : Nat → Int32} {m_hint : Nat → Int32} {m_in : Nat → Int32} {m_text : Nat → Int32} {m_kept : Nat → Int32} {m_tokenAt : Nat → Int32} {m_tokenLength : Nat → Int32} {m_sign : Nat → Int32} {m_commentAt : Nat → Int32} {m_commentLength : Nat → Int32} {m_firstComment : Nat → Int32} {m_best : Nat → Int64} {m_row : Nat → Int64} {m_cut : Nat → Int32} {m_ruleOf : Nat → Int32} {m_symbolOf : Nat → Int32} {m_parent : Nat → Int32} {m_place : Nat → Int32} {m_from : Nat → Int32} {m_to : Nat → Int32} {m_cost : Nat → Int32} {m_deep : Nat → Int32} {m_waiting : Nat → Int32} {m_wide : Nat → Int32} {m_begins : Nat → Int32} {m_started : Nat → Int32} {m_broken : Nat → Int32} {m_print : Nat → Int32} {out : Nat → Int64} (hl : l.stackTraces = false) (hws : va_D (va_A [] sz) ws) (hR : nc + 1 ≤ 210 ∧ ns + 6 ≤ 27763) (hs1 : (nI k + 1).toNatClampNeg = k + 1 ∧ vp_in (nI k + 1) n) (hs2 : (nI k + 2).toNatClampNeg = k + 2 ∧ vp_in (nI k + 2) n) (hs3 : (nI k + 3).toNatClampNeg = k + 3 ∧ vp_in (nI k + 3) n) (hs4 : (nI k + 4).toNatClampNeg = k + 4 ∧ vp_in (nI k + 4) n) (hRS : RS k_length k_repaired k_spent g_size g_heads g_lengths g_symbols g_hints g_ins g_ground k_text c_length c_size c_comments c_text c_starts c_lengths c_signs c_firstComments c_commentStarts c_commentEnds h_prices h_choices h_begun h_traced t_waiting t_size t_skipped t_cells t_hints t_within t_begins t_waitSymbols t_waitParents t_waitFirsts t_waitEnds t_waitHints p_size p_column p_sheet p_flats p_broken p_indents m_thrown m_rules m_length m_tree m_tokens m_comments m_parts m_end m_open m_column m_printed m_repaired m_paid m_head m_size m_symbol m_hint m_in m_text m_kept m_tokenAt m_tokenLength m_sign m_commentAt m_commentLength m_firstComment m_best m_row m_cut m_ruleOf m_symbolOf m_parent m_place m_from m_to m_cost m_deep m_waiting m_wide m_begins m_started m_broken m_print) (hk : ∀ (k_length : Int32) (k_repaired : Int32) (k_spent : Int32) (g_size : Int32) (g_heads : Nat → Int32) (g_lengths : Nat → Int32) (g_symbols : Nat → Int32) (g_hints : Nat → Int32) (g_ins : Nat → Int32) (g_ground : Nat → Int32) (k_text : Nat → Int32) (c_length : Int32) (c_size : Int32) (c_comments : Int32) (c_text : Nat → Int32) (c_starts : Nat → Int32) (c_lengths : Nat → Int32) (c_signs : Nat → Int32) (c_firstComments : Nat → Int32) (c_commentStarts : Nat → Int32) (c_commentEnds : Nat → Int32) (h_prices : Nat → Int64) (h_choices : Nat → Int32) (h_begun : Nat → Int64) (h_traced : Nat → Int64) (t_waiting : Int32) (t_size : Int32) (t_skipped : Int32) (t_cells : Nat → Int32) (t_hints : Nat → Int32) (t_within : Nat → Int32) (t_begins : Nat → Int32) (t_waitSymbols : Nat → Int32) (t_waitParents : Nat → Int32) (t_waitFirsts : Nat → Int32) (t_waitEnds : Nat → Int32) (t_waitHints : Nat → Int32) (p_size : Int32) (p_column : Int32) (p_sheet : Nat → Int32) (p_flats : Nat → Int32) (p_broken : Nat → Int32) (p_indents : Nat → Int32) (m_thrown : Int32) (m_rules : Int32) (m_length : Int32) (m_tree : Int32) (m_tokens : Int32) (m_comments : Int32) (m_parts : Int32) (m_end : Int32) (m_open : Int32) (m_column : Int32) (m_printed : Int32) (m_repaired : Int32) (m_paid : Int32) (m_head : Nat → Int32) (m_size : Nat → Int32) (m_symbol : Nat → Int32) (m_hint : Nat → Int32) (m_in : Nat → Int32) (m_text : Nat → Int32) (m_kept : Nat → Int32) (m_tokenAt : Nat → Int32) (m_tokenLength : Nat → Int32) (m_sign : Nat → Int32) (m_commentAt : Nat → Int32) (m_commentLength : Nat → Int32) (m_firstComment : Nat → Int32) (m_best : Nat → Int64) (m_row : Nat → Int64) (m_cut : Nat → Int32) (m_ruleOf : Nat → Int32) (m_symbolOf : Nat → Int32) (m_parent : Nat → Int32) (m_place : Nat → Int32) (m_from : Nat → Int32) (m_to : Nat → Int32) (m_cost : Nat → Int32) (m_deep : Nat → Int32) (m_waiting : Nat → Int32) (m_wide : Nat → Int32) (m_begins : Nat → Int32) (m_started : Nat → Int32) (m_broken : Nat → Int32) (m_print : Nat → Int32) (out : Nat → Int64), RS k_length k_repaired k_spent g_size g_heads g_lengths g_symbols g_hints g_ins g_ground k_text c_length c_size c_comments c_text c_starts c_lengths c_signs c_firstComments c_commentStarts c_commentEnds h_prices h_choices h_begun h_traced t_waiting t_size t_skipped t_cells t_hints t_within t_begins t_waitSymbols t_waitParents t_waitFirsts t_waitEnds t_waitHints p_size p_column p_sheet p_flats p_broken p_indents m_thrown m_rules m_length m_tree m_tokens m_comments m_parts m_end m_open m_column m_printed m_repaired m_paid m_head m_size m_symbol m_hint m_in m_text m_kept m_tokenAt m_tokenLength m_sign m_commentAt m_commentLength m_firstComment m_best m_row m_cut m_ruleOf m_symbolOf m_parent m_place m_from m_to m_cost m_deep m_waiting m_wide m_begins m_started m_broken m_print → KG l xL_law D (kT cI cB cJ cZ) ws sz (lQ b n xs sz) (nc + 1) (ns + 6) 737 (lvL ad b k) [] (LW ad cI cB cJ cZ k_length k_repaired k_spent g_size g_heads g_lengths g_symbols g_hints g_ins g_ground k_text c_length c_size c_comments c_text c_starts c_lengths c_signs c_firstComments c_commentStarts c_commentEnds h_prices h_choices h_begun h_traced t_waiting t_size t_skipped t_cells t_hints t_within t_begins t_waitSymbols t_waitParents t_waitFirsts t_waitEnds t_waitHints p_size p_column p_sheet p_flats p_broken p_indents m_thrown m_rules m_length m_tree m_tokens m_comments m_parts m_end m_open m_column m_printed m_repaired m_paid m_head m_size m_symbol m_hint m_in m_text m_kept m_tokenAt m_tokenLength m_sign m_commentAt m_commentLength m_firstComment m_best m_row m_cut m_ruleOf m_symbolOf m_parent m_place m_from m_to m_cost m_deep m_waiting m_wide m_begins m_started m_broken m_print out)) (x : Int32) : KG l xL_law D (kT cI cB cJ cZ) ws sz (lQ b n xs sz) nc ns 39 (lvL ad b k) [.int x] (LW ad cI cB cJ cZ k_length k_repaired k_spent g_size g_heads g_lengths g_symbols g_hints g_ins g_ground k_text c_length c_size c_comments c_text c_starts c_lengths c_signs c_firstComments c_commentStarts c_commentEnds h_prices h_choices h_begun h_traced t_waiting t_size t_skipped t_cells t_hints t_within t_begins t_waitSymbols t_waitParents t_waitFirsts t_waitEnds t_waitHints p_size p_column p_sheet p_flats p_broken p_indents m_thrown m_rules m_length m_tree m_tokens m_comments m_parts m_end m_open m_column m_printed m_repaired m_paid m_head m_size m_symbol m_hint m_in m_text m_kept m_tokenAt m_tokenLength m_sign m_commentAt m_commentLength m_firstComment m_best m_row m_cut m_ruleOf m_symbolOf m_parent m_place m_from m_to m_cost m_deep m_waiting m_wide m_begins m_started m_broken m_print out) := by
  by_cases c0 : x = 0
  · refine k_tabIn (off := 65) 104 dL_law_39 (by rw [c0]; decide) (by rw [c0]; decide) (by rw [c0]; decide) (by decide) ?_
    exact lawc_rule hl hws hR hs1 hs2 hs3 hs4 hRS hk
  by_cases c1 : x = 1
  · refine k_tabIn (off := 173) 212 dL_law_39 (by rw [c1]; decide) (by rw [c1]; decide) (by rw [c1]; decide) (by decide) ?_
    exact lawc_write hl hws hR hs1 hs2 hs3 hs4 hRS hk
  by_cases c2 : x = 2
  · refine k_tabIn (off := 273) 312 dL_law_39 (by rw [c2]; decide) (by rw [c2]; decide) (by rw [c2]; decide) (by decide) ?_
    exact lawc_erase hl hws hR hs1 hs2 hs3 hs4 hRS hk
  by_cases c3 : x = 3
  · refine k_tabIn (off := 286) 325 dL_law_39 (by rw [c3]; decide) (by rw [c3]; decide) (by rw [c3]; decide) (by decide) ?_
    exact lawc_repair hl hws hR hs1 hs2 hs3 hs4 hRS hk
  by_cases c4 : x = 4
  · refine k_tabIn (off := 330) 369 dL_law_39 (by rw [c4]; decide) (by rw [c4]; decide) (by rw [c4]; decide) (by decide) ?_
    exact lawc_tokens hl hws hR hs1 hs2 hs3 hs4 hRS hk
  by_cases c5 : x = 5
  · refine k_tabIn (off := 343) 382 dL_law_39 (by rw [c5]; decide) (by rw [c5]; decide) (by rw [c5]; decide) (by decide) ?_
    exact lawc_token hl hws hR hs1 hs2 hs3 hs4 hRS hk
  by_cases c6 : x = 6
  · refine k_tabIn (off := 411) 450 dL_law_39 (by rw [c6]; decide) (by rw [c6]; decide) (by rw [c6]; decide) (by decide) ?_
    exact lawc_parts hl hws hR hs1 hs2 hs3 hs4 hRS hk
  by_cases c7 : x = 7
  · refine k_tabIn (off := 424) 463 dL_law_39 (by rw [c7]; decide) (by rw [c7]; decide) (by rw [c7]; decide) (by decide) ?_
    exact lawc_part hl hws hR hs1 hs2 hs3 hs4 hRS hk
  by_cases c8 : x = 8
  · refine k_tabIn (off := 492) 531 dL_law_39 (by rw [c8]; decide) (by rw [c8]; decide) (by rw [c8]; decide) (by decide) ?_
    exact lawc_rest hl hws hR hs1 hs2 hs3 hs4 hRS hk
  by_cases c9 : x = 9
  · refine k_tabIn (off := 536) 575 dL_law_39 (by rw [c9]; decide) (by rw [c9]; decide) (by rw [c9]; decide) (by decide) ?_
    exact lawc_print hl hws hR hs1 hs2 hs3 hs4 hRS hk
  by_cases c10 : x = 10
  · refine k_tabIn (off := 592) 631 dL_law_39 (by rw [c10]; decide) (by rw [c10]; decide) (by rw [c10]; decide) (by decide) ?_
    exact lawc_character hl hws hR hs1 hs2 hs3 hs4 hRS hk
  by_cases c11 : x = 11
  · refine k_tabIn (off := 648) 687 dL_law_39 (by rw [c11]; decide) (by rw [c11]; decide) (by rw [c11]; decide) (by decide) ?_
    exact lawc_grounded hl hws hR hs1 hs2 hs3 hs4 hRS hk
  by_cases c12 : x = 12
  · refine k_tabIn (off := 673) 712 dL_law_39 (by rw [c12]; decide) (by rw [c12]; decide) (by rw [c12]; decide) (by decide) ?_
    exact lawc_count hl hws hR hs1 hs2 hs3 hs4 hRS hk
  refine k_tabOut 737 dL_law_39 (tab_out (n := 12) (by decide) (fun k hk => by
    have hk9 : k = 0 ∨ k = 1 ∨ k = 2 ∨ k = 3 ∨ k = 4 ∨ k = 5 ∨ k = 6 ∨ k = 7 ∨ k = 8 ∨ k = 9 ∨ k = 10 ∨ k = 11 ∨ k = 12 := by omega
    rcases hk9 with rfl | rfl | rfl | rfl | rfl | rfl | rfl | rfl | rfl | rfl | rfl | rfl | rfl
    · exact c0
    · exact c1
    · exact c2
    · exact c3
    · exact c4
    · exact c5
    · exact c6
    · exact c7
    · exact c8
    · exact c9
    · exact c10
    · exact c11
    · exact c12)) (by decide) ?_
  refine KG.widen (nc' := nc + 1) (ns' := ns + 6) (by omega) (by omega) ?_
  exact hk _ _ _ _ _ _ _ _ _ _ _ _ _ _ _ _ _ _ _ _ _ _ _ _ _ _ _ _ _ _ _ _ _ _ _ _ _ _ _ _ _ _ _ _ _ _ _ _ _ _ _ _ _ _ _ _ _ _ _ _ _ _ _ _ _ _ _ _ _ _ _ _ _ _ _ _ _ _ _ _ _ _ _ _ _ _ _ hRS
set_option maxHeartbeats 8000000 in
set_option maxRecDepth 100000 in
theorem law_loop {l : Launch} {D : va_G} {cI cB cJ cZ : ClassId} {ad : Nat → Nat} {ws : va_W} {sz b n : Nat} {xs : Nat → Int32} (hl : l.stackTraces = false) (hws : va_D (va_A [] sz) ws) (hn : n ≤ 320) : ∀ (d j : Nat), 64 ≤ j + d → j ≤ 64 → ∀ (k_length : Int32) (k_repaired : Int32) (k_spent : Int32) (g_size : Int32) (g_heads : Nat → Int32) (g_lengths : Nat → Int32) (g_symbols : Nat → Int32) (g_hints : Nat → Int32) (g_ins : Nat → Int32) (g_ground : Nat → Int32) (k_text : Nat → Int32) (c_length : Int32) (c_size : Int32) (c_comments : Int32) (c_text : Nat → Int32) (c_starts : Nat → Int32) (c_lengths : Nat → Int32) (c_signs : Nat → Int32) (c_firstComments : Nat → Int32) (c_commentStarts : Nat → Int32) (c_commentEnds : Nat → Int32) (h_prices : Nat → Int64) (h_choices : Nat → Int32) (h_begun : Nat → Int64) (h_traced : Nat → Int64) (t_waiting : Int32) (t_size : Int32) (t_skipped : Int32) (t_cells : Nat → Int32) (t_hints : Nat → Int32) (t_within : Nat → Int32) (t_begins : Nat → Int32) (t_waitSymbols : Nat → Int32) (t_waitParents : Nat → Int32) (t_waitFirsts : Nat → Int32) (t_waitEnds : Nat → Int32) (t_waitHints : Nat → Int32) (p_size : Int32) (p_column : Int32) (p_sheet : Nat → Int32) (p_flats : Nat → Int32) (p_broken : Nat → Int32) (p_indents : Nat → Int32) (m_thrown : Int32) (m_rules : Int32) (m_length : Int32) (m_tree : Int32) (m_tokens : Int32) (m_comments : Int32) (m_parts : Int32) (m_end : Int32) (m_open : Int32) (m_column : Int32) (m_printed : Int32) (m_repaired : Int32) (m_paid : Int32) (m_head : Nat → Int32) (m_size : Nat → Int32) (m_symbol : Nat → Int32) (m_hint : Nat → Int32) (m_in : Nat → Int32) (m_text : Nat → Int32) (m_kept : Nat → Int32) (m_tokenAt : Nat → Int32) (m_tokenLength : Nat → Int32) (m_sign : Nat → Int32) (m_commentAt : Nat → Int32) (m_commentLength : Nat → Int32) (m_firstComment : Nat → Int32) (m_best : Nat → Int64) (m_row : Nat → Int64) (m_cut : Nat → Int32) (m_ruleOf : Nat → Int32) (m_symbolOf : Nat → Int32) (m_parent : Nat → Int32) (m_place : Nat → Int32) (m_from : Nat → Int32) (m_to : Nat → Int32) (m_cost : Nat → Int32) (m_deep : Nat → Int32) (m_waiting : Nat → Int32) (m_wide : Nat → Int32) (m_begins : Nat → Int32) (m_started : Nat → Int32) (m_broken : Nat → Int32) (m_print : Nat → Int32) (out : Nat → Int64), RS k_length k_repaired k_spent g_size g_heads g_lengths g_symbols g_hints g_ins g_ground k_text c_length c_size c_comments c_text c_starts c_lengths c_signs c_firstComments c_commentStarts c_commentEnds h_prices h_choices h_begun h_traced t_waiting t_size t_skipped t_cells t_hints t_within t_begins t_waitSymbols t_waitParents t_waitFirsts t_waitEnds t_waitHints p_size p_column p_sheet p_flats p_broken p_indents m_thrown m_rules m_length m_tree m_tokens m_comments m_parts m_end m_open m_column m_printed m_repaired m_paid m_head m_size m_symbol m_hint m_in m_text m_kept m_tokenAt m_tokenLength m_sign m_commentAt m_commentLength m_firstComment m_best m_row m_cut m_ruleOf m_symbolOf m_parent m_place m_from m_to m_cost m_deep m_waiting m_wide m_begins m_started m_broken m_print → KG l xL_law D (kT cI cB cJ cZ) ws sz (lQ b n xs sz) (69 + j) (26661 + 6 * j) 23 (lvL ad b (5 * j)) [] (LW ad cI cB cJ cZ k_length k_repaired k_spent g_size g_heads g_lengths g_symbols g_hints g_ins g_ground k_text c_length c_size c_comments c_text c_starts c_lengths c_signs c_firstComments c_commentStarts c_commentEnds h_prices h_choices h_begun h_traced t_waiting t_size t_skipped t_cells t_hints t_within t_begins t_waitSymbols t_waitParents t_waitFirsts t_waitEnds t_waitHints p_size p_column p_sheet p_flats p_broken p_indents m_thrown m_rules m_length m_tree m_tokens m_comments m_parts m_end m_open m_column m_printed m_repaired m_paid m_head m_size m_symbol m_hint m_in m_text m_kept m_tokenAt m_tokenLength m_sign m_commentAt m_commentLength m_firstComment m_best m_row m_cut m_ruleOf m_symbolOf m_parent m_place m_from m_to m_cost m_deep m_waiting m_wide m_begins m_started m_broken m_print out) := by
  intro d
  induction d with
  | zero =>
    intro j hd hj k_length k_repaired k_spent g_size g_heads g_lengths g_symbols g_hints g_ins g_ground k_text c_length c_size c_comments c_text c_starts c_lengths c_signs c_firstComments c_commentStarts c_commentEnds h_prices h_choices h_begun h_traced t_waiting t_size t_skipped t_cells t_hints t_within t_begins t_waitSymbols t_waitParents t_waitFirsts t_waitEnds t_waitHints p_size p_column p_sheet p_flats p_broken p_indents m_thrown m_rules m_length m_tree m_tokens m_comments m_parts m_end m_open m_column m_printed m_repaired m_paid m_head m_size m_symbol m_hint m_in m_text m_kept m_tokenAt m_tokenLength m_sign m_commentAt m_commentLength m_firstComment m_best m_row m_cut m_ruleOf m_symbolOf m_parent m_place m_from m_to m_cost m_deep m_waiting m_wide m_begins m_started m_broken m_print out hRS
    refine k_iload dL_law_23 0 rfl ?_
    refine k_aload_n dL_law_25 4 rfl rfl ?_
    refine kg_slen hws dL_law_26 ?_
    refine k_iconst (v := 5) dL_law_27 (by decide) ?_
    refine k_isub dL_law_28 ?_
    refine kb_igt 743 dL_law_29 (by decide) (fun _ => ?_) (fun h => ?_)
    · refine k_iconst (v := 1) dL_law_743 (by decide) ?_
      exact kg_lret hws ⟨by omega, by omega⟩ dL_law_744
    · exfalso
      refine h ?_
      have h1 : Int32.ofNat n = nI n := rfl
      rw [h1, Int32.lt_iff_toInt_lt, show (5 : Int32) = nI 5 from rfl, pk_sub_toInt (by omega) (by omega), nI_toInt (by omega)]
      omega
  | succ d ih =>
    intro j hd hj k_length k_repaired k_spent g_size g_heads g_lengths g_symbols g_hints g_ins g_ground k_text c_length c_size c_comments c_text c_starts c_lengths c_signs c_firstComments c_commentStarts c_commentEnds h_prices h_choices h_begun h_traced t_waiting t_size t_skipped t_cells t_hints t_within t_begins t_waitSymbols t_waitParents t_waitFirsts t_waitEnds t_waitHints p_size p_column p_sheet p_flats p_broken p_indents m_thrown m_rules m_length m_tree m_tokens m_comments m_parts m_end m_open m_column m_printed m_repaired m_paid m_head m_size m_symbol m_hint m_in m_text m_kept m_tokenAt m_tokenLength m_sign m_commentAt m_commentLength m_firstComment m_best m_row m_cut m_ruleOf m_symbolOf m_parent m_place m_from m_to m_cost m_deep m_waiting m_wide m_begins m_started m_broken m_print out hRS
    refine k_iload dL_law_23 0 rfl ?_
    refine k_aload_n dL_law_25 4 rfl rfl ?_
    refine kg_slen hws dL_law_26 ?_
    refine k_iconst (v := 5) dL_law_27 (by decide) ?_
    refine k_isub dL_law_28 ?_
    refine kb_igt 743 dL_law_29 (by decide) (fun _ => ?_) (fun h => ?_)
    · refine k_iconst (v := 1) dL_law_743 (by decide) ?_
      exact kg_lret hws ⟨by omega, by omega⟩ dL_law_744
    · have hlt : 5 * j + 5 ≤ n := by
        rcases Nat.lt_or_ge n (5 * j + 5) with c | c
        · exfalso
          refine h ?_
          have h1 : Int32.ofNat n = nI n := rfl
          rw [h1, Int32.lt_iff_toInt_lt, show (5 : Int32) = nI 5 from rfl, pk_sub_toInt (by omega) (by omega), nI_toInt (by omega)]
          omega
        · exact c
      have hin : ∀ t, t ≤ 4 → (nI (5 * j + t)).toNatClampNeg = 5 * j + t ∧ vp_in (nI (5 * j + t)) n := fun t ht => ⟨nI_cl (by omega), nI_in (by omega) (by omega)⟩
      have e1 : nI (5 * j) + 1 = nI (5 * j + 1) := nI_1 _
      have e2 : nI (5 * j) + 2 = nI (5 * j + 2) := by rw [show (2 : Int32) = nI 2 from rfl, nI_add]
      have e3 : nI (5 * j) + 3 = nI (5 * j + 3) := by rw [show (3 : Int32) = nI 3 from rfl, nI_add]
      have e4 : nI (5 * j) + 4 = nI (5 * j + 4) := by rw [show (4 : Int32) = nI 4 from rfl, nI_add]
      refine k_aload_n dL_law_32 4 rfl rfl ?_
      refine k_iload dL_law_33 0 rfl ?_
      refine kg_sld (5 * j) (hin 0 (by omega)) hws dL_law_35 ?_
      refine k_bipush (v := 15) dL_law_36 (by decide) ?_
      refine k_iand dL_law_38 ?_
      refine law_sw hl hws ⟨by omega, by omega⟩ (by rw [e1]; exact hin 1 (by omega)) (by rw [e2]; exact hin 2 (by omega)) (by rw [e3]; exact hin 3 (by omega)) (by rw [e4]; exact hin 4 (by omega)) hRS ?_ _
      intro k_length k_repaired k_spent g_size g_heads g_lengths g_symbols g_hints g_ins g_ground k_text c_length c_size c_comments c_text c_starts c_lengths c_signs c_firstComments c_commentStarts c_commentEnds h_prices h_choices h_begun h_traced t_waiting t_size t_skipped t_cells t_hints t_within t_begins t_waitSymbols t_waitParents t_waitFirsts t_waitEnds t_waitHints p_size p_column p_sheet p_flats p_broken p_indents m_thrown m_rules m_length m_tree m_tokens m_comments m_parts m_end m_open m_column m_printed m_repaired m_paid m_head m_size m_symbol m_hint m_in m_text m_kept m_tokenAt m_tokenLength m_sign m_commentAt m_commentLength m_firstComment m_best m_row m_cut m_ruleOf m_symbolOf m_parent m_place m_from m_to m_cost m_deep m_waiting m_wide m_begins m_started m_broken m_print out hRS
      refine kb_iinc (i := 4) (y := nI (5 * (j + 1))) (lv' := lvL ad b (5 * (j + 1))) dL_law_737 0 rfl (Nat.le_of_ble_eq_true rfl) (by rw [show Int32.ofInt 5 = nI 5 from rfl, nI_add]; rfl) rfl ?_
      refine k_goto 23 dL_law_740 (by decide) ?_
      exact KG.widen (by omega) (by omega) (ih (j + 1) (by omega) (by omega) _ _ _ _ _ _ _ _ _ _ _ _ _ _ _ _ _ _ _ _ _ _ _ _ _ _ _ _ _ _ _ _ _ _ _ _ _ _ _ _ _ _ _ _ _ _ _ _ _ _ _ _ _ _ _ _ _ _ _ _ _ _ _ _ _ _ _ _ _ _ _ _ _ _ _ _ _ _ _ _ _ _ _ _ _ _ _ hRS)
