set_option maxHeartbeats 8000000 in
set_option maxRecDepth 100000 in
theorem lawc_rule {l : Launch} {D : va_G} {cI cB cJ cZ : ClassId} {ad : Nat → Nat} {ws : va_W} {sz b n : Nat} {xs : Nat → Int32} {k nc ns : Nat} {k_length : Int32} {k_repaired : Int32} {k_spent : Int32} {g_size : Int32} {g_heads : Nat → Int32} {g_lengths : Nat → Int32} {g_symbols : Nat → Int32} {g_hints : Nat → Int32} {g_ins : Nat → Int32} {g_ground : Nat → Int32} {k_text : Nat → Int32} {c_length : Int32} {c_size : Int32} {c_comments : Int32} {c_text : Nat → Int32} {c_starts : Nat → Int32} {c_lengths : Nat → Int32} {c_signs : Nat → Int32} {c_firstComments : Nat → Int32} {c_commentStarts : Nat → Int32} {c_commentEnds : Nat → Int32} {h_prices : Nat → Int64} {h_choices : Nat → Int32} {h_begun : Nat → Int64} {h_traced : Nat → Int64} {t_waiting : Int32} {t_size : Int32} {t_skipped : Int32} {t_cells : Nat → Int32} {t_hints : Nat → Int32} {t_within : Nat → Int32} {t_begins : Nat → Int32} {t_waitSymbols : Nat → Int32} {t_waitParents : Nat → Int32} {t_waitFirsts : Nat → Int32} {t_waitEnds : Nat → Int32} {t_waitHints : Nat → Int32} {p_size : Int32} {p_column : Int32} {p_sheet : Nat → Int32} {p_flats : Nat → Int32} {p_broken : Nat → Int32} {p_indents : Nat → Int32} {m_thrown : Int32} {m_rules : Int32} {m_length : Int32} {m_tree : Int32} {m_tokens : Int32} {m_comments : Int32} {m_parts : Int32} {m_end : Int32} {m_open : Int32} {m_column : Int32} {m_printed : Int32} {m_repaired : Int32} {m_paid : Int32} {m_head : Nat → Int32} {m_size : Nat → Int32} {m_symbol : Nat → Int32} {m_hint : Nat → Int32} {m_in : Nat → Int32} {m_text : Nat → Int32} {m_kept : Nat → Int32} {m_tokenAt : Nat → Int32} {m_tokenLength : Nat → Int32} {m_sign : Nat → Int32} {m_commentAt : Nat → Int32} {m_commentLength : Nat → Int32} {m_firstComment : Nat → Int32} {m_best : Nat → Int64} {m_row : Nat → Int64} {m_cut : Nat → Int32} {m_ruleOf : Nat → Int32} {m_symbolOf : Nat → Int32} {m_parent : Nat → Int32} {m_place : Nat → Int32} {m_from : Nat → Int32} {m_to : Nat → Int32} {m_cost : Nat → Int32} {m_deep : Nat → Int32} {m_waiting : Nat → Int32} {m_wide : Nat → Int32} {m_begins : Nat → Int32} {m_started : Nat → Int32} {m_broken : Nat → Int32} {m_print : Nat → Int32} {out : Nat → Int64} (hl : l.stackTraces = false) (hws : va_D (va_A [] sz) ws) (hR : nc + 1 ≤ 210 ∧ ns + 6 ≤ 27763) (hs1 : (nI k + 1).toNatClampNeg = k + 1 ∧ vp_in (nI k + 1) n) (hs2 : (nI k + 2).toNatClampNeg = k + 2 ∧ vp_in (nI k + 2) n) (hs3 : (nI k + 3).toNatClampNeg = k + 3 ∧ vp_in (nI k + 3) n) (hs4 : (nI k + 4).toNatClampNeg = k + 4 ∧ vp_in (nI k + 4) n) (hRS : RS k_length k_repaired k_spent g_size g_heads g_lengths g_symbols g_hints g_ins g_ground k_text c_length c_size c_comments c_text c_starts c_lengths c_signs c_firstComments c_commentStarts c_commentEnds h_prices h_choices h_begun h_traced t_waiting t_size t_skipped t_cells t_hints t_within t_begins t_waitSymbols t_waitParents t_waitFirsts t_waitEnds t_waitHints p_size p_column p_sheet p_flats p_broken p_indents m_thrown m_rules m_length m_tree m_tokens m_comments m_parts m_end m_open m_column m_printed m_repaired m_paid m_head m_size m_symbol m_hint m_in m_text m_kept m_tokenAt m_tokenLength m_sign m_commentAt m_commentLength m_firstComment m_best m_row m_cut m_ruleOf m_symbolOf m_parent m_place m_from m_to m_cost m_deep m_waiting m_wide m_begins m_started m_broken m_print) (hk : ∀ (k_length : Int32) (k_repaired : Int32) (k_spent : Int32) (g_size : Int32) (g_heads : Nat → Int32) (g_lengths : Nat → Int32) (g_symbols : Nat → Int32) (g_hints : Nat → Int32) (g_ins : Nat → Int32) (g_ground : Nat → Int32) (k_text : Nat → Int32) (c_length : Int32) (c_size : Int32) (c_comments : Int32) (c_text : Nat → Int32) (c_starts : Nat → Int32) (c_lengths : Nat → Int32) (c_signs : Nat → Int32) (c_firstComments : Nat → Int32) (c_commentStarts : Nat → Int32) (c_commentEnds : Nat → Int32) (h_prices : Nat → Int64) (h_choices : Nat → Int32) (h_begun : Nat → Int64) (h_traced : Nat → Int64) (t_waiting : Int32) (t_size : Int32) (t_skipped : Int32) (t_cells : Nat → Int32) (t_hints : Nat → Int32) (t_within : Nat → Int32) (t_begins : Nat → Int32) (t_waitSymbols : Nat → Int32) (t_waitParents : Nat → Int32) (t_waitFirsts : Nat → Int32) (t_waitEnds : Nat → Int32) (t_waitHints : Nat → Int32) (p_size : Int32) (p_column : Int32) (p_sheet : Nat → Int32) (p_flats : Nat → Int32) (p_broken : Nat → Int32) (p_indents : Nat → Int32) (m_thrown : Int32) (m_rules : Int32) (m_length : Int32) (m_tree : Int32) (m_tokens : Int32) (m_comments : Int32) (m_parts : Int32) (m_end : Int32) (m_open : Int32) (m_column : Int32) (m_printed : Int32) (m_repaired : Int32) (m_paid : Int32) (m_head : Nat → Int32) (m_size : Nat → Int32) (m_symbol : Nat → Int32) (m_hint : Nat → Int32) (m_in : Nat → Int32) (m_text : Nat → Int32) (m_kept : Nat → Int32) (m_tokenAt : Nat → Int32) (m_tokenLength : Nat → Int32) (m_sign : Nat → Int32) (m_commentAt : Nat → Int32) (m_commentLength : Nat → Int32) (m_firstComment : Nat → Int32) (m_best : Nat → Int64) (m_row : Nat → Int64) (m_cut : Nat → Int32) (m_ruleOf : Nat → Int32) (m_symbolOf : Nat → Int32) (m_parent : Nat → Int32) (m_place : Nat → Int32) (m_from : Nat → Int32) (m_to : Nat → Int32) (m_cost : Nat → Int32) (m_deep : Nat → Int32) (m_waiting : Nat → Int32) (m_wide : Nat → Int32) (m_begins : Nat → Int32) (m_started : Nat → Int32) (m_broken : Nat → Int32) (m_print : Nat → Int32) (out : Nat → Int64), RS k_length k_repaired k_spent g_size g_heads g_lengths g_symbols g_hints g_ins g_ground k_text c_length c_size c_comments c_text c_starts c_lengths c_signs c_firstComments c_commentStarts c_commentEnds h_prices h_choices h_begun h_traced t_waiting t_size t_skipped t_cells t_hints t_within t_begins t_waitSymbols t_waitParents t_waitFirsts t_waitEnds t_waitHints p_size p_column p_sheet p_flats p_broken p_indents m_thrown m_rules m_length m_tree m_tokens m_comments m_parts m_end m_open m_column m_printed m_repaired m_paid m_head m_size m_symbol m_hint m_in m_text m_kept m_tokenAt m_tokenLength m_sign m_commentAt m_commentLength m_firstComment m_best m_row m_cut m_ruleOf m_symbolOf m_parent m_place m_from m_to m_cost m_deep m_waiting m_wide m_begins m_started m_broken m_print → KG l xL_law D (kT cI cB cJ cZ) ws sz (lQ b n xs sz) (nc + 1) (ns + 6) 737 (lvL ad b k) [] (LW ad cI cB cJ cZ k_length k_repaired k_spent g_size g_heads g_lengths g_symbols g_hints g_ins g_ground k_text c_length c_size c_comments c_text c_starts c_lengths c_signs c_firstComments c_commentStarts c_commentEnds h_prices h_choices h_begun h_traced t_waiting t_size t_skipped t_cells t_hints t_within t_begins t_waitSymbols t_waitParents t_waitFirsts t_waitEnds t_waitHints p_size p_column p_sheet p_flats p_broken p_indents m_thrown m_rules m_length m_tree m_tokens m_comments m_parts m_end m_open m_column m_printed m_repaired m_paid m_head m_size m_symbol m_hint m_in m_text m_kept m_tokenAt m_tokenLength m_sign m_commentAt m_commentLength m_firstComment m_best m_row m_cut m_ruleOf m_symbolOf m_parent m_place m_from m_to m_cost m_deep m_waiting m_wide m_begins m_started m_broken m_print out)) : KG l xL_law D (kT cI cB cJ cZ) ws sz (lQ b n xs sz) nc ns 104 (lvL ad b k) [] (LW ad cI cB cJ cZ k_length k_repaired k_spent g_size g_heads g_lengths g_symbols g_hints g_ins g_ground k_text c_length c_size c_comments c_text c_starts c_lengths c_signs c_firstComments c_commentStarts c_commentEnds h_prices h_choices h_begun h_traced t_waiting t_size t_skipped t_cells t_hints t_within t_begins t_waitSymbols t_waitParents t_waitFirsts t_waitEnds t_waitHints p_size p_column p_sheet p_flats p_broken p_indents m_thrown m_rules m_length m_tree m_tokens m_comments m_parts m_end m_open m_column m_printed m_repaired m_paid m_head m_size m_symbol m_hint m_in m_text m_kept m_tokenAt m_tokenLength m_sign m_commentAt m_commentLength m_firstComment m_best m_row m_cut m_ruleOf m_symbolOf m_parent m_place m_from m_to m_cost m_deep m_waiting m_wide m_begins m_started m_broken m_print out) := by
  by_cases hz : xs (k + 4) = 0
  · skip
    obtain ⟨oc, om, h5, h6, halt, hRS'⟩ := s_rule hRS (xs (k + 1)) (xs (k + 2)) (xs (k + 3)) 0
    rcases halt with ⟨h0, ht, hv⟩ | ⟨h0, ht⟩ | ⟨h0, ht⟩
    · have heq : om.2.1 = 0 := ht
      have hcmp : lg_cmp (vp_updL out 0 oc.2.1.toInt64 0) (om.1).toInt64 = 0 := by
        rw [hv]
        exact lg_refl _
      refine k_aload_n dL_law_104 3 rfl rfl ?_
      refine k_aload_n dL_law_105 4 rfl rfl ?_
      refine k_iload dL_law_106 0 rfl ?_
      refine k_iconst (v := 1) dL_law_108 (by decide) ?_
      refine k_iadd dL_law_109 ?_
      refine kg_sld (k + 1) hs1 hws dL_law_110 ?_
      refine k_aload_n dL_law_111 4 rfl rfl ?_
      refine k_iload dL_law_112 0 rfl ?_
      refine k_iconst (v := 2) dL_law_114 (by decide) ?_
      refine k_iadd dL_law_115 ?_
      refine kg_sld (k + 2) hs2 hws dL_law_116 ?_
      refine k_aload_n dL_law_117 4 rfl rfl ?_
      refine k_iload dL_law_118 0 rfl ?_
      refine k_iconst (v := 3) dL_law_120 (by decide) ?_
      refine k_iadd dL_law_121 ?_
      refine kg_sld (k + 3) hs3 hws dL_law_122 ?_
      refine k_aload_n dL_law_123 4 rfl rfl ?_
      refine k_iload dL_law_124 0 rfl ?_
      refine k_iconst (v := 4) dL_law_126 (by decide) ?_
      refine k_iadd dL_law_127 ?_
      refine kg_sld (k + 4) hs4 hws dL_law_128 ?_
      refine kb_eq1 136 dL_law_129 (by decide) hz ?_
      refine k_iconst (v := 0) dL_law_136 (by decide) ?_
      refine k_aload_n dL_law_137 1 rfl rfl ?_
      refine kg_callH (As := [.ref (ad 0), .int (xs (k + 1)), .int (xs (k + 2)), .int (xs (k + 3)), .int 0, .ref (ad 68)]) (st := []) (Lc := [(1, (ad 1, .inr (2, [.ref (ad 2), .ref (ad 3), .ref (ad 4), .ref (ad 5), .ref (ad 6), .ref (ad 7), .int oc.2.2.1]))), (2, (ad 2, .inl (cI, 20, .inl oc.2.2.2.1))), (3, (ad 3, .inl (cI, 20, .inl oc.2.2.2.2.1))), (4, (ad 4, .inl (cI, 100, .inl oc.2.2.2.2.2.1))), (5, (ad 5, .inl (cI, 100, .inl oc.2.2.2.2.2.2.1))), (6, (ad 6, .inl (cZ, 20, .inl oc.2.2.2.2.2.2.2.1))), (7, (ad 7, .inl (cZ, 6, .inl oc.2.2.2.2.2.2.2.2.1))), (22, (ad 22, .inr (4, [.ref (ad 1), .ref (ad 17), .ref (ad 23), .ref (ad 24), .ref (ad 25), .ref (ad 26), .ref (ad 27), .ref (ad 28), .ref (ad 29), .ref (ad 30), .ref (ad 31), .int t_waiting, .int oc.2.2.2.2.2.2.2.2.2.1, .int oc.2.2.2.2.2.2.2.2.2.2]))), (68, (ad 68, .inl (cJ, 1, .inr (.inl ((vp_updL out 0 oc.2.1.toInt64))))))]) (L' := (LW ad cI cB cJ cZ k_length k_repaired k_spent oc.2.2.1 oc.2.2.2.1 oc.2.2.2.2.1 oc.2.2.2.2.2.1 oc.2.2.2.2.2.2.1 oc.2.2.2.2.2.2.2.1 oc.2.2.2.2.2.2.2.2.1 k_text c_length c_size c_comments c_text c_starts c_lengths c_signs c_firstComments c_commentStarts c_commentEnds h_prices h_choices h_begun h_traced t_waiting oc.2.2.2.2.2.2.2.2.2.1 oc.2.2.2.2.2.2.2.2.2.2 t_cells t_hints t_within t_begins t_waitSymbols t_waitParents t_waitFirsts t_waitEnds t_waitHints p_size p_column p_sheet p_flats p_broken p_indents m_thrown m_rules m_length m_tree m_tokens m_comments m_parts m_end m_open m_column m_printed m_repaired m_paid m_head m_size m_symbol m_hint m_in m_text m_kept m_tokenAt m_tokenLength m_sign m_commentAt m_commentLength m_firstComment m_best m_row m_cut m_ruleOf m_symbolOf m_parent m_place m_from m_to m_cost m_deep m_waiting m_wide m_begins m_started m_broken m_print ((vp_updL out 0 oc.2.1.toInt64)))) (r := 0) hws gL_law_L_rule rfl rfl rfl hySL_rule ⟨Nat.le_of_ble_eq_true rfl, Nat.le_of_ble_eq_true rfl⟩ ⟨hR.1, hR.2⟩ rfl rfl (Nat.le_of_ble_eq_true rfl) dL_law_138 (fun w z hw => c_L_rule (cI := cI) (cB := cB) (cJ := cJ) (cZ := cZ) (ad := ad) w z ⟨hl, hw 0⟩ (hw 1) (hw 2) (hw 3) (hw 4) (hw 5) (hw 6) (hw 7) (hw 22) (hw 68) h5 (Or.inl ⟨h0, rfl, rfl⟩)) rfl rfl ?_
      refine kb_istore (i := 5) (lv' := [(5, .int 0), (4, .int (nI k)), (3, .ref (ad 68)), (2, .ref (ad 37)), (1, .ref (ad 0)), (0, .ref b)]) dL_law_141 (Nat.le_of_ble_eq_true rfl) rfl ?_
      refine k_aload_n dL_law_143 3 rfl rfl ?_
      refine k_aload_n dL_law_144 5 rfl rfl ?_
      refine k_iload dL_law_145 1 rfl ?_
      refine k_iconst (v := 1) dL_law_147 (by decide) ?_
      refine k_iadd dL_law_148 ?_
      refine kg_sld (k + 1) hs1 hws dL_law_149 ?_
      refine k_aload_n dL_law_150 5 rfl rfl ?_
      refine k_iload dL_law_151 1 rfl ?_
      refine k_iconst (v := 2) dL_law_153 (by decide) ?_
      refine k_iadd dL_law_154 ?_
      refine kg_sld (k + 2) hs2 hws dL_law_155 ?_
      refine k_aload_n dL_law_156 5 rfl rfl ?_
      refine k_iload dL_law_157 1 rfl ?_
      refine k_iconst (v := 3) dL_law_159 (by decide) ?_
      refine k_iadd dL_law_160 ?_
      refine kg_sld (k + 3) hs3 hws dL_law_161 ?_
      refine k_aload_n dL_law_162 5 rfl rfl ?_
      refine k_iload dL_law_163 1 rfl ?_
      refine k_iconst (v := 4) dL_law_165 (by decide) ?_
      refine k_iadd dL_law_166 ?_
      refine kg_sld (k + 4) hs4 hws dL_law_167 ?_
      refine kb_eq1 175 dL_law_168 (by decide) hz ?_
      refine k_iconst (v := 0) dL_law_175 (by decide) ?_
      refine kg_calliV (As := [.int (xs (k + 1)), .int (xs (k + 2)), .int (xs (k + 3)), .int 0]) (st := []) (Lc := [(37, (ad 37, .inr (6, [.int om.2.1, .int om.2.2.1, .ref (ad 38), .ref (ad 39), .ref (ad 40), .ref (ad 41), .ref (ad 42), .int m_length, .ref (ad 43), .int om.2.2.2.1, .ref (ad 44), .int m_tokens, .ref (ad 45), .ref (ad 46), .ref (ad 47), .int m_comments, .ref (ad 48), .ref (ad 49), .ref (ad 50), .ref (ad 51), .ref (ad 52), .ref (ad 53), .int m_parts, .ref (ad 54), .ref (ad 55), .ref (ad 56), .ref (ad 57), .ref (ad 58), .ref (ad 59), .ref (ad 60), .ref (ad 61), .int m_end, .int m_open, .ref (ad 62), .ref (ad 63), .ref (ad 64), .ref (ad 65), .ref (ad 66), .int m_column, .int m_printed, .ref (ad 67), .int m_repaired, .int m_paid]))), (38, (ad 38, .inl (cI, 20, .inl om.2.2.2.2.1))), (39, (ad 39, .inl (cI, 20, .inl om.2.2.2.2.2.1))), (40, (ad 40, .inl (cI, 100, .inl om.2.2.2.2.2.2.1))), (41, (ad 41, .inl (cI, 100, .inl om.2.2.2.2.2.2.2.1))), (42, (ad 42, .inl (cZ, 20, .inl om.2.2.2.2.2.2.2.2)))]) (L' := (LW ad cI cB cJ cZ k_length k_repaired k_spent oc.2.2.1 oc.2.2.2.1 oc.2.2.2.2.1 oc.2.2.2.2.2.1 oc.2.2.2.2.2.2.1 oc.2.2.2.2.2.2.2.1 oc.2.2.2.2.2.2.2.2.1 k_text c_length c_size c_comments c_text c_starts c_lengths c_signs c_firstComments c_commentStarts c_commentEnds h_prices h_choices h_begun h_traced t_waiting oc.2.2.2.2.2.2.2.2.2.1 oc.2.2.2.2.2.2.2.2.2.2 t_cells t_hints t_within t_begins t_waitSymbols t_waitParents t_waitFirsts t_waitEnds t_waitHints p_size p_column p_sheet p_flats p_broken p_indents om.2.1 om.2.2.1 m_length om.2.2.2.1 m_tokens m_comments m_parts m_end m_open m_column m_printed m_repaired m_paid om.2.2.2.2.1 om.2.2.2.2.2.1 om.2.2.2.2.2.2.1 om.2.2.2.2.2.2.2.1 om.2.2.2.2.2.2.2.2 m_text m_kept m_tokenAt m_tokenLength m_sign m_commentAt m_commentLength m_firstComment m_best m_row m_cut m_ruleOf m_symbolOf m_parent m_place m_from m_to m_cost m_deep m_waiting m_wide m_begins m_started m_broken m_print ((vp_updL out 0 oc.2.1.toInt64)))) (r := om.1) gL_law_X6_rule rfl rfl rfl hyVX6_rule ⟨Nat.le_of_ble_eq_true rfl, Nat.le_of_ble_eq_true rfl⟩ ⟨Nat.le_trans (by omega) hR.1, Nat.le_trans (by omega) hR.2⟩ rfl rfl (Nat.le_of_ble_eq_true rfl) 37 rfl rfl dL_law_176 (fun w z hw => c_X6_rule (cI := cI) (cB := cB) (cJ := cJ) (cZ := cZ) (ad := ad) w z trivial (hw 37) (hw 38) (hw 39) (hw 40) (hw 41) (hw 42) h6) rfl rfl ?_
      refine kb_istore (i := 6) (lv' := [(6, .int om.1), (5, .int 0), (4, .int (nI k)), (3, .ref (ad 68)), (2, .ref (ad 37)), (1, .ref (ad 0)), (0, .ref b)]) dL_law_179 (Nat.le_of_ble_eq_true rfl) rfl ?_
      refine k_aload_n dL_law_181 4 rfl rfl ?_
      refine kg_calliV (As := []) (st := []) (Lc := []) (L' := (LW ad cI cB cJ cZ k_length k_repaired k_spent oc.2.2.1 oc.2.2.2.1 oc.2.2.2.2.1 oc.2.2.2.2.2.1 oc.2.2.2.2.2.2.1 oc.2.2.2.2.2.2.2.1 oc.2.2.2.2.2.2.2.2.1 k_text c_length c_size c_comments c_text c_starts c_lengths c_signs c_firstComments c_commentStarts c_commentEnds h_prices h_choices h_begun h_traced t_waiting oc.2.2.2.2.2.2.2.2.2.1 oc.2.2.2.2.2.2.2.2.2.2 t_cells t_hints t_within t_begins t_waitSymbols t_waitParents t_waitFirsts t_waitEnds t_waitHints p_size p_column p_sheet p_flats p_broken p_indents om.2.1 om.2.2.1 m_length om.2.2.2.1 m_tokens m_comments m_parts m_end m_open m_column m_printed m_repaired m_paid om.2.2.2.2.1 om.2.2.2.2.2.1 om.2.2.2.2.2.2.1 om.2.2.2.2.2.2.2.1 om.2.2.2.2.2.2.2.2 m_text m_kept m_tokenAt m_tokenLength m_sign m_commentAt m_commentLength m_firstComment m_best m_row m_cut m_ruleOf m_symbolOf m_parent m_place m_from m_to m_cost m_deep m_waiting m_wide m_begins m_started m_broken m_print ((vp_updL out 0 oc.2.1.toInt64)))) (r := om.2.1) gL_law_X6_thrown rfl rfl rfl hyVX6_thrown ⟨Nat.le_of_ble_eq_true rfl, Nat.le_of_ble_eq_true rfl⟩ ⟨Nat.le_trans (by omega) hR.1, Nat.le_trans (by omega) hR.2⟩ rfl rfl (Nat.le_of_ble_eq_true rfl) 37 rfl rfl dL_law_182 (fun w z hw => c_X6_thrown (cI := cI) (cB := cB) (cJ := cJ) (cZ := cZ) (ad := ad) w z (hw 37)  rfl) rfl rfl ?_
      refine k_iload dL_law_185 1 rfl ?_
      refine kb_ieq 192 dL_law_187 (by decide) heq ?_
      refine k_iload dL_law_192 1 rfl ?_
      refine kb_ne0 209 dL_law_194 (by decide) rfl ?_
      refine k_aload_n dL_law_197 3 rfl rfl ?_
      refine k_iconst (v := 0) dL_law_198 (by decide) ?_
      refine kb_lald 68 2 rfl rfl dL_law_199 ?_
      refine k_iload dL_law_200 0 rfl ?_
      refine k_i2l dL_law_202 ?_
      refine k_lcmp dL_law_203 ?_
      refine kb_eq1 209 dL_law_204 (by decide) hcmp ?_
      refine k_goto 737 dL_law_209 (by decide) ?_
      refine k_sub [2, 3, 4, 5, 6] rfl ?_
      exact hk _ _ _ _ _ _ _ _ _ _ _ _ _ _ _ _ _ _ _ _ _ _ _ _ _ _ _ _ _ _ _ _ _ _ _ _ _ _ _ _ _ _ _ _ _ _ _ _ _ _ _ _ _ _ _ _ _ _ _ _ _ _ _ _ _ _ _ _ _ _ _ _ _ _ _ _ _ _ _ _ _ _ _ _ _ _ _ hRS'
    · have heq : om.2.1 = 1 := ht
      refine k_aload_n dL_law_104 3 rfl rfl ?_
      refine k_aload_n dL_law_105 4 rfl rfl ?_
      refine k_iload dL_law_106 0 rfl ?_
      refine k_iconst (v := 1) dL_law_108 (by decide) ?_
      refine k_iadd dL_law_109 ?_
      refine kg_sld (k + 1) hs1 hws dL_law_110 ?_
      refine k_aload_n dL_law_111 4 rfl rfl ?_
      refine k_iload dL_law_112 0 rfl ?_
      refine k_iconst (v := 2) dL_law_114 (by decide) ?_
      refine k_iadd dL_law_115 ?_
      refine kg_sld (k + 2) hs2 hws dL_law_116 ?_
      refine k_aload_n dL_law_117 4 rfl rfl ?_
      refine k_iload dL_law_118 0 rfl ?_
      refine k_iconst (v := 3) dL_law_120 (by decide) ?_
      refine k_iadd dL_law_121 ?_
      refine kg_sld (k + 3) hs3 hws dL_law_122 ?_
      refine k_aload_n dL_law_123 4 rfl rfl ?_
      refine k_iload dL_law_124 0 rfl ?_
      refine k_iconst (v := 4) dL_law_126 (by decide) ?_
      refine k_iadd dL_law_127 ?_
      refine kg_sld (k + 4) hs4 hws dL_law_128 ?_
      refine kb_eq1 136 dL_law_129 (by decide) hz ?_
      refine k_iconst (v := 0) dL_law_136 (by decide) ?_
      refine k_aload_n dL_law_137 1 rfl rfl ?_
      refine kg_callH (As := [.ref (ad 0), .int (xs (k + 1)), .int (xs (k + 2)), .int (xs (k + 3)), .int 0, .ref (ad 68)]) (st := []) (Lc := [(1, (ad 1, .inr (2, [.ref (ad 2), .ref (ad 3), .ref (ad 4), .ref (ad 5), .ref (ad 6), .ref (ad 7), .int oc.2.2.1]))), (2, (ad 2, .inl (cI, 20, .inl oc.2.2.2.1))), (3, (ad 3, .inl (cI, 20, .inl oc.2.2.2.2.1))), (4, (ad 4, .inl (cI, 100, .inl oc.2.2.2.2.2.1))), (5, (ad 5, .inl (cI, 100, .inl oc.2.2.2.2.2.2.1))), (6, (ad 6, .inl (cZ, 20, .inl oc.2.2.2.2.2.2.2.1))), (7, (ad 7, .inl (cZ, 6, .inl oc.2.2.2.2.2.2.2.2.1))), (22, (ad 22, .inr (4, [.ref (ad 1), .ref (ad 17), .ref (ad 23), .ref (ad 24), .ref (ad 25), .ref (ad 26), .ref (ad 27), .ref (ad 28), .ref (ad 29), .ref (ad 30), .ref (ad 31), .int t_waiting, .int oc.2.2.2.2.2.2.2.2.2.1, .int oc.2.2.2.2.2.2.2.2.2.2]))), (68, (ad 68, .inl (cJ, 1, .inr (.inl out))))]) (L' := (LW ad cI cB cJ cZ k_length k_repaired k_spent oc.2.2.1 oc.2.2.2.1 oc.2.2.2.2.1 oc.2.2.2.2.2.1 oc.2.2.2.2.2.2.1 oc.2.2.2.2.2.2.2.1 oc.2.2.2.2.2.2.2.2.1 k_text c_length c_size c_comments c_text c_starts c_lengths c_signs c_firstComments c_commentStarts c_commentEnds h_prices h_choices h_begun h_traced t_waiting oc.2.2.2.2.2.2.2.2.2.1 oc.2.2.2.2.2.2.2.2.2.2 t_cells t_hints t_within t_begins t_waitSymbols t_waitParents t_waitFirsts t_waitEnds t_waitHints p_size p_column p_sheet p_flats p_broken p_indents m_thrown m_rules m_length m_tree m_tokens m_comments m_parts m_end m_open m_column m_printed m_repaired m_paid m_head m_size m_symbol m_hint m_in m_text m_kept m_tokenAt m_tokenLength m_sign m_commentAt m_commentLength m_firstComment m_best m_row m_cut m_ruleOf m_symbolOf m_parent m_place m_from m_to m_cost m_deep m_waiting m_wide m_begins m_started m_broken m_print out)) (r := 1) hws gL_law_L_rule rfl rfl rfl hySL_rule ⟨Nat.le_of_ble_eq_true rfl, Nat.le_of_ble_eq_true rfl⟩ ⟨hR.1, hR.2⟩ rfl rfl (Nat.le_of_ble_eq_true rfl) dL_law_138 (fun w z hw => c_L_rule (cI := cI) (cB := cB) (cJ := cJ) (cZ := cZ) (ad := ad) w z ⟨hl, hw 0⟩ (hw 1) (hw 2) (hw 3) (hw 4) (hw 5) (hw 6) (hw 7) (hw 22) (hw 68) h5 (Or.inr (Or.inl ⟨h0, rfl, rfl⟩))) rfl rfl ?_
      refine kb_istore (i := 5) (lv' := [(5, .int 1), (4, .int (nI k)), (3, .ref (ad 68)), (2, .ref (ad 37)), (1, .ref (ad 0)), (0, .ref b)]) dL_law_141 (Nat.le_of_ble_eq_true rfl) rfl ?_
      refine k_aload_n dL_law_143 3 rfl rfl ?_
      refine k_aload_n dL_law_144 5 rfl rfl ?_
      refine k_iload dL_law_145 1 rfl ?_
      refine k_iconst (v := 1) dL_law_147 (by decide) ?_
      refine k_iadd dL_law_148 ?_
      refine kg_sld (k + 1) hs1 hws dL_law_149 ?_
      refine k_aload_n dL_law_150 5 rfl rfl ?_
      refine k_iload dL_law_151 1 rfl ?_
      refine k_iconst (v := 2) dL_law_153 (by decide) ?_
      refine k_iadd dL_law_154 ?_
      refine kg_sld (k + 2) hs2 hws dL_law_155 ?_
      refine k_aload_n dL_law_156 5 rfl rfl ?_
      refine k_iload dL_law_157 1 rfl ?_
      refine k_iconst (v := 3) dL_law_159 (by decide) ?_
      refine k_iadd dL_law_160 ?_
      refine kg_sld (k + 3) hs3 hws dL_law_161 ?_
      refine k_aload_n dL_law_162 5 rfl rfl ?_
      refine k_iload dL_law_163 1 rfl ?_
      refine k_iconst (v := 4) dL_law_165 (by decide) ?_
      refine k_iadd dL_law_166 ?_
      refine kg_sld (k + 4) hs4 hws dL_law_167 ?_
      refine kb_eq1 175 dL_law_168 (by decide) hz ?_
      refine k_iconst (v := 0) dL_law_175 (by decide) ?_
      refine kg_calliV (As := [.int (xs (k + 1)), .int (xs (k + 2)), .int (xs (k + 3)), .int 0]) (st := []) (Lc := [(37, (ad 37, .inr (6, [.int om.2.1, .int om.2.2.1, .ref (ad 38), .ref (ad 39), .ref (ad 40), .ref (ad 41), .ref (ad 42), .int m_length, .ref (ad 43), .int om.2.2.2.1, .ref (ad 44), .int m_tokens, .ref (ad 45), .ref (ad 46), .ref (ad 47), .int m_comments, .ref (ad 48), .ref (ad 49), .ref (ad 50), .ref (ad 51), .ref (ad 52), .ref (ad 53), .int m_parts, .ref (ad 54), .ref (ad 55), .ref (ad 56), .ref (ad 57), .ref (ad 58), .ref (ad 59), .ref (ad 60), .ref (ad 61), .int m_end, .int m_open, .ref (ad 62), .ref (ad 63), .ref (ad 64), .ref (ad 65), .ref (ad 66), .int m_column, .int m_printed, .ref (ad 67), .int m_repaired, .int m_paid]))), (38, (ad 38, .inl (cI, 20, .inl om.2.2.2.2.1))), (39, (ad 39, .inl (cI, 20, .inl om.2.2.2.2.2.1))), (40, (ad 40, .inl (cI, 100, .inl om.2.2.2.2.2.2.1))), (41, (ad 41, .inl (cI, 100, .inl om.2.2.2.2.2.2.2.1))), (42, (ad 42, .inl (cZ, 20, .inl om.2.2.2.2.2.2.2.2)))]) (L' := (LW ad cI cB cJ cZ k_length k_repaired k_spent oc.2.2.1 oc.2.2.2.1 oc.2.2.2.2.1 oc.2.2.2.2.2.1 oc.2.2.2.2.2.2.1 oc.2.2.2.2.2.2.2.1 oc.2.2.2.2.2.2.2.2.1 k_text c_length c_size c_comments c_text c_starts c_lengths c_signs c_firstComments c_commentStarts c_commentEnds h_prices h_choices h_begun h_traced t_waiting oc.2.2.2.2.2.2.2.2.2.1 oc.2.2.2.2.2.2.2.2.2.2 t_cells t_hints t_within t_begins t_waitSymbols t_waitParents t_waitFirsts t_waitEnds t_waitHints p_size p_column p_sheet p_flats p_broken p_indents om.2.1 om.2.2.1 m_length om.2.2.2.1 m_tokens m_comments m_parts m_end m_open m_column m_printed m_repaired m_paid om.2.2.2.2.1 om.2.2.2.2.2.1 om.2.2.2.2.2.2.1 om.2.2.2.2.2.2.2.1 om.2.2.2.2.2.2.2.2 m_text m_kept m_tokenAt m_tokenLength m_sign m_commentAt m_commentLength m_firstComment m_best m_row m_cut m_ruleOf m_symbolOf m_parent m_place m_from m_to m_cost m_deep m_waiting m_wide m_begins m_started m_broken m_print out)) (r := om.1) gL_law_X6_rule rfl rfl rfl hyVX6_rule ⟨Nat.le_of_ble_eq_true rfl, Nat.le_of_ble_eq_true rfl⟩ ⟨Nat.le_trans (by omega) hR.1, Nat.le_trans (by omega) hR.2⟩ rfl rfl (Nat.le_of_ble_eq_true rfl) 37 rfl rfl dL_law_176 (fun w z hw => c_X6_rule (cI := cI) (cB := cB) (cJ := cJ) (cZ := cZ) (ad := ad) w z trivial (hw 37) (hw 38) (hw 39) (hw 40) (hw 41) (hw 42) h6) rfl rfl ?_
      refine kb_istore (i := 6) (lv' := [(6, .int om.1), (5, .int 1), (4, .int (nI k)), (3, .ref (ad 68)), (2, .ref (ad 37)), (1, .ref (ad 0)), (0, .ref b)]) dL_law_179 (Nat.le_of_ble_eq_true rfl) rfl ?_
      refine k_aload_n dL_law_181 4 rfl rfl ?_
      refine kg_calliV (As := []) (st := []) (Lc := []) (L' := (LW ad cI cB cJ cZ k_length k_repaired k_spent oc.2.2.1 oc.2.2.2.1 oc.2.2.2.2.1 oc.2.2.2.2.2.1 oc.2.2.2.2.2.2.1 oc.2.2.2.2.2.2.2.1 oc.2.2.2.2.2.2.2.2.1 k_text c_length c_size c_comments c_text c_starts c_lengths c_signs c_firstComments c_commentStarts c_commentEnds h_prices h_choices h_begun h_traced t_waiting oc.2.2.2.2.2.2.2.2.2.1 oc.2.2.2.2.2.2.2.2.2.2 t_cells t_hints t_within t_begins t_waitSymbols t_waitParents t_waitFirsts t_waitEnds t_waitHints p_size p_column p_sheet p_flats p_broken p_indents om.2.1 om.2.2.1 m_length om.2.2.2.1 m_tokens m_comments m_parts m_end m_open m_column m_printed m_repaired m_paid om.2.2.2.2.1 om.2.2.2.2.2.1 om.2.2.2.2.2.2.1 om.2.2.2.2.2.2.2.1 om.2.2.2.2.2.2.2.2 m_text m_kept m_tokenAt m_tokenLength m_sign m_commentAt m_commentLength m_firstComment m_best m_row m_cut m_ruleOf m_symbolOf m_parent m_place m_from m_to m_cost m_deep m_waiting m_wide m_begins m_started m_broken m_print out)) (r := om.2.1) gL_law_X6_thrown rfl rfl rfl hyVX6_thrown ⟨Nat.le_of_ble_eq_true rfl, Nat.le_of_ble_eq_true rfl⟩ ⟨Nat.le_trans (by omega) hR.1, Nat.le_trans (by omega) hR.2⟩ rfl rfl (Nat.le_of_ble_eq_true rfl) 37 rfl rfl dL_law_182 (fun w z hw => c_X6_thrown (cI := cI) (cB := cB) (cJ := cJ) (cZ := cZ) (ad := ad) w z (hw 37)  rfl) rfl rfl ?_
      refine k_iload dL_law_185 1 rfl ?_
      refine kb_ieq 192 dL_law_187 (by decide) heq ?_
      refine k_iload dL_law_192 1 rfl ?_
      refine kb_ne1 209 dL_law_194 (by decide) (by decide) ?_
      refine k_goto 737 dL_law_209 (by decide) ?_
      refine k_sub [2, 3, 4, 5, 6] rfl ?_
      exact hk _ _ _ _ _ _ _ _ _ _ _ _ _ _ _ _ _ _ _ _ _ _ _ _ _ _ _ _ _ _ _ _ _ _ _ _ _ _ _ _ _ _ _ _ _ _ _ _ _ _ _ _ _ _ _ _ _ _ _ _ _ _ _ _ _ _ _ _ _ _ _ _ _ _ _ _ _ _ _ _ _ _ _ _ _ _ _ hRS'
    · have heq : om.2.1 = 2 := ht
      refine k_aload_n dL_law_104 3 rfl rfl ?_
      refine k_aload_n dL_law_105 4 rfl rfl ?_
      refine k_iload dL_law_106 0 rfl ?_
      refine k_iconst (v := 1) dL_law_108 (by decide) ?_
      refine k_iadd dL_law_109 ?_
      refine kg_sld (k + 1) hs1 hws dL_law_110 ?_
      refine k_aload_n dL_law_111 4 rfl rfl ?_
      refine k_iload dL_law_112 0 rfl ?_
      refine k_iconst (v := 2) dL_law_114 (by decide) ?_
      refine k_iadd dL_law_115 ?_
      refine kg_sld (k + 2) hs2 hws dL_law_116 ?_
      refine k_aload_n dL_law_117 4 rfl rfl ?_
      refine k_iload dL_law_118 0 rfl ?_
      refine k_iconst (v := 3) dL_law_120 (by decide) ?_
      refine k_iadd dL_law_121 ?_
      refine kg_sld (k + 3) hs3 hws dL_law_122 ?_
      refine k_aload_n dL_law_123 4 rfl rfl ?_
      refine k_iload dL_law_124 0 rfl ?_
      refine k_iconst (v := 4) dL_law_126 (by decide) ?_
      refine k_iadd dL_law_127 ?_
      refine kg_sld (k + 4) hs4 hws dL_law_128 ?_
      refine kb_eq1 136 dL_law_129 (by decide) hz ?_
      refine k_iconst (v := 0) dL_law_136 (by decide) ?_
      refine k_aload_n dL_law_137 1 rfl rfl ?_
      refine kg_callH (As := [.ref (ad 0), .int (xs (k + 1)), .int (xs (k + 2)), .int (xs (k + 3)), .int 0, .ref (ad 68)]) (st := []) (Lc := [(1, (ad 1, .inr (2, [.ref (ad 2), .ref (ad 3), .ref (ad 4), .ref (ad 5), .ref (ad 6), .ref (ad 7), .int oc.2.2.1]))), (2, (ad 2, .inl (cI, 20, .inl oc.2.2.2.1))), (3, (ad 3, .inl (cI, 20, .inl oc.2.2.2.2.1))), (4, (ad 4, .inl (cI, 100, .inl oc.2.2.2.2.2.1))), (5, (ad 5, .inl (cI, 100, .inl oc.2.2.2.2.2.2.1))), (6, (ad 6, .inl (cZ, 20, .inl oc.2.2.2.2.2.2.2.1))), (7, (ad 7, .inl (cZ, 6, .inl oc.2.2.2.2.2.2.2.2.1))), (22, (ad 22, .inr (4, [.ref (ad 1), .ref (ad 17), .ref (ad 23), .ref (ad 24), .ref (ad 25), .ref (ad 26), .ref (ad 27), .ref (ad 28), .ref (ad 29), .ref (ad 30), .ref (ad 31), .int t_waiting, .int oc.2.2.2.2.2.2.2.2.2.1, .int oc.2.2.2.2.2.2.2.2.2.2]))), (68, (ad 68, .inl (cJ, 1, .inr (.inl out))))]) (L' := (LW ad cI cB cJ cZ k_length k_repaired k_spent oc.2.2.1 oc.2.2.2.1 oc.2.2.2.2.1 oc.2.2.2.2.2.1 oc.2.2.2.2.2.2.1 oc.2.2.2.2.2.2.2.1 oc.2.2.2.2.2.2.2.2.1 k_text c_length c_size c_comments c_text c_starts c_lengths c_signs c_firstComments c_commentStarts c_commentEnds h_prices h_choices h_begun h_traced t_waiting oc.2.2.2.2.2.2.2.2.2.1 oc.2.2.2.2.2.2.2.2.2.2 t_cells t_hints t_within t_begins t_waitSymbols t_waitParents t_waitFirsts t_waitEnds t_waitHints p_size p_column p_sheet p_flats p_broken p_indents m_thrown m_rules m_length m_tree m_tokens m_comments m_parts m_end m_open m_column m_printed m_repaired m_paid m_head m_size m_symbol m_hint m_in m_text m_kept m_tokenAt m_tokenLength m_sign m_commentAt m_commentLength m_firstComment m_best m_row m_cut m_ruleOf m_symbolOf m_parent m_place m_from m_to m_cost m_deep m_waiting m_wide m_begins m_started m_broken m_print out)) (r := 2) hws gL_law_L_rule rfl rfl rfl hySL_rule ⟨Nat.le_of_ble_eq_true rfl, Nat.le_of_ble_eq_true rfl⟩ ⟨hR.1, hR.2⟩ rfl rfl (Nat.le_of_ble_eq_true rfl) dL_law_138 (fun w z hw => c_L_rule (cI := cI) (cB := cB) (cJ := cJ) (cZ := cZ) (ad := ad) w z ⟨hl, hw 0⟩ (hw 1) (hw 2) (hw 3) (hw 4) (hw 5) (hw 6) (hw 7) (hw 22) (hw 68) h5 (Or.inr ((Or.inr (⟨h0, rfl, rfl⟩))))) rfl rfl ?_
      refine kb_istore (i := 5) (lv' := [(5, .int 2), (4, .int (nI k)), (3, .ref (ad 68)), (2, .ref (ad 37)), (1, .ref (ad 0)), (0, .ref b)]) dL_law_141 (Nat.le_of_ble_eq_true rfl) rfl ?_
      refine k_aload_n dL_law_143 3 rfl rfl ?_
      refine k_aload_n dL_law_144 5 rfl rfl ?_
      refine k_iload dL_law_145 1 rfl ?_
      refine k_iconst (v := 1) dL_law_147 (by decide) ?_
      refine k_iadd dL_law_148 ?_
      refine kg_sld (k + 1) hs1 hws dL_law_149 ?_
      refine k_aload_n dL_law_150 5 rfl rfl ?_
      refine k_iload dL_law_151 1 rfl ?_
      refine k_iconst (v := 2) dL_law_153 (by decide) ?_
      refine k_iadd dL_law_154 ?_
      refine kg_sld (k + 2) hs2 hws dL_law_155 ?_
      refine k_aload_n dL_law_156 5 rfl rfl ?_
      refine k_iload dL_law_157 1 rfl ?_
      refine k_iconst (v := 3) dL_law_159 (by decide) ?_
      refine k_iadd dL_law_160 ?_
      refine kg_sld (k + 3) hs3 hws dL_law_161 ?_
      refine k_aload_n dL_law_162 5 rfl rfl ?_
      refine k_iload dL_law_163 1 rfl ?_
      refine k_iconst (v := 4) dL_law_165 (by decide) ?_
      refine k_iadd dL_law_166 ?_
      refine kg_sld (k + 4) hs4 hws dL_law_167 ?_
      refine kb_eq1 175 dL_law_168 (by decide) hz ?_
      refine k_iconst (v := 0) dL_law_175 (by decide) ?_
      refine kg_calliV (As := [.int (xs (k + 1)), .int (xs (k + 2)), .int (xs (k + 3)), .int 0]) (st := []) (Lc := [(37, (ad 37, .inr (6, [.int om.2.1, .int om.2.2.1, .ref (ad 38), .ref (ad 39), .ref (ad 40), .ref (ad 41), .ref (ad 42), .int m_length, .ref (ad 43), .int om.2.2.2.1, .ref (ad 44), .int m_tokens, .ref (ad 45), .ref (ad 46), .ref (ad 47), .int m_comments, .ref (ad 48), .ref (ad 49), .ref (ad 50), .ref (ad 51), .ref (ad 52), .ref (ad 53), .int m_parts, .ref (ad 54), .ref (ad 55), .ref (ad 56), .ref (ad 57), .ref (ad 58), .ref (ad 59), .ref (ad 60), .ref (ad 61), .int m_end, .int m_open, .ref (ad 62), .ref (ad 63), .ref (ad 64), .ref (ad 65), .ref (ad 66), .int m_column, .int m_printed, .ref (ad 67), .int m_repaired, .int m_paid]))), (38, (ad 38, .inl (cI, 20, .inl om.2.2.2.2.1))), (39, (ad 39, .inl (cI, 20, .inl om.2.2.2.2.2.1))), (40, (ad 40, .inl (cI, 100, .inl om.2.2.2.2.2.2.1))), (41, (ad 41, .inl (cI, 100, .inl om.2.2.2.2.2.2.2.1))), (42, (ad 42, .inl (cZ, 20, .inl om.2.2.2.2.2.2.2.2)))]) (L' := (LW ad cI cB cJ cZ k_length k_repaired k_spent oc.2.2.1 oc.2.2.2.1 oc.2.2.2.2.1 oc.2.2.2.2.2.1 oc.2.2.2.2.2.2.1 oc.2.2.2.2.2.2.2.1 oc.2.2.2.2.2.2.2.2.1 k_text c_length c_size c_comments c_text c_starts c_lengths c_signs c_firstComments c_commentStarts c_commentEnds h_prices h_choices h_begun h_traced t_waiting oc.2.2.2.2.2.2.2.2.2.1 oc.2.2.2.2.2.2.2.2.2.2 t_cells t_hints t_within t_begins t_waitSymbols t_waitParents t_waitFirsts t_waitEnds t_waitHints p_size p_column p_sheet p_flats p_broken p_indents om.2.1 om.2.2.1 m_length om.2.2.2.1 m_tokens m_comments m_parts m_end m_open m_column m_printed m_repaired m_paid om.2.2.2.2.1 om.2.2.2.2.2.1 om.2.2.2.2.2.2.1 om.2.2.2.2.2.2.2.1 om.2.2.2.2.2.2.2.2 m_text m_kept m_tokenAt m_tokenLength m_sign m_commentAt m_commentLength m_firstComment m_best m_row m_cut m_ruleOf m_symbolOf m_parent m_place m_from m_to m_cost m_deep m_waiting m_wide m_begins m_started m_broken m_print out)) (r := om.1) gL_law_X6_rule rfl rfl rfl hyVX6_rule ⟨Nat.le_of_ble_eq_true rfl, Nat.le_of_ble_eq_true rfl⟩ ⟨Nat.le_trans (by omega) hR.1, Nat.le_trans (by omega) hR.2⟩ rfl rfl (Nat.le_of_ble_eq_true rfl) 37 rfl rfl dL_law_176 (fun w z hw => c_X6_rule (cI := cI) (cB := cB) (cJ := cJ) (cZ := cZ) (ad := ad) w z trivial (hw 37) (hw 38) (hw 39) (hw 40) (hw 41) (hw 42) h6) rfl rfl ?_
      refine kb_istore (i := 6) (lv' := [(6, .int om.1), (5, .int 2), (4, .int (nI k)), (3, .ref (ad 68)), (2, .ref (ad 37)), (1, .ref (ad 0)), (0, .ref b)]) dL_law_179 (Nat.le_of_ble_eq_true rfl) rfl ?_
      refine k_aload_n dL_law_181 4 rfl rfl ?_
      refine kg_calliV (As := []) (st := []) (Lc := []) (L' := (LW ad cI cB cJ cZ k_length k_repaired k_spent oc.2.2.1 oc.2.2.2.1 oc.2.2.2.2.1 oc.2.2.2.2.2.1 oc.2.2.2.2.2.2.1 oc.2.2.2.2.2.2.2.1 oc.2.2.2.2.2.2.2.2.1 k_text c_length c_size c_comments c_text c_starts c_lengths c_signs c_firstComments c_commentStarts c_commentEnds h_prices h_choices h_begun h_traced t_waiting oc.2.2.2.2.2.2.2.2.2.1 oc.2.2.2.2.2.2.2.2.2.2 t_cells t_hints t_within t_begins t_waitSymbols t_waitParents t_waitFirsts t_waitEnds t_waitHints p_size p_column p_sheet p_flats p_broken p_indents om.2.1 om.2.2.1 m_length om.2.2.2.1 m_tokens m_comments m_parts m_end m_open m_column m_printed m_repaired m_paid om.2.2.2.2.1 om.2.2.2.2.2.1 om.2.2.2.2.2.2.1 om.2.2.2.2.2.2.2.1 om.2.2.2.2.2.2.2.2 m_text m_kept m_tokenAt m_tokenLength m_sign m_commentAt m_commentLength m_firstComment m_best m_row m_cut m_ruleOf m_symbolOf m_parent m_place m_from m_to m_cost m_deep m_waiting m_wide m_begins m_started m_broken m_print out)) (r := om.2.1) gL_law_X6_thrown rfl rfl rfl hyVX6_thrown ⟨Nat.le_of_ble_eq_true rfl, Nat.le_of_ble_eq_true rfl⟩ ⟨Nat.le_trans (by omega) hR.1, Nat.le_trans (by omega) hR.2⟩ rfl rfl (Nat.le_of_ble_eq_true rfl) 37 rfl rfl dL_law_182 (fun w z hw => c_X6_thrown (cI := cI) (cB := cB) (cJ := cJ) (cZ := cZ) (ad := ad) w z (hw 37)  rfl) rfl rfl ?_
      refine k_iload dL_law_185 1 rfl ?_
      refine kb_ieq 192 dL_law_187 (by decide) heq ?_
      refine k_iload dL_law_192 1 rfl ?_
      refine kb_ne1 209 dL_law_194 (by decide) (by decide) ?_
      refine k_goto 737 dL_law_209 (by decide) ?_
      refine k_sub [2, 3, 4, 5, 6] rfl ?_
      exact hk _ _ _ _ _ _ _ _ _ _ _ _ _ _ _ _ _ _ _ _ _ _ _ _ _ _ _ _ _ _ _ _ _ _ _ _ _ _ _ _ _ _ _ _ _ _ _ _ _ _ _ _ _ _ _ _ _ _ _ _ _ _ _ _ _ _ _ _ _ _ _ _ _ _ _ _ _ _ _ _ _ _ _ _ _ _ _ hRS'
  · skip
    obtain ⟨oc, om, h5, h6, halt, hRS'⟩ := s_rule hRS (xs (k + 1)) (xs (k + 2)) (xs (k + 3)) 1
    rcases halt with ⟨h0, ht, hv⟩ | ⟨h0, ht⟩ | ⟨h0, ht⟩
    · have heq : om.2.1 = 0 := ht
      have hcmp : lg_cmp (vp_updL out 0 oc.2.1.toInt64 0) (om.1).toInt64 = 0 := by
        rw [hv]
        exact lg_refl _
      refine k_aload_n dL_law_104 3 rfl rfl ?_
      refine k_aload_n dL_law_105 4 rfl rfl ?_
      refine k_iload dL_law_106 0 rfl ?_
      refine k_iconst (v := 1) dL_law_108 (by decide) ?_
      refine k_iadd dL_law_109 ?_
      refine kg_sld (k + 1) hs1 hws dL_law_110 ?_
      refine k_aload_n dL_law_111 4 rfl rfl ?_
      refine k_iload dL_law_112 0 rfl ?_
      refine k_iconst (v := 2) dL_law_114 (by decide) ?_
      refine k_iadd dL_law_115 ?_
      refine kg_sld (k + 2) hs2 hws dL_law_116 ?_
      refine k_aload_n dL_law_117 4 rfl rfl ?_
      refine k_iload dL_law_118 0 rfl ?_
      refine k_iconst (v := 3) dL_law_120 (by decide) ?_
      refine k_iadd dL_law_121 ?_
      refine kg_sld (k + 3) hs3 hws dL_law_122 ?_
      refine k_aload_n dL_law_123 4 rfl rfl ?_
      refine k_iload dL_law_124 0 rfl ?_
      refine k_iconst (v := 4) dL_law_126 (by decide) ?_
      refine k_iadd dL_law_127 ?_
      refine kg_sld (k + 4) hs4 hws dL_law_128 ?_
      refine kb_eq0 136 dL_law_129 (by decide) hz ?_
      refine k_iconst (v := 1) dL_law_132 (by decide) ?_
      refine k_goto 137 dL_law_133 (by decide) ?_
      refine k_aload_n dL_law_137 1 rfl rfl ?_
      refine kg_callH (As := [.ref (ad 0), .int (xs (k + 1)), .int (xs (k + 2)), .int (xs (k + 3)), .int 1, .ref (ad 68)]) (st := []) (Lc := [(1, (ad 1, .inr (2, [.ref (ad 2), .ref (ad 3), .ref (ad 4), .ref (ad 5), .ref (ad 6), .ref (ad 7), .int oc.2.2.1]))), (2, (ad 2, .inl (cI, 20, .inl oc.2.2.2.1))), (3, (ad 3, .inl (cI, 20, .inl oc.2.2.2.2.1))), (4, (ad 4, .inl (cI, 100, .inl oc.2.2.2.2.2.1))), (5, (ad 5, .inl (cI, 100, .inl oc.2.2.2.2.2.2.1))), (6, (ad 6, .inl (cZ, 20, .inl oc.2.2.2.2.2.2.2.1))), (7, (ad 7, .inl (cZ, 6, .inl oc.2.2.2.2.2.2.2.2.1))), (22, (ad 22, .inr (4, [.ref (ad 1), .ref (ad 17), .ref (ad 23), .ref (ad 24), .ref (ad 25), .ref (ad 26), .ref (ad 27), .ref (ad 28), .ref (ad 29), .ref (ad 30), .ref (ad 31), .int t_waiting, .int oc.2.2.2.2.2.2.2.2.2.1, .int oc.2.2.2.2.2.2.2.2.2.2]))), (68, (ad 68, .inl (cJ, 1, .inr (.inl ((vp_updL out 0 oc.2.1.toInt64))))))]) (L' := (LW ad cI cB cJ cZ k_length k_repaired k_spent oc.2.2.1 oc.2.2.2.1 oc.2.2.2.2.1 oc.2.2.2.2.2.1 oc.2.2.2.2.2.2.1 oc.2.2.2.2.2.2.2.1 oc.2.2.2.2.2.2.2.2.1 k_text c_length c_size c_comments c_text c_starts c_lengths c_signs c_firstComments c_commentStarts c_commentEnds h_prices h_choices h_begun h_traced t_waiting oc.2.2.2.2.2.2.2.2.2.1 oc.2.2.2.2.2.2.2.2.2.2 t_cells t_hints t_within t_begins t_waitSymbols t_waitParents t_waitFirsts t_waitEnds t_waitHints p_size p_column p_sheet p_flats p_broken p_indents m_thrown m_rules m_length m_tree m_tokens m_comments m_parts m_end m_open m_column m_printed m_repaired m_paid m_head m_size m_symbol m_hint m_in m_text m_kept m_tokenAt m_tokenLength m_sign m_commentAt m_commentLength m_firstComment m_best m_row m_cut m_ruleOf m_symbolOf m_parent m_place m_from m_to m_cost m_deep m_waiting m_wide m_begins m_started m_broken m_print ((vp_updL out 0 oc.2.1.toInt64)))) (r := 0) hws gL_law_L_rule rfl rfl rfl hySL_rule ⟨Nat.le_of_ble_eq_true rfl, Nat.le_of_ble_eq_true rfl⟩ ⟨hR.1, hR.2⟩ rfl rfl (Nat.le_of_ble_eq_true rfl) dL_law_138 (fun w z hw => c_L_rule (cI := cI) (cB := cB) (cJ := cJ) (cZ := cZ) (ad := ad) w z ⟨hl, hw 0⟩ (hw 1) (hw 2) (hw 3) (hw 4) (hw 5) (hw 6) (hw 7) (hw 22) (hw 68) h5 (Or.inl ⟨h0, rfl, rfl⟩)) rfl rfl ?_
      refine kb_istore (i := 5) (lv' := [(5, .int 0), (4, .int (nI k)), (3, .ref (ad 68)), (2, .ref (ad 37)), (1, .ref (ad 0)), (0, .ref b)]) dL_law_141 (Nat.le_of_ble_eq_true rfl) rfl ?_
      refine k_aload_n dL_law_143 3 rfl rfl ?_
      refine k_aload_n dL_law_144 5 rfl rfl ?_
      refine k_iload dL_law_145 1 rfl ?_
      refine k_iconst (v := 1) dL_law_147 (by decide) ?_
      refine k_iadd dL_law_148 ?_
      refine kg_sld (k + 1) hs1 hws dL_law_149 ?_
      refine k_aload_n dL_law_150 5 rfl rfl ?_
      refine k_iload dL_law_151 1 rfl ?_
      refine k_iconst (v := 2) dL_law_153 (by decide) ?_
      refine k_iadd dL_law_154 ?_
      refine kg_sld (k + 2) hs2 hws dL_law_155 ?_
      refine k_aload_n dL_law_156 5 rfl rfl ?_
      refine k_iload dL_law_157 1 rfl ?_
      refine k_iconst (v := 3) dL_law_159 (by decide) ?_
      refine k_iadd dL_law_160 ?_
      refine kg_sld (k + 3) hs3 hws dL_law_161 ?_
      refine k_aload_n dL_law_162 5 rfl rfl ?_
      refine k_iload dL_law_163 1 rfl ?_
      refine k_iconst (v := 4) dL_law_165 (by decide) ?_
      refine k_iadd dL_law_166 ?_
      refine kg_sld (k + 4) hs4 hws dL_law_167 ?_
      refine kb_eq0 175 dL_law_168 (by decide) hz ?_
      refine k_iconst (v := 1) dL_law_171 (by decide) ?_
      refine k_goto 176 dL_law_172 (by decide) ?_
      refine kg_calliV (As := [.int (xs (k + 1)), .int (xs (k + 2)), .int (xs (k + 3)), .int 1]) (st := []) (Lc := [(37, (ad 37, .inr (6, [.int om.2.1, .int om.2.2.1, .ref (ad 38), .ref (ad 39), .ref (ad 40), .ref (ad 41), .ref (ad 42), .int m_length, .ref (ad 43), .int om.2.2.2.1, .ref (ad 44), .int m_tokens, .ref (ad 45), .ref (ad 46), .ref (ad 47), .int m_comments, .ref (ad 48), .ref (ad 49), .ref (ad 50), .ref (ad 51), .ref (ad 52), .ref (ad 53), .int m_parts, .ref (ad 54), .ref (ad 55), .ref (ad 56), .ref (ad 57), .ref (ad 58), .ref (ad 59), .ref (ad 60), .ref (ad 61), .int m_end, .int m_open, .ref (ad 62), .ref (ad 63), .ref (ad 64), .ref (ad 65), .ref (ad 66), .int m_column, .int m_printed, .ref (ad 67), .int m_repaired, .int m_paid]))), (38, (ad 38, .inl (cI, 20, .inl om.2.2.2.2.1))), (39, (ad 39, .inl (cI, 20, .inl om.2.2.2.2.2.1))), (40, (ad 40, .inl (cI, 100, .inl om.2.2.2.2.2.2.1))), (41, (ad 41, .inl (cI, 100, .inl om.2.2.2.2.2.2.2.1))), (42, (ad 42, .inl (cZ, 20, .inl om.2.2.2.2.2.2.2.2)))]) (L' := (LW ad cI cB cJ cZ k_length k_repaired k_spent oc.2.2.1 oc.2.2.2.1 oc.2.2.2.2.1 oc.2.2.2.2.2.1 oc.2.2.2.2.2.2.1 oc.2.2.2.2.2.2.2.1 oc.2.2.2.2.2.2.2.2.1 k_text c_length c_size c_comments c_text c_starts c_lengths c_signs c_firstComments c_commentStarts c_commentEnds h_prices h_choices h_begun h_traced t_waiting oc.2.2.2.2.2.2.2.2.2.1 oc.2.2.2.2.2.2.2.2.2.2 t_cells t_hints t_within t_begins t_waitSymbols t_waitParents t_waitFirsts t_waitEnds t_waitHints p_size p_column p_sheet p_flats p_broken p_indents om.2.1 om.2.2.1 m_length om.2.2.2.1 m_tokens m_comments m_parts m_end m_open m_column m_printed m_repaired m_paid om.2.2.2.2.1 om.2.2.2.2.2.1 om.2.2.2.2.2.2.1 om.2.2.2.2.2.2.2.1 om.2.2.2.2.2.2.2.2 m_text m_kept m_tokenAt m_tokenLength m_sign m_commentAt m_commentLength m_firstComment m_best m_row m_cut m_ruleOf m_symbolOf m_parent m_place m_from m_to m_cost m_deep m_waiting m_wide m_begins m_started m_broken m_print ((vp_updL out 0 oc.2.1.toInt64)))) (r := om.1) gL_law_X6_rule rfl rfl rfl hyVX6_rule ⟨Nat.le_of_ble_eq_true rfl, Nat.le_of_ble_eq_true rfl⟩ ⟨Nat.le_trans (by omega) hR.1, Nat.le_trans (by omega) hR.2⟩ rfl rfl (Nat.le_of_ble_eq_true rfl) 37 rfl rfl dL_law_176 (fun w z hw => c_X6_rule (cI := cI) (cB := cB) (cJ := cJ) (cZ := cZ) (ad := ad) w z trivial (hw 37) (hw 38) (hw 39) (hw 40) (hw 41) (hw 42) h6) rfl rfl ?_
      refine kb_istore (i := 6) (lv' := [(6, .int om.1), (5, .int 0), (4, .int (nI k)), (3, .ref (ad 68)), (2, .ref (ad 37)), (1, .ref (ad 0)), (0, .ref b)]) dL_law_179 (Nat.le_of_ble_eq_true rfl) rfl ?_
      refine k_aload_n dL_law_181 4 rfl rfl ?_
      refine kg_calliV (As := []) (st := []) (Lc := []) (L' := (LW ad cI cB cJ cZ k_length k_repaired k_spent oc.2.2.1 oc.2.2.2.1 oc.2.2.2.2.1 oc.2.2.2.2.2.1 oc.2.2.2.2.2.2.1 oc.2.2.2.2.2.2.2.1 oc.2.2.2.2.2.2.2.2.1 k_text c_length c_size c_comments c_text c_starts c_lengths c_signs c_firstComments c_commentStarts c_commentEnds h_prices h_choices h_begun h_traced t_waiting oc.2.2.2.2.2.2.2.2.2.1 oc.2.2.2.2.2.2.2.2.2.2 t_cells t_hints t_within t_begins t_waitSymbols t_waitParents t_waitFirsts t_waitEnds t_waitHints p_size p_column p_sheet p_flats p_broken p_indents om.2.1 om.2.2.1 m_length om.2.2.2.1 m_tokens m_comments m_parts m_end m_open m_column m_printed m_repaired m_paid om.2.2.2.2.1 om.2.2.2.2.2.1 om.2.2.2.2.2.2.1 om.2.2.2.2.2.2.2.1 om.2.2.2.2.2.2.2.2 m_text m_kept m_tokenAt m_tokenLength m_sign m_commentAt m_commentLength m_firstComment m_best m_row m_cut m_ruleOf m_symbolOf m_parent m_place m_from m_to m_cost m_deep m_waiting m_wide m_begins m_started m_broken m_print ((vp_updL out 0 oc.2.1.toInt64)))) (r := om.2.1) gL_law_X6_thrown rfl rfl rfl hyVX6_thrown ⟨Nat.le_of_ble_eq_true rfl, Nat.le_of_ble_eq_true rfl⟩ ⟨Nat.le_trans (by omega) hR.1, Nat.le_trans (by omega) hR.2⟩ rfl rfl (Nat.le_of_ble_eq_true rfl) 37 rfl rfl dL_law_182 (fun w z hw => c_X6_thrown (cI := cI) (cB := cB) (cJ := cJ) (cZ := cZ) (ad := ad) w z (hw 37)  rfl) rfl rfl ?_
      refine k_iload dL_law_185 1 rfl ?_
      refine kb_ieq 192 dL_law_187 (by decide) heq ?_
      refine k_iload dL_law_192 1 rfl ?_
      refine kb_ne0 209 dL_law_194 (by decide) rfl ?_
      refine k_aload_n dL_law_197 3 rfl rfl ?_
      refine k_iconst (v := 0) dL_law_198 (by decide) ?_
      refine kb_lald 68 2 rfl rfl dL_law_199 ?_
      refine k_iload dL_law_200 0 rfl ?_
      refine k_i2l dL_law_202 ?_
      refine k_lcmp dL_law_203 ?_
      refine kb_eq1 209 dL_law_204 (by decide) hcmp ?_
      refine k_goto 737 dL_law_209 (by decide) ?_
      refine k_sub [2, 3, 4, 5, 6] rfl ?_
      exact hk _ _ _ _ _ _ _ _ _ _ _ _ _ _ _ _ _ _ _ _ _ _ _ _ _ _ _ _ _ _ _ _ _ _ _ _ _ _ _ _ _ _ _ _ _ _ _ _ _ _ _ _ _ _ _ _ _ _ _ _ _ _ _ _ _ _ _ _ _ _ _ _ _ _ _ _ _ _ _ _ _ _ _ _ _ _ _ hRS'
    · have heq : om.2.1 = 1 := ht
      refine k_aload_n dL_law_104 3 rfl rfl ?_
      refine k_aload_n dL_law_105 4 rfl rfl ?_
      refine k_iload dL_law_106 0 rfl ?_
      refine k_iconst (v := 1) dL_law_108 (by decide) ?_
      refine k_iadd dL_law_109 ?_
      refine kg_sld (k + 1) hs1 hws dL_law_110 ?_
      refine k_aload_n dL_law_111 4 rfl rfl ?_
      refine k_iload dL_law_112 0 rfl ?_
      refine k_iconst (v := 2) dL_law_114 (by decide) ?_
      refine k_iadd dL_law_115 ?_
      refine kg_sld (k + 2) hs2 hws dL_law_116 ?_
      refine k_aload_n dL_law_117 4 rfl rfl ?_
      refine k_iload dL_law_118 0 rfl ?_
      refine k_iconst (v := 3) dL_law_120 (by decide) ?_
      refine k_iadd dL_law_121 ?_
      refine kg_sld (k + 3) hs3 hws dL_law_122 ?_
      refine k_aload_n dL_law_123 4 rfl rfl ?_
      refine k_iload dL_law_124 0 rfl ?_
      refine k_iconst (v := 4) dL_law_126 (by decide) ?_
      refine k_iadd dL_law_127 ?_
      refine kg_sld (k + 4) hs4 hws dL_law_128 ?_
      refine kb_eq0 136 dL_law_129 (by decide) hz ?_
      refine k_iconst (v := 1) dL_law_132 (by decide) ?_
      refine k_goto 137 dL_law_133 (by decide) ?_
      refine k_aload_n dL_law_137 1 rfl rfl ?_
      refine kg_callH (As := [.ref (ad 0), .int (xs (k + 1)), .int (xs (k + 2)), .int (xs (k + 3)), .int 1, .ref (ad 68)]) (st := []) (Lc := [(1, (ad 1, .inr (2, [.ref (ad 2), .ref (ad 3), .ref (ad 4), .ref (ad 5), .ref (ad 6), .ref (ad 7), .int oc.2.2.1]))), (2, (ad 2, .inl (cI, 20, .inl oc.2.2.2.1))), (3, (ad 3, .inl (cI, 20, .inl oc.2.2.2.2.1))), (4, (ad 4, .inl (cI, 100, .inl oc.2.2.2.2.2.1))), (5, (ad 5, .inl (cI, 100, .inl oc.2.2.2.2.2.2.1))), (6, (ad 6, .inl (cZ, 20, .inl oc.2.2.2.2.2.2.2.1))), (7, (ad 7, .inl (cZ, 6, .inl oc.2.2.2.2.2.2.2.2.1))), (22, (ad 22, .inr (4, [.ref (ad 1), .ref (ad 17), .ref (ad 23), .ref (ad 24), .ref (ad 25), .ref (ad 26), .ref (ad 27), .ref (ad 28), .ref (ad 29), .ref (ad 30), .ref (ad 31), .int t_waiting, .int oc.2.2.2.2.2.2.2.2.2.1, .int oc.2.2.2.2.2.2.2.2.2.2]))), (68, (ad 68, .inl (cJ, 1, .inr (.inl out))))]) (L' := (LW ad cI cB cJ cZ k_length k_repaired k_spent oc.2.2.1 oc.2.2.2.1 oc.2.2.2.2.1 oc.2.2.2.2.2.1 oc.2.2.2.2.2.2.1 oc.2.2.2.2.2.2.2.1 oc.2.2.2.2.2.2.2.2.1 k_text c_length c_size c_comments c_text c_starts c_lengths c_signs c_firstComments c_commentStarts c_commentEnds h_prices h_choices h_begun h_traced t_waiting oc.2.2.2.2.2.2.2.2.2.1 oc.2.2.2.2.2.2.2.2.2.2 t_cells t_hints t_within t_begins t_waitSymbols t_waitParents t_waitFirsts t_waitEnds t_waitHints p_size p_column p_sheet p_flats p_broken p_indents m_thrown m_rules m_length m_tree m_tokens m_comments m_parts m_end m_open m_column m_printed m_repaired m_paid m_head m_size m_symbol m_hint m_in m_text m_kept m_tokenAt m_tokenLength m_sign m_commentAt m_commentLength m_firstComment m_best m_row m_cut m_ruleOf m_symbolOf m_parent m_place m_from m_to m_cost m_deep m_waiting m_wide m_begins m_started m_broken m_print out)) (r := 1) hws gL_law_L_rule rfl rfl rfl hySL_rule ⟨Nat.le_of_ble_eq_true rfl, Nat.le_of_ble_eq_true rfl⟩ ⟨hR.1, hR.2⟩ rfl rfl (Nat.le_of_ble_eq_true rfl) dL_law_138 (fun w z hw => c_L_rule (cI := cI) (cB := cB) (cJ := cJ) (cZ := cZ) (ad := ad) w z ⟨hl, hw 0⟩ (hw 1) (hw 2) (hw 3) (hw 4) (hw 5) (hw 6) (hw 7) (hw 22) (hw 68) h5 (Or.inr (Or.inl ⟨h0, rfl, rfl⟩))) rfl rfl ?_
      refine kb_istore (i := 5) (lv' := [(5, .int 1), (4, .int (nI k)), (3, .ref (ad 68)), (2, .ref (ad 37)), (1, .ref (ad 0)), (0, .ref b)]) dL_law_141 (Nat.le_of_ble_eq_true rfl) rfl ?_
      refine k_aload_n dL_law_143 3 rfl rfl ?_
      refine k_aload_n dL_law_144 5 rfl rfl ?_
      refine k_iload dL_law_145 1 rfl ?_
      refine k_iconst (v := 1) dL_law_147 (by decide) ?_
      refine k_iadd dL_law_148 ?_
      refine kg_sld (k + 1) hs1 hws dL_law_149 ?_
      refine k_aload_n dL_law_150 5 rfl rfl ?_
      refine k_iload dL_law_151 1 rfl ?_
      refine k_iconst (v := 2) dL_law_153 (by decide) ?_
      refine k_iadd dL_law_154 ?_
      refine kg_sld (k + 2) hs2 hws dL_law_155 ?_
      refine k_aload_n dL_law_156 5 rfl rfl ?_
      refine k_iload dL_law_157 1 rfl ?_
      refine k_iconst (v := 3) dL_law_159 (by decide) ?_
      refine k_iadd dL_law_160 ?_
      refine kg_sld (k + 3) hs3 hws dL_law_161 ?_
      refine k_aload_n dL_law_162 5 rfl rfl ?_
      refine k_iload dL_law_163 1 rfl ?_
      refine k_iconst (v := 4) dL_law_165 (by decide) ?_
      refine k_iadd dL_law_166 ?_
      refine kg_sld (k + 4) hs4 hws dL_law_167 ?_
      refine kb_eq0 175 dL_law_168 (by decide) hz ?_
      refine k_iconst (v := 1) dL_law_171 (by decide) ?_
      refine k_goto 176 dL_law_172 (by decide) ?_
      refine kg_calliV (As := [.int (xs (k + 1)), .int (xs (k + 2)), .int (xs (k + 3)), .int 1]) (st := []) (Lc := [(37, (ad 37, .inr (6, [.int om.2.1, .int om.2.2.1, .ref (ad 38), .ref (ad 39), .ref (ad 40), .ref (ad 41), .ref (ad 42), .int m_length, .ref (ad 43), .int om.2.2.2.1, .ref (ad 44), .int m_tokens, .ref (ad 45), .ref (ad 46), .ref (ad 47), .int m_comments, .ref (ad 48), .ref (ad 49), .ref (ad 50), .ref (ad 51), .ref (ad 52), .ref (ad 53), .int m_parts, .ref (ad 54), .ref (ad 55), .ref (ad 56), .ref (ad 57), .ref (ad 58), .ref (ad 59), .ref (ad 60), .ref (ad 61), .int m_end, .int m_open, .ref (ad 62), .ref (ad 63), .ref (ad 64), .ref (ad 65), .ref (ad 66), .int m_column, .int m_printed, .ref (ad 67), .int m_repaired, .int m_paid]))), (38, (ad 38, .inl (cI, 20, .inl om.2.2.2.2.1))), (39, (ad 39, .inl (cI, 20, .inl om.2.2.2.2.2.1))), (40, (ad 40, .inl (cI, 100, .inl om.2.2.2.2.2.2.1))), (41, (ad 41, .inl (cI, 100, .inl om.2.2.2.2.2.2.2.1))), (42, (ad 42, .inl (cZ, 20, .inl om.2.2.2.2.2.2.2.2)))]) (L' := (LW ad cI cB cJ cZ k_length k_repaired k_spent oc.2.2.1 oc.2.2.2.1 oc.2.2.2.2.1 oc.2.2.2.2.2.1 oc.2.2.2.2.2.2.1 oc.2.2.2.2.2.2.2.1 oc.2.2.2.2.2.2.2.2.1 k_text c_length c_size c_comments c_text c_starts c_lengths c_signs c_firstComments c_commentStarts c_commentEnds h_prices h_choices h_begun h_traced t_waiting oc.2.2.2.2.2.2.2.2.2.1 oc.2.2.2.2.2.2.2.2.2.2 t_cells t_hints t_within t_begins t_waitSymbols t_waitParents t_waitFirsts t_waitEnds t_waitHints p_size p_column p_sheet p_flats p_broken p_indents om.2.1 om.2.2.1 m_length om.2.2.2.1 m_tokens m_comments m_parts m_end m_open m_column m_printed m_repaired m_paid om.2.2.2.2.1 om.2.2.2.2.2.1 om.2.2.2.2.2.2.1 om.2.2.2.2.2.2.2.1 om.2.2.2.2.2.2.2.2 m_text m_kept m_tokenAt m_tokenLength m_sign m_commentAt m_commentLength m_firstComment m_best m_row m_cut m_ruleOf m_symbolOf m_parent m_place m_from m_to m_cost m_deep m_waiting m_wide m_begins m_started m_broken m_print out)) (r := om.1) gL_law_X6_rule rfl rfl rfl hyVX6_rule ⟨Nat.le_of_ble_eq_true rfl, Nat.le_of_ble_eq_true rfl⟩ ⟨Nat.le_trans (by omega) hR.1, Nat.le_trans (by omega) hR.2⟩ rfl rfl (Nat.le_of_ble_eq_true rfl) 37 rfl rfl dL_law_176 (fun w z hw => c_X6_rule (cI := cI) (cB := cB) (cJ := cJ) (cZ := cZ) (ad := ad) w z trivial (hw 37) (hw 38) (hw 39) (hw 40) (hw 41) (hw 42) h6) rfl rfl ?_
      refine kb_istore (i := 6) (lv' := [(6, .int om.1), (5, .int 1), (4, .int (nI k)), (3, .ref (ad 68)), (2, .ref (ad 37)), (1, .ref (ad 0)), (0, .ref b)]) dL_law_179 (Nat.le_of_ble_eq_true rfl) rfl ?_
      refine k_aload_n dL_law_181 4 rfl rfl ?_
      refine kg_calliV (As := []) (st := []) (Lc := []) (L' := (LW ad cI cB cJ cZ k_length k_repaired k_spent oc.2.2.1 oc.2.2.2.1 oc.2.2.2.2.1 oc.2.2.2.2.2.1 oc.2.2.2.2.2.2.1 oc.2.2.2.2.2.2.2.1 oc.2.2.2.2.2.2.2.2.1 k_text c_length c_size c_comments c_text c_starts c_lengths c_signs c_firstComments c_commentStarts c_commentEnds h_prices h_choices h_begun h_traced t_waiting oc.2.2.2.2.2.2.2.2.2.1 oc.2.2.2.2.2.2.2.2.2.2 t_cells t_hints t_within t_begins t_waitSymbols t_waitParents t_waitFirsts t_waitEnds t_waitHints p_size p_column p_sheet p_flats p_broken p_indents om.2.1 om.2.2.1 m_length om.2.2.2.1 m_tokens m_comments m_parts m_end m_open m_column m_printed m_repaired m_paid om.2.2.2.2.1 om.2.2.2.2.2.1 om.2.2.2.2.2.2.1 om.2.2.2.2.2.2.2.1 om.2.2.2.2.2.2.2.2 m_text m_kept m_tokenAt m_tokenLength m_sign m_commentAt m_commentLength m_firstComment m_best m_row m_cut m_ruleOf m_symbolOf m_parent m_place m_from m_to m_cost m_deep m_waiting m_wide m_begins m_started m_broken m_print out)) (r := om.2.1) gL_law_X6_thrown rfl rfl rfl hyVX6_thrown ⟨Nat.le_of_ble_eq_true rfl, Nat.le_of_ble_eq_true rfl⟩ ⟨Nat.le_trans (by omega) hR.1, Nat.le_trans (by omega) hR.2⟩ rfl rfl (Nat.le_of_ble_eq_true rfl) 37 rfl rfl dL_law_182 (fun w z hw => c_X6_thrown (cI := cI) (cB := cB) (cJ := cJ) (cZ := cZ) (ad := ad) w z (hw 37)  rfl) rfl rfl ?_
      refine k_iload dL_law_185 1 rfl ?_
      refine kb_ieq 192 dL_law_187 (by decide) heq ?_
      refine k_iload dL_law_192 1 rfl ?_
      refine kb_ne1 209 dL_law_194 (by decide) (by decide) ?_
      refine k_goto 737 dL_law_209 (by decide) ?_
      refine k_sub [2, 3, 4, 5, 6] rfl ?_
      exact hk _ _ _ _ _ _ _ _ _ _ _ _ _ _ _ _ _ _ _ _ _ _ _ _ _ _ _ _ _ _ _ _ _ _ _ _ _ _ _ _ _ _ _ _ _ _ _ _ _ _ _ _ _ _ _ _ _ _ _ _ _ _ _ _ _ _ _ _ _ _ _ _ _ _ _ _ _ _ _ _ _ _ _ _ _ _ _ hRS'
    · have heq : om.2.1 = 2 := ht
      refine k_aload_n dL_law_104 3 rfl rfl ?_
      refine k_aload_n dL_law_105 4 rfl rfl ?_
      refine k_iload dL_law_106 0 rfl ?_
      refine k_iconst (v := 1) dL_law_108 (by decide) ?_
      refine k_iadd dL_law_109 ?_
      refine kg_sld (k + 1) hs1 hws dL_law_110 ?_
      refine k_aload_n dL_law_111 4 rfl rfl ?_
      refine k_iload dL_law_112 0 rfl ?_
      refine k_iconst (v := 2) dL_law_114 (by decide) ?_
      refine k_iadd dL_law_115 ?_
      refine kg_sld (k + 2) hs2 hws dL_law_116 ?_
      refine k_aload_n dL_law_117 4 rfl rfl ?_
      refine k_iload dL_law_118 0 rfl ?_
      refine k_iconst (v := 3) dL_law_120 (by decide) ?_
      refine k_iadd dL_law_121 ?_
      refine kg_sld (k + 3) hs3 hws dL_law_122 ?_
      refine k_aload_n dL_law_123 4 rfl rfl ?_
      refine k_iload dL_law_124 0 rfl ?_
      refine k_iconst (v := 4) dL_law_126 (by decide) ?_
      refine k_iadd dL_law_127 ?_
      refine kg_sld (k + 4) hs4 hws dL_law_128 ?_
      refine kb_eq0 136 dL_law_129 (by decide) hz ?_
      refine k_iconst (v := 1) dL_law_132 (by decide) ?_
      refine k_goto 137 dL_law_133 (by decide) ?_
      refine k_aload_n dL_law_137 1 rfl rfl ?_
      refine kg_callH (As := [.ref (ad 0), .int (xs (k + 1)), .int (xs (k + 2)), .int (xs (k + 3)), .int 1, .ref (ad 68)]) (st := []) (Lc := [(1, (ad 1, .inr (2, [.ref (ad 2), .ref (ad 3), .ref (ad 4), .ref (ad 5), .ref (ad 6), .ref (ad 7), .int oc.2.2.1]))), (2, (ad 2, .inl (cI, 20, .inl oc.2.2.2.1))), (3, (ad 3, .inl (cI, 20, .inl oc.2.2.2.2.1))), (4, (ad 4, .inl (cI, 100, .inl oc.2.2.2.2.2.1))), (5, (ad 5, .inl (cI, 100, .inl oc.2.2.2.2.2.2.1))), (6, (ad 6, .inl (cZ, 20, .inl oc.2.2.2.2.2.2.2.1))), (7, (ad 7, .inl (cZ, 6, .inl oc.2.2.2.2.2.2.2.2.1))), (22, (ad 22, .inr (4, [.ref (ad 1), .ref (ad 17), .ref (ad 23), .ref (ad 24), .ref (ad 25), .ref (ad 26), .ref (ad 27), .ref (ad 28), .ref (ad 29), .ref (ad 30), .ref (ad 31), .int t_waiting, .int oc.2.2.2.2.2.2.2.2.2.1, .int oc.2.2.2.2.2.2.2.2.2.2]))), (68, (ad 68, .inl (cJ, 1, .inr (.inl out))))]) (L' := (LW ad cI cB cJ cZ k_length k_repaired k_spent oc.2.2.1 oc.2.2.2.1 oc.2.2.2.2.1 oc.2.2.2.2.2.1 oc.2.2.2.2.2.2.1 oc.2.2.2.2.2.2.2.1 oc.2.2.2.2.2.2.2.2.1 k_text c_length c_size c_comments c_text c_starts c_lengths c_signs c_firstComments c_commentStarts c_commentEnds h_prices h_choices h_begun h_traced t_waiting oc.2.2.2.2.2.2.2.2.2.1 oc.2.2.2.2.2.2.2.2.2.2 t_cells t_hints t_within t_begins t_waitSymbols t_waitParents t_waitFirsts t_waitEnds t_waitHints p_size p_column p_sheet p_flats p_broken p_indents m_thrown m_rules m_length m_tree m_tokens m_comments m_parts m_end m_open m_column m_printed m_repaired m_paid m_head m_size m_symbol m_hint m_in m_text m_kept m_tokenAt m_tokenLength m_sign m_commentAt m_commentLength m_firstComment m_best m_row m_cut m_ruleOf m_symbolOf m_parent m_place m_from m_to m_cost m_deep m_waiting m_wide m_begins m_started m_broken m_print out)) (r := 2) hws gL_law_L_rule rfl rfl rfl hySL_rule ⟨Nat.le_of_ble_eq_true rfl, Nat.le_of_ble_eq_true rfl⟩ ⟨hR.1, hR.2⟩ rfl rfl (Nat.le_of_ble_eq_true rfl) dL_law_138 (fun w z hw => c_L_rule (cI := cI) (cB := cB) (cJ := cJ) (cZ := cZ) (ad := ad) w z ⟨hl, hw 0⟩ (hw 1) (hw 2) (hw 3) (hw 4) (hw 5) (hw 6) (hw 7) (hw 22) (hw 68) h5 (Or.inr ((Or.inr (⟨h0, rfl, rfl⟩))))) rfl rfl ?_
      refine kb_istore (i := 5) (lv' := [(5, .int 2), (4, .int (nI k)), (3, .ref (ad 68)), (2, .ref (ad 37)), (1, .ref (ad 0)), (0, .ref b)]) dL_law_141 (Nat.le_of_ble_eq_true rfl) rfl ?_
      refine k_aload_n dL_law_143 3 rfl rfl ?_
      refine k_aload_n dL_law_144 5 rfl rfl ?_
      refine k_iload dL_law_145 1 rfl ?_
      refine k_iconst (v := 1) dL_law_147 (by decide) ?_
      refine k_iadd dL_law_148 ?_
      refine kg_sld (k + 1) hs1 hws dL_law_149 ?_
      refine k_aload_n dL_law_150 5 rfl rfl ?_
      refine k_iload dL_law_151 1 rfl ?_
      refine k_iconst (v := 2) dL_law_153 (by decide) ?_
      refine k_iadd dL_law_154 ?_
      refine kg_sld (k + 2) hs2 hws dL_law_155 ?_
      refine k_aload_n dL_law_156 5 rfl rfl ?_
      refine k_iload dL_law_157 1 rfl ?_
      refine k_iconst (v := 3) dL_law_159 (by decide) ?_
      refine k_iadd dL_law_160 ?_
      refine kg_sld (k + 3) hs3 hws dL_law_161 ?_
      refine k_aload_n dL_law_162 5 rfl rfl ?_
      refine k_iload dL_law_163 1 rfl ?_
      refine k_iconst (v := 4) dL_law_165 (by decide) ?_
      refine k_iadd dL_law_166 ?_
      refine kg_sld (k + 4) hs4 hws dL_law_167 ?_
      refine kb_eq0 175 dL_law_168 (by decide) hz ?_
      refine k_iconst (v := 1) dL_law_171 (by decide) ?_
      refine k_goto 176 dL_law_172 (by decide) ?_
      refine kg_calliV (As := [.int (xs (k + 1)), .int (xs (k + 2)), .int (xs (k + 3)), .int 1]) (st := []) (Lc := [(37, (ad 37, .inr (6, [.int om.2.1, .int om.2.2.1, .ref (ad 38), .ref (ad 39), .ref (ad 40), .ref (ad 41), .ref (ad 42), .int m_length, .ref (ad 43), .int om.2.2.2.1, .ref (ad 44), .int m_tokens, .ref (ad 45), .ref (ad 46), .ref (ad 47), .int m_comments, .ref (ad 48), .ref (ad 49), .ref (ad 50), .ref (ad 51), .ref (ad 52), .ref (ad 53), .int m_parts, .ref (ad 54), .ref (ad 55), .ref (ad 56), .ref (ad 57), .ref (ad 58), .ref (ad 59), .ref (ad 60), .ref (ad 61), .int m_end, .int m_open, .ref (ad 62), .ref (ad 63), .ref (ad 64), .ref (ad 65), .ref (ad 66), .int m_column, .int m_printed, .ref (ad 67), .int m_repaired, .int m_paid]))), (38, (ad 38, .inl (cI, 20, .inl om.2.2.2.2.1))), (39, (ad 39, .inl (cI, 20, .inl om.2.2.2.2.2.1))), (40, (ad 40, .inl (cI, 100, .inl om.2.2.2.2.2.2.1))), (41, (ad 41, .inl (cI, 100, .inl om.2.2.2.2.2.2.2.1))), (42, (ad 42, .inl (cZ, 20, .inl om.2.2.2.2.2.2.2.2)))]) (L' := (LW ad cI cB cJ cZ k_length k_repaired k_spent oc.2.2.1 oc.2.2.2.1 oc.2.2.2.2.1 oc.2.2.2.2.2.1 oc.2.2.2.2.2.2.1 oc.2.2.2.2.2.2.2.1 oc.2.2.2.2.2.2.2.2.1 k_text c_length c_size c_comments c_text c_starts c_lengths c_signs c_firstComments c_commentStarts c_commentEnds h_prices h_choices h_begun h_traced t_waiting oc.2.2.2.2.2.2.2.2.2.1 oc.2.2.2.2.2.2.2.2.2.2 t_cells t_hints t_within t_begins t_waitSymbols t_waitParents t_waitFirsts t_waitEnds t_waitHints p_size p_column p_sheet p_flats p_broken p_indents om.2.1 om.2.2.1 m_length om.2.2.2.1 m_tokens m_comments m_parts m_end m_open m_column m_printed m_repaired m_paid om.2.2.2.2.1 om.2.2.2.2.2.1 om.2.2.2.2.2.2.1 om.2.2.2.2.2.2.2.1 om.2.2.2.2.2.2.2.2 m_text m_kept m_tokenAt m_tokenLength m_sign m_commentAt m_commentLength m_firstComment m_best m_row m_cut m_ruleOf m_symbolOf m_parent m_place m_from m_to m_cost m_deep m_waiting m_wide m_begins m_started m_broken m_print out)) (r := om.1) gL_law_X6_rule rfl rfl rfl hyVX6_rule ⟨Nat.le_of_ble_eq_true rfl, Nat.le_of_ble_eq_true rfl⟩ ⟨Nat.le_trans (by omega) hR.1, Nat.le_trans (by omega) hR.2⟩ rfl rfl (Nat.le_of_ble_eq_true rfl) 37 rfl rfl dL_law_176 (fun w z hw => c_X6_rule (cI := cI) (cB := cB) (cJ := cJ) (cZ := cZ) (ad := ad) w z trivial (hw 37) (hw 38) (hw 39) (hw 40) (hw 41) (hw 42) h6) rfl rfl ?_
      refine kb_istore (i := 6) (lv' := [(6, .int om.1), (5, .int 2), (4, .int (nI k)), (3, .ref (ad 68)), (2, .ref (ad 37)), (1, .ref (ad 0)), (0, .ref b)]) dL_law_179 (Nat.le_of_ble_eq_true rfl) rfl ?_
      refine k_aload_n dL_law_181 4 rfl rfl ?_
      refine kg_calliV (As := []) (st := []) (Lc := []) (L' := (LW ad cI cB cJ cZ k_length k_repaired k_spent oc.2.2.1 oc.2.2.2.1 oc.2.2.2.2.1 oc.2.2.2.2.2.1 oc.2.2.2.2.2.2.1 oc.2.2.2.2.2.2.2.1 oc.2.2.2.2.2.2.2.2.1 k_text c_length c_size c_comments c_text c_starts c_lengths c_signs c_firstComments c_commentStarts c_commentEnds h_prices h_choices h_begun h_traced t_waiting oc.2.2.2.2.2.2.2.2.2.1 oc.2.2.2.2.2.2.2.2.2.2 t_cells t_hints t_within t_begins t_waitSymbols t_waitParents t_waitFirsts t_waitEnds t_waitHints p_size p_column p_sheet p_flats p_broken p_indents om.2.1 om.2.2.1 m_length om.2.2.2.1 m_tokens m_comments m_parts m_end m_open m_column m_printed m_repaired m_paid om.2.2.2.2.1 om.2.2.2.2.2.1 om.2.2.2.2.2.2.1 om.2.2.2.2.2.2.2.1 om.2.2.2.2.2.2.2.2 m_text m_kept m_tokenAt m_tokenLength m_sign m_commentAt m_commentLength m_firstComment m_best m_row m_cut m_ruleOf m_symbolOf m_parent m_place m_from m_to m_cost m_deep m_waiting m_wide m_begins m_started m_broken m_print out)) (r := om.2.1) gL_law_X6_thrown rfl rfl rfl hyVX6_thrown ⟨Nat.le_of_ble_eq_true rfl, Nat.le_of_ble_eq_true rfl⟩ ⟨Nat.le_trans (by omega) hR.1, Nat.le_trans (by omega) hR.2⟩ rfl rfl (Nat.le_of_ble_eq_true rfl) 37 rfl rfl dL_law_182 (fun w z hw => c_X6_thrown (cI := cI) (cB := cB) (cJ := cJ) (cZ := cZ) (ad := ad) w z (hw 37)  rfl) rfl rfl ?_
      refine k_iload dL_law_185 1 rfl ?_
      refine kb_ieq 192 dL_law_187 (by decide) heq ?_
      refine k_iload dL_law_192 1 rfl ?_
      refine kb_ne1 209 dL_law_194 (by decide) (by decide) ?_
      refine k_goto 737 dL_law_209 (by decide) ?_
      refine k_sub [2, 3, 4, 5, 6] rfl ?_
      exact hk _ _ _ _ _ _ _ _ _ _ _ _ _ _ _ _ _ _ _ _ _ _ _ _ _ _ _ _ _ _ _ _ _ _ _ _ _ _ _ _ _ _ _ _ _ _ _ _ _ _ _ _ _ _ _ _ _ _ _ _ _ _ _ _ _ _ _ _ _ _ _ _ _ _ _ _ _ _ _ _ _ _ _ _ _ _ _ hRS'
