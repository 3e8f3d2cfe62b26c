set_option maxHeartbeats 8000000 in
set_option maxRecDepth 100000 in
theorem lawc_write {l : Launch} {D : va_G} {cI cB cJ cZ : ClassId} {ad : Nat → Nat} {ws : va_W} {sz b n : Nat} {xs : Nat → Int32} {k nc ns : Nat} {k_length : Int32} {k_repaired : Int32} {k_spent : Int32} {g_size : Int32} {g_heads : Nat → Int32} {g_lengths : Nat → Int32} {g_symbols : Nat → Int32} {g_hints : Nat → Int32} {g_ins : Nat → Int32} {g_ground : Nat → Int32} {k_text : Nat → Int32} {c_length : Int32} {c_size : Int32} {c_comments : Int32} {c_text : Nat → Int32} {c_starts : Nat → Int32} {c_lengths : Nat → Int32} {c_signs : Nat → Int32} {c_firstComments : Nat → Int32} {c_commentStarts : Nat → Int32} {c_commentEnds : Nat → Int32} {h_prices : Nat → Int64} {h_choices : Nat → Int32} {h_begun : Nat → Int64} {h_traced : Nat → Int64} {t_waiting : Int32} {t_size : Int32} {t_skipped : Int32} {t_cells : Nat → Int32} {t_hints : Nat → Int32} {t_within : Nat → Int32} {t_begins : Nat → Int32} {t_waitSymbols : Nat → Int32} {t_waitParents : Nat → Int32} {t_waitFirsts : Nat → Int32} {t_waitEnds : Nat → Int32} {t_waitHints : Nat → Int32} {p_size : Int32} {p_column : Int32} {p_sheet : Nat → Int32} {p_flats : Nat → Int32} {p_broken : Nat → Int32} {p_indents : Nat → Int32} {m_thrown : Int32} {m_rules : Int32} {m_length : Int32} {m_tree : Int32} {m_tokens : Int32} {m_comments : Int32} {m_parts : Int32} {m_end : Int32} {m_open : Int32} {m_column : Int32} {m_printed : Int32} {m_repaired : Int32} {m_paid : Int32} {m_head : Nat → Int32} {m_size : Nat → Int32} {m_symbol : Nat → Int32} {m_hint : Nat → Int32} {m_in : Nat → Int32} {m_text : Nat → Int32} {m_kept : Nat → Int32} {m_tokenAt : Nat → Int32} {m_tokenLength : Nat → Int32} {m_sign : Nat → Int32} {m_commentAt : Nat → Int32} {m_commentLength : Nat → Int32} {m_firstComment : Nat → Int32} {m_best : Nat → Int64} {m_row : Nat → Int64} {m_cut : Nat → Int32} {m_ruleOf : Nat → Int32} {m_symbolOf : Nat → Int32} {m_parent : Nat → Int32} {m_place : Nat → Int32} {m_from : Nat → Int32} {m_to : Nat → Int32} {m_cost : Nat → Int32} {m_deep : Nat → Int32} {m_waiting : Nat → Int32} {m_wide : Nat → Int32} {m_begins : Nat → Int32} {m_started : Nat → Int32} {m_broken : Nat → Int32} {m_print : Nat → Int32} {out : Nat → Int64} (hl : l.stackTraces = false) (hws : va_D (va_A [] sz) ws) (hR : nc + 1 ≤ 210 ∧ ns + 6 ≤ 27763) (hs1 : (nI k + 1).toNatClampNeg = k + 1 ∧ vp_in (nI k + 1) n) (hs2 : (nI k + 2).toNatClampNeg = k + 2 ∧ vp_in (nI k + 2) n) (hs3 : (nI k + 3).toNatClampNeg = k + 3 ∧ vp_in (nI k + 3) n) (hs4 : (nI k + 4).toNatClampNeg = k + 4 ∧ vp_in (nI k + 4) n) (hRS : RS k_length k_repaired k_spent g_size g_heads g_lengths g_symbols g_hints g_ins g_ground k_text c_length c_size c_comments c_text c_starts c_lengths c_signs c_firstComments c_commentStarts c_commentEnds h_prices h_choices h_begun h_traced t_waiting t_size t_skipped t_cells t_hints t_within t_begins t_waitSymbols t_waitParents t_waitFirsts t_waitEnds t_waitHints p_size p_column p_sheet p_flats p_broken p_indents m_thrown m_rules m_length m_tree m_tokens m_comments m_parts m_end m_open m_column m_printed m_repaired m_paid m_head m_size m_symbol m_hint m_in m_text m_kept m_tokenAt m_tokenLength m_sign m_commentAt m_commentLength m_firstComment m_best m_row m_cut m_ruleOf m_symbolOf m_parent m_place m_from m_to m_cost m_deep m_waiting m_wide m_begins m_started m_broken m_print) (hk : ∀ (k_length : Int32) (k_repaired : Int32) (k_spent : Int32) (g_size : Int32) (g_heads : Nat → Int32) (g_lengths : Nat → Int32) (g_symbols : Nat → Int32) (g_hints : Nat → Int32) (g_ins : Nat → Int32) (g_ground : Nat → Int32) (k_text : Nat → Int32) (c_length : Int32) (c_size : Int32) (c_comments : Int32) (c_text : Nat → Int32) (c_starts : Nat → Int32) (c_lengths : Nat → Int32) (c_signs : Nat → Int32) (c_firstComments : Nat → Int32) (c_commentStarts : Nat → Int32) (c_commentEnds : Nat → Int32) (h_prices : Nat → Int64) (h_choices : Nat → Int32) (h_begun : Nat → Int64) (h_traced : Nat → Int64) (t_waiting : Int32) (t_size : Int32) (t_skipped : Int32) (t_cells : Nat → Int32) (t_hints : Nat → Int32) (t_within : Nat → Int32) (t_begins : Nat → Int32) (t_waitSymbols : Nat → Int32) (t_waitParents : Nat → Int32) (t_waitFirsts : Nat → Int32) (t_waitEnds : Nat → Int32) (t_waitHints : Nat → Int32) (p_size : Int32) (p_column : Int32) (p_sheet : Nat → Int32) (p_flats : Nat → Int32) (p_broken : Nat → Int32) (p_indents : Nat → Int32) (m_thrown : Int32) (m_rules : Int32) (m_length : Int32) (m_tree : Int32) (m_tokens : Int32) (m_comments : Int32) (m_parts : Int32) (m_end : Int32) (m_open : Int32) (m_column : Int32) (m_printed : Int32) (m_repaired : Int32) (m_paid : Int32) (m_head : Nat → Int32) (m_size : Nat → Int32) (m_symbol : Nat → Int32) (m_hint : Nat → Int32) (m_in : Nat → Int32) (m_text : Nat → Int32) (m_kept : Nat → Int32) (m_tokenAt : Nat → Int32) (m_tokenLength : Nat → Int32) (m_sign : Nat → Int32) (m_commentAt : Nat → Int32) (m_commentLength : Nat → Int32) (m_firstComment : Nat → Int32) (m_best : Nat → Int64) (m_row : Nat → Int64) (m_cut : Nat → Int32) (m_ruleOf : Nat → Int32) (m_symbolOf : Nat → Int32) (m_parent : Nat → Int32) (m_place : Nat → Int32) (m_from : Nat → Int32) (m_to : Nat → Int32) (m_cost : Nat → Int32) (m_deep : Nat → Int32) (m_waiting : Nat → Int32) (m_wide : Nat → Int32) (m_begins : Nat → Int32) (m_started : Nat → Int32) (m_broken : Nat → Int32) (m_print : Nat → Int32) (out : Nat → Int64), RS k_length k_repaired k_spent g_size g_heads g_lengths g_symbols g_hints g_ins g_ground k_text c_length c_size c_comments c_text c_starts c_lengths c_signs c_firstComments c_commentStarts c_commentEnds h_prices h_choices h_begun h_traced t_waiting t_size t_skipped t_cells t_hints t_within t_begins t_waitSymbols t_waitParents t_waitFirsts t_waitEnds t_waitHints p_size p_column p_sheet p_flats p_broken p_indents m_thrown m_rules m_length m_tree m_tokens m_comments m_parts m_end m_open m_column m_printed m_repaired m_paid m_head m_size m_symbol m_hint m_in m_text m_kept m_tokenAt m_tokenLength m_sign m_commentAt m_commentLength m_firstComment m_best m_row m_cut m_ruleOf m_symbolOf m_parent m_place m_from m_to m_cost m_deep m_waiting m_wide m_begins m_started m_broken m_print → KG l xL_law D (kT cI cB cJ cZ) ws sz (lQ b n xs sz) (nc + 1) (ns + 6) 737 (lvL ad b k) [] (LW ad cI cB cJ cZ k_length k_repaired k_spent g_size g_heads g_lengths g_symbols g_hints g_ins g_ground k_text c_length c_size c_comments c_text c_starts c_lengths c_signs c_firstComments c_commentStarts c_commentEnds h_prices h_choices h_begun h_traced t_waiting t_size t_skipped t_cells t_hints t_within t_begins t_waitSymbols t_waitParents t_waitFirsts t_waitEnds t_waitHints p_size p_column p_sheet p_flats p_broken p_indents m_thrown m_rules m_length m_tree m_tokens m_comments m_parts m_end m_open m_column m_printed m_repaired m_paid m_head m_size m_symbol m_hint m_in m_text m_kept m_tokenAt m_tokenLength m_sign m_commentAt m_commentLength m_firstComment m_best m_row m_cut m_ruleOf m_symbolOf m_parent m_place m_from m_to m_cost m_deep m_waiting m_wide m_begins m_started m_broken m_print out)) : KG l xL_law D (kT cI cB cJ cZ) ws sz (lQ b n xs sz) nc ns 212 (lvL ad b k) [] (LW ad cI cB cJ cZ k_length k_repaired k_spent g_size g_heads g_lengths g_symbols g_hints g_ins g_ground k_text c_length c_size c_comments c_text c_starts c_lengths c_signs c_firstComments c_commentStarts c_commentEnds h_prices h_choices h_begun h_traced t_waiting t_size t_skipped t_cells t_hints t_within t_begins t_waitSymbols t_waitParents t_waitFirsts t_waitEnds t_waitHints p_size p_column p_sheet p_flats p_broken p_indents m_thrown m_rules m_length m_tree m_tokens m_comments m_parts m_end m_open m_column m_printed m_repaired m_paid m_head m_size m_symbol m_hint m_in m_text m_kept m_tokenAt m_tokenLength m_sign m_commentAt m_commentLength m_firstComment m_best m_row m_cut m_ruleOf m_symbolOf m_parent m_place m_from m_to m_cost m_deep m_waiting m_wide m_begins m_started m_broken m_print out) := by
  obtain ⟨oc, om, h5, h6, halt, hRS'⟩ := s_write hRS (((xs (k + 1)).toInt64 <<< ((32 : Int32).toInt64 &&& 63)) ||| ((xs (k + 2)).toInt64 &&& 4294967295)) (xs (k + 3))
  rcases halt with ⟨h0, ht, hv⟩ | ⟨h0, ht⟩ | ⟨h0, ht⟩
  · have heq : om.2.1 = 0 := ht
    have hcmp : lg_cmp (vp_updL out 0 oc.2.1.toInt64 0) (om.1).toInt64 = 0 := by
      rw [hv]
      exact lg_refl _
    refine k_aload_n dL_law_212 3 rfl rfl ?_
    refine k_aload_n dL_law_213 4 rfl rfl ?_
    refine k_iload dL_law_214 0 rfl ?_
    refine k_iconst (v := 1) dL_law_216 (by decide) ?_
    refine k_iadd dL_law_217 ?_
    refine kg_sld (k + 1) hs1 hws dL_law_218 ?_
    refine k_i2l dL_law_219 ?_
    refine k_bipush (v := 32) dL_law_220 (by decide) ?_
    refine k_lshl dL_law_222 ?_
    refine k_aload_n dL_law_223 4 rfl rfl ?_
    refine k_iload dL_law_224 0 rfl ?_
    refine k_iconst (v := 2) dL_law_226 (by decide) ?_
    refine k_iadd dL_law_227 ?_
    refine kg_sld (k + 2) hs2 hws dL_law_228 ?_
    refine k_i2l dL_law_229 ?_
    refine k_ldc2 (v := 4294967295) dL_law_230 qL_law_k59 ?_
    refine k_land dL_law_233 ?_
    refine k_lor dL_law_234 ?_
    refine k_aload_n dL_law_235 4 rfl rfl ?_
    refine k_iload dL_law_236 0 rfl ?_
    refine k_iconst (v := 3) dL_law_238 (by decide) ?_
    refine k_iadd dL_law_239 ?_
    refine kg_sld (k + 3) hs3 hws dL_law_240 ?_
    refine k_aload_n dL_law_241 1 rfl rfl ?_
    refine kg_callH (As := [.ref (ad 0), .long (((xs (k + 1)).toInt64 <<< ((32 : Int32).toInt64 &&& 63)) ||| ((xs (k + 2)).toInt64 &&& 4294967295)), .int (xs (k + 3)), .ref (ad 68)]) (st := []) (Lc := [(0, (ad 0, .inr (5, [.ref (ad 1), .ref (ad 8), .int oc.2.2.1, .ref (ad 9), .ref (ad 17), .ref (ad 22), .ref (ad 32), .int k_repaired, .int k_spent]))), (8, (ad 8, .inl (cB, 80, .inl oc.2.2.2))), (68, (ad 68, .inl (cJ, 1, .inr (.inl ((vp_updL out 0 oc.2.1.toInt64))))))]) (L' := (LW ad cI cB cJ cZ oc.2.2.1 k_repaired k_spent g_size g_heads g_lengths g_symbols g_hints g_ins g_ground oc.2.2.2 c_length c_size c_comments c_text c_starts c_lengths c_signs c_firstComments c_commentStarts c_commentEnds h_prices h_choices h_begun h_traced t_waiting t_size t_skipped t_cells t_hints t_within t_begins t_waitSymbols t_waitParents t_waitFirsts t_waitEnds t_waitHints p_size p_column p_sheet p_flats p_broken p_indents m_thrown m_rules m_length m_tree m_tokens m_comments m_parts m_end m_open m_column m_printed m_repaired m_paid m_head m_size m_symbol m_hint m_in m_text m_kept m_tokenAt m_tokenLength m_sign m_commentAt m_commentLength m_firstComment m_best m_row m_cut m_ruleOf m_symbolOf m_parent m_place m_from m_to m_cost m_deep m_waiting m_wide m_begins m_started m_broken m_print ((vp_updL out 0 oc.2.1.toInt64)))) (r := 0) hws gL_law_L_write rfl rfl rfl hySL_write ⟨Nat.le_of_ble_eq_true rfl, Nat.le_of_ble_eq_true rfl⟩ ⟨hR.1, hR.2⟩ rfl rfl (Nat.le_of_ble_eq_true rfl) dL_law_242 (fun w z hw => c_L_write (cI := cI) (cB := cB) (cJ := cJ) (cZ := cZ) (ad := ad) w z ⟨hl, trivial⟩ (hw 0) (hw 8) (hw 68) h5 (Or.inl ⟨h0, rfl, rfl⟩)) rfl rfl ?_
    refine kb_istore (i := 5) (lv' := [(5, .int 0), (4, .int (nI k)), (3, .ref (ad 68)), (2, .ref (ad 37)), (1, .ref (ad 0)), (0, .ref b)]) dL_law_245 (Nat.le_of_ble_eq_true rfl) rfl ?_
    refine k_aload_n dL_law_247 3 rfl rfl ?_
    refine k_aload_n dL_law_248 5 rfl rfl ?_
    refine k_iload dL_law_249 1 rfl ?_
    refine k_iconst (v := 1) dL_law_251 (by decide) ?_
    refine k_iadd dL_law_252 ?_
    refine kg_sld (k + 1) hs1 hws dL_law_253 ?_
    refine k_i2l dL_law_254 ?_
    refine k_bipush (v := 32) dL_law_255 (by decide) ?_
    refine k_lshl dL_law_257 ?_
    refine k_aload_n dL_law_258 5 rfl rfl ?_
    refine k_iload dL_law_259 1 rfl ?_
    refine k_iconst (v := 2) dL_law_261 (by decide) ?_
    refine k_iadd dL_law_262 ?_
    refine kg_sld (k + 2) hs2 hws dL_law_263 ?_
    refine k_i2l dL_law_264 ?_
    refine k_ldc2 (v := 4294967295) dL_law_265 qL_law_k59 ?_
    refine k_land dL_law_268 ?_
    refine k_lor dL_law_269 ?_
    refine k_aload_n dL_law_270 5 rfl rfl ?_
    refine k_iload dL_law_271 1 rfl ?_
    refine k_iconst (v := 3) dL_law_273 (by decide) ?_
    refine k_iadd dL_law_274 ?_
    refine kg_sld (k + 3) hs3 hws dL_law_275 ?_
    refine kg_calliV (As := [.long (((xs (k + 1)).toInt64 <<< ((32 : Int32).toInt64 &&& 63)) ||| ((xs (k + 2)).toInt64 &&& 4294967295)), .int (xs (k + 3))]) (st := []) (Lc := [(37, (ad 37, .inr (6, [.int om.2.1, .int m_rules, .ref (ad 38), .ref (ad 39), .ref (ad 40), .ref (ad 41), .ref (ad 42), .int om.2.2.1, .ref (ad 43), .int m_tree, .ref (ad 44), .int m_tokens, .ref (ad 45), .ref (ad 46), .ref (ad 47), .int m_comments, .ref (ad 48), .ref (ad 49), .ref (ad 50), .ref (ad 51), .ref (ad 52), .ref (ad 53), .int m_parts, .ref (ad 54), .ref (ad 55), .ref (ad 56), .ref (ad 57), .ref (ad 58), .ref (ad 59), .ref (ad 60), .ref (ad 61), .int m_end, .int m_open, .ref (ad 62), .ref (ad 63), .ref (ad 64), .ref (ad 65), .ref (ad 66), .int m_column, .int m_printed, .ref (ad 67), .int m_repaired, .int m_paid]))), (43, (ad 43, .inl (cI, 80, .inl om.2.2.2)))]) (L' := (LW ad cI cB cJ cZ oc.2.2.1 k_repaired k_spent g_size g_heads g_lengths g_symbols g_hints g_ins g_ground oc.2.2.2 c_length c_size c_comments c_text c_starts c_lengths c_signs c_firstComments c_commentStarts c_commentEnds h_prices h_choices h_begun h_traced t_waiting t_size t_skipped t_cells t_hints t_within t_begins t_waitSymbols t_waitParents t_waitFirsts t_waitEnds t_waitHints p_size p_column p_sheet p_flats p_broken p_indents om.2.1 m_rules om.2.2.1 m_tree m_tokens m_comments m_parts m_end m_open m_column m_printed m_repaired m_paid m_head m_size m_symbol m_hint m_in om.2.2.2 m_kept m_tokenAt m_tokenLength m_sign m_commentAt m_commentLength m_firstComment m_best m_row m_cut m_ruleOf m_symbolOf m_parent m_place m_from m_to m_cost m_deep m_waiting m_wide m_begins m_started m_broken m_print ((vp_updL out 0 oc.2.1.toInt64)))) (r := om.1) gL_law_X6_write rfl rfl rfl hyVX6_write ⟨Nat.le_of_ble_eq_true rfl, Nat.le_of_ble_eq_true rfl⟩ ⟨Nat.le_trans (by omega) hR.1, Nat.le_trans (by omega) hR.2⟩ rfl rfl (Nat.le_of_ble_eq_true rfl) 37 rfl rfl dL_law_276 (fun w z hw => c_X6_write (cI := cI) (cB := cB) (cJ := cJ) (cZ := cZ) (ad := ad) w z trivial (hw 37) (hw 43) h6) rfl rfl ?_
    refine kb_istore (i := 6) (lv' := [(6, .int om.1), (5, .int 0), (4, .int (nI k)), (3, .ref (ad 68)), (2, .ref (ad 37)), (1, .ref (ad 0)), (0, .ref b)]) dL_law_279 (Nat.le_of_ble_eq_true rfl) rfl ?_
    refine k_aload_n dL_law_281 4 rfl rfl ?_
    refine kg_calliV (As := []) (st := []) (Lc := []) (L' := (LW ad cI cB cJ cZ oc.2.2.1 k_repaired k_spent g_size g_heads g_lengths g_symbols g_hints g_ins g_ground oc.2.2.2 c_length c_size c_comments c_text c_starts c_lengths c_signs c_firstComments c_commentStarts c_commentEnds h_prices h_choices h_begun h_traced t_waiting t_size t_skipped t_cells t_hints t_within t_begins t_waitSymbols t_waitParents t_waitFirsts t_waitEnds t_waitHints p_size p_column p_sheet p_flats p_broken p_indents om.2.1 m_rules om.2.2.1 m_tree m_tokens m_comments m_parts m_end m_open m_column m_printed m_repaired m_paid m_head m_size m_symbol m_hint m_in om.2.2.2 m_kept m_tokenAt m_tokenLength m_sign m_commentAt m_commentLength m_firstComment m_best m_row m_cut m_ruleOf m_symbolOf m_parent m_place m_from m_to m_cost m_deep m_waiting m_wide m_begins m_started m_broken m_print ((vp_updL out 0 oc.2.1.toInt64)))) (r := om.2.1) gL_law_X6_thrown rfl rfl rfl hyVX6_thrown ⟨Nat.le_of_ble_eq_true rfl, Nat.le_of_ble_eq_true rfl⟩ ⟨Nat.le_trans (by omega) hR.1, Nat.le_trans (by omega) hR.2⟩ rfl rfl (Nat.le_of_ble_eq_true rfl) 37 rfl rfl dL_law_282 (fun w z hw => c_X6_thrown (cI := cI) (cB := cB) (cJ := cJ) (cZ := cZ) (ad := ad) w z (hw 37)  rfl) rfl rfl ?_
    refine k_iload dL_law_285 1 rfl ?_
    refine kb_ieq 292 dL_law_287 (by decide) heq ?_
    refine k_iload dL_law_292 1 rfl ?_
    refine kb_ne0 309 dL_law_294 (by decide) rfl ?_
    refine k_aload_n dL_law_297 3 rfl rfl ?_
    refine k_iconst (v := 0) dL_law_298 (by decide) ?_
    refine kb_lald 68 2 rfl rfl dL_law_299 ?_
    refine k_iload dL_law_300 0 rfl ?_
    refine k_i2l dL_law_302 ?_
    refine k_lcmp dL_law_303 ?_
    refine kb_eq1 309 dL_law_304 (by decide) hcmp ?_
    refine k_goto 737 dL_law_309 (by decide) ?_
    refine k_sub [2, 3, 4, 5, 6] rfl ?_
    exact hk _ _ _ _ _ _ _ _ _ _ _ _ _ _ _ _ _ _ _ _ _ _ _ _ _ _ _ _ _ _ _ _ _ _ _ _ _ _ _ _ _ _ _ _ _ _ _ _ _ _ _ _ _ _ _ _ _ _ _ _ _ _ _ _ _ _ _ _ _ _ _ _ _ _ _ _ _ _ _ _ _ _ _ _ _ _ _ hRS'
  · have heq : om.2.1 = 1 := ht
    refine k_aload_n dL_law_212 3 rfl rfl ?_
    refine k_aload_n dL_law_213 4 rfl rfl ?_
    refine k_iload dL_law_214 0 rfl ?_
    refine k_iconst (v := 1) dL_law_216 (by decide) ?_
    refine k_iadd dL_law_217 ?_
    refine kg_sld (k + 1) hs1 hws dL_law_218 ?_
    refine k_i2l dL_law_219 ?_
    refine k_bipush (v := 32) dL_law_220 (by decide) ?_
    refine k_lshl dL_law_222 ?_
    refine k_aload_n dL_law_223 4 rfl rfl ?_
    refine k_iload dL_law_224 0 rfl ?_
    refine k_iconst (v := 2) dL_law_226 (by decide) ?_
    refine k_iadd dL_law_227 ?_
    refine kg_sld (k + 2) hs2 hws dL_law_228 ?_
    refine k_i2l dL_law_229 ?_
    refine k_ldc2 (v := 4294967295) dL_law_230 qL_law_k59 ?_
    refine k_land dL_law_233 ?_
    refine k_lor dL_law_234 ?_
    refine k_aload_n dL_law_235 4 rfl rfl ?_
    refine k_iload dL_law_236 0 rfl ?_
    refine k_iconst (v := 3) dL_law_238 (by decide) ?_
    refine k_iadd dL_law_239 ?_
    refine kg_sld (k + 3) hs3 hws dL_law_240 ?_
    refine k_aload_n dL_law_241 1 rfl rfl ?_
    refine kg_callH (As := [.ref (ad 0), .long (((xs (k + 1)).toInt64 <<< ((32 : Int32).toInt64 &&& 63)) ||| ((xs (k + 2)).toInt64 &&& 4294967295)), .int (xs (k + 3)), .ref (ad 68)]) (st := []) (Lc := [(0, (ad 0, .inr (5, [.ref (ad 1), .ref (ad 8), .int oc.2.2.1, .ref (ad 9), .ref (ad 17), .ref (ad 22), .ref (ad 32), .int k_repaired, .int k_spent]))), (8, (ad 8, .inl (cB, 80, .inl oc.2.2.2))), (68, (ad 68, .inl (cJ, 1, .inr (.inl out))))]) (L' := (LW ad cI cB cJ cZ oc.2.2.1 k_repaired k_spent g_size g_heads g_lengths g_symbols g_hints g_ins g_ground oc.2.2.2 c_length c_size c_comments c_text c_starts c_lengths c_signs c_firstComments c_commentStarts c_commentEnds h_prices h_choices h_begun h_traced t_waiting t_size t_skipped t_cells t_hints t_within t_begins t_waitSymbols t_waitParents t_waitFirsts t_waitEnds t_waitHints p_size p_column p_sheet p_flats p_broken p_indents m_thrown m_rules m_length m_tree m_tokens m_comments m_parts m_end m_open m_column m_printed m_repaired m_paid m_head m_size m_symbol m_hint m_in m_text m_kept m_tokenAt m_tokenLength m_sign m_commentAt m_commentLength m_firstComment m_best m_row m_cut m_ruleOf m_symbolOf m_parent m_place m_from m_to m_cost m_deep m_waiting m_wide m_begins m_started m_broken m_print out)) (r := 1) hws gL_law_L_write rfl rfl rfl hySL_write ⟨Nat.le_of_ble_eq_true rfl, Nat.le_of_ble_eq_true rfl⟩ ⟨hR.1, hR.2⟩ rfl rfl (Nat.le_of_ble_eq_true rfl) dL_law_242 (fun w z hw => c_L_write (cI := cI) (cB := cB) (cJ := cJ) (cZ := cZ) (ad := ad) w z ⟨hl, trivial⟩ (hw 0) (hw 8) (hw 68) h5 (Or.inr (Or.inl ⟨h0, rfl, rfl⟩))) rfl rfl ?_
    refine kb_istore (i := 5) (lv' := [(5, .int 1), (4, .int (nI k)), (3, .ref (ad 68)), (2, .ref (ad 37)), (1, .ref (ad 0)), (0, .ref b)]) dL_law_245 (Nat.le_of_ble_eq_true rfl) rfl ?_
    refine k_aload_n dL_law_247 3 rfl rfl ?_
    refine k_aload_n dL_law_248 5 rfl rfl ?_
    refine k_iload dL_law_249 1 rfl ?_
    refine k_iconst (v := 1) dL_law_251 (by decide) ?_
    refine k_iadd dL_law_252 ?_
    refine kg_sld (k + 1) hs1 hws dL_law_253 ?_
    refine k_i2l dL_law_254 ?_
    refine k_bipush (v := 32) dL_law_255 (by decide) ?_
    refine k_lshl dL_law_257 ?_
    refine k_aload_n dL_law_258 5 rfl rfl ?_
    refine k_iload dL_law_259 1 rfl ?_
    refine k_iconst (v := 2) dL_law_261 (by decide) ?_
    refine k_iadd dL_law_262 ?_
    refine kg_sld (k + 2) hs2 hws dL_law_263 ?_
    refine k_i2l dL_law_264 ?_
    refine k_ldc2 (v := 4294967295) dL_law_265 qL_law_k59 ?_
    refine k_land dL_law_268 ?_
    refine k_lor dL_law_269 ?_
    refine k_aload_n dL_law_270 5 rfl rfl ?_
    refine k_iload dL_law_271 1 rfl ?_
    refine k_iconst (v := 3) dL_law_273 (by decide) ?_
    refine k_iadd dL_law_274 ?_
    refine kg_sld (k + 3) hs3 hws dL_law_275 ?_
    refine kg_calliV (As := [.long (((xs (k + 1)).toInt64 <<< ((32 : Int32).toInt64 &&& 63)) ||| ((xs (k + 2)).toInt64 &&& 4294967295)), .int (xs (k + 3))]) (st := []) (Lc := [(37, (ad 37, .inr (6, [.int om.2.1, .int m_rules, .ref (ad 38), .ref (ad 39), .ref (ad 40), .ref (ad 41), .ref (ad 42), .int om.2.2.1, .ref (ad 43), .int m_tree, .ref (ad 44), .int m_tokens, .ref (ad 45), .ref (ad 46), .ref (ad 47), .int m_comments, .ref (ad 48), .ref (ad 49), .ref (ad 50), .ref (ad 51), .ref (ad 52), .ref (ad 53), .int m_parts, .ref (ad 54), .ref (ad 55), .ref (ad 56), .ref (ad 57), .ref (ad 58), .ref (ad 59), .ref (ad 60), .ref (ad 61), .int m_end, .int m_open, .ref (ad 62), .ref (ad 63), .ref (ad 64), .ref (ad 65), .ref (ad 66), .int m_column, .int m_printed, .ref (ad 67), .int m_repaired, .int m_paid]))), (43, (ad 43, .inl (cI, 80, .inl om.2.2.2)))]) (L' := (LW ad cI cB cJ cZ oc.2.2.1 k_repaired k_spent g_size g_heads g_lengths g_symbols g_hints g_ins g_ground oc.2.2.2 c_length c_size c_comments c_text c_starts c_lengths c_signs c_firstComments c_commentStarts c_commentEnds h_prices h_choices h_begun h_traced t_waiting t_size t_skipped t_cells t_hints t_within t_begins t_waitSymbols t_waitParents t_waitFirsts t_waitEnds t_waitHints p_size p_column p_sheet p_flats p_broken p_indents om.2.1 m_rules om.2.2.1 m_tree m_tokens m_comments m_parts m_end m_open m_column m_printed m_repaired m_paid m_head m_size m_symbol m_hint m_in om.2.2.2 m_kept m_tokenAt m_tokenLength m_sign m_commentAt m_commentLength m_firstComment m_best m_row m_cut m_ruleOf m_symbolOf m_parent m_place m_from m_to m_cost m_deep m_waiting m_wide m_begins m_started m_broken m_print out)) (r := om.1) gL_law_X6_write rfl rfl rfl hyVX6_write ⟨Nat.le_of_ble_eq_true rfl, Nat.le_of_ble_eq_true rfl⟩ ⟨Nat.le_trans (by omega) hR.1, Nat.le_trans (by omega) hR.2⟩ rfl rfl (Nat.le_of_ble_eq_true rfl) 37 rfl rfl dL_law_276 (fun w z hw => c_X6_write (cI := cI) (cB := cB) (cJ := cJ) (cZ := cZ) (ad := ad) w z trivial (hw 37) (hw 43) h6) rfl rfl ?_
    refine kb_istore (i := 6) (lv' := [(6, .int om.1), (5, .int 1), (4, .int (nI k)), (3, .ref (ad 68)), (2, .ref (ad 37)), (1, .ref (ad 0)), (0, .ref b)]) dL_law_279 (Nat.le_of_ble_eq_true rfl) rfl ?_
    refine k_aload_n dL_law_281 4 rfl rfl ?_
    refine kg_calliV (As := []) (st := []) (Lc := []) (L' := (LW ad cI cB cJ cZ oc.2.2.1 k_repaired k_spent g_size g_heads g_lengths g_symbols g_hints g_ins g_ground oc.2.2.2 c_length c_size c_comments c_text c_starts c_lengths c_signs c_firstComments c_commentStarts c_commentEnds h_prices h_choices h_begun h_traced t_waiting t_size t_skipped t_cells t_hints t_within t_begins t_waitSymbols t_waitParents t_waitFirsts t_waitEnds t_waitHints p_size p_column p_sheet p_flats p_broken p_indents om.2.1 m_rules om.2.2.1 m_tree m_tokens m_comments m_parts m_end m_open m_column m_printed m_repaired m_paid m_head m_size m_symbol m_hint m_in om.2.2.2 m_kept m_tokenAt m_tokenLength m_sign m_commentAt m_commentLength m_firstComment m_best m_row m_cut m_ruleOf m_symbolOf m_parent m_place m_from m_to m_cost m_deep m_waiting m_wide m_begins m_started m_broken m_print out)) (r := om.2.1) gL_law_X6_thrown rfl rfl rfl hyVX6_thrown ⟨Nat.le_of_ble_eq_true rfl, Nat.le_of_ble_eq_true rfl⟩ ⟨Nat.le_trans (by omega) hR.1, Nat.le_trans (by omega) hR.2⟩ rfl rfl (Nat.le_of_ble_eq_true rfl) 37 rfl rfl dL_law_282 (fun w z hw => c_X6_thrown (cI := cI) (cB := cB) (cJ := cJ) (cZ := cZ) (ad := ad) w z (hw 37)  rfl) rfl rfl ?_
    refine k_iload dL_law_285 1 rfl ?_
    refine kb_ieq 292 dL_law_287 (by decide) heq ?_
    refine k_iload dL_law_292 1 rfl ?_
    refine kb_ne1 309 dL_law_294 (by decide) (by decide) ?_
    refine k_goto 737 dL_law_309 (by decide) ?_
    refine k_sub [2, 3, 4, 5, 6] rfl ?_
    exact hk _ _ _ _ _ _ _ _ _ _ _ _ _ _ _ _ _ _ _ _ _ _ _ _ _ _ _ _ _ _ _ _ _ _ _ _ _ _ _ _ _ _ _ _ _ _ _ _ _ _ _ _ _ _ _ _ _ _ _ _ _ _ _ _ _ _ _ _ _ _ _ _ _ _ _ _ _ _ _ _ _ _ _ _ _ _ _ hRS'
  · have heq : om.2.1 = 2 := ht
    refine k_aload_n dL_law_212 3 rfl rfl ?_
    refine k_aload_n dL_law_213 4 rfl rfl ?_
    refine k_iload dL_law_214 0 rfl ?_
    refine k_iconst (v := 1) dL_law_216 (by decide) ?_
    refine k_iadd dL_law_217 ?_
    refine kg_sld (k + 1) hs1 hws dL_law_218 ?_
    refine k_i2l dL_law_219 ?_
    refine k_bipush (v := 32) dL_law_220 (by decide) ?_
    refine k_lshl dL_law_222 ?_
    refine k_aload_n dL_law_223 4 rfl rfl ?_
    refine k_iload dL_law_224 0 rfl ?_
    refine k_iconst (v := 2) dL_law_226 (by decide) ?_
    refine k_iadd dL_law_227 ?_
    refine kg_sld (k + 2) hs2 hws dL_law_228 ?_
    refine k_i2l dL_law_229 ?_
    refine k_ldc2 (v := 4294967295) dL_law_230 qL_law_k59 ?_
    refine k_land dL_law_233 ?_
    refine k_lor dL_law_234 ?_
    refine k_aload_n dL_law_235 4 rfl rfl ?_
    refine k_iload dL_law_236 0 rfl ?_
    refine k_iconst (v := 3) dL_law_238 (by decide) ?_
    refine k_iadd dL_law_239 ?_
    refine kg_sld (k + 3) hs3 hws dL_law_240 ?_
    refine k_aload_n dL_law_241 1 rfl rfl ?_
    refine kg_callH (As := [.ref (ad 0), .long (((xs (k + 1)).toInt64 <<< ((32 : Int32).toInt64 &&& 63)) ||| ((xs (k + 2)).toInt64 &&& 4294967295)), .int (xs (k + 3)), .ref (ad 68)]) (st := []) (Lc := [(0, (ad 0, .inr (5, [.ref (ad 1), .ref (ad 8), .int oc.2.2.1, .ref (ad 9), .ref (ad 17), .ref (ad 22), .ref (ad 32), .int k_repaired, .int k_spent]))), (8, (ad 8, .inl (cB, 80, .inl oc.2.2.2))), (68, (ad 68, .inl (cJ, 1, .inr (.inl out))))]) (L' := (LW ad cI cB cJ cZ oc.2.2.1 k_repaired k_spent g_size g_heads g_lengths g_symbols g_hints g_ins g_ground oc.2.2.2 c_length c_size c_comments c_text c_starts c_lengths c_signs c_firstComments c_commentStarts c_commentEnds h_prices h_choices h_begun h_traced t_waiting t_size t_skipped t_cells t_hints t_within t_begins t_waitSymbols t_waitParents t_waitFirsts t_waitEnds t_waitHints p_size p_column p_sheet p_flats p_broken p_indents m_thrown m_rules m_length m_tree m_tokens m_comments m_parts m_end m_open m_column m_printed m_repaired m_paid m_head m_size m_symbol m_hint m_in m_text m_kept m_tokenAt m_tokenLength m_sign m_commentAt m_commentLength m_firstComment m_best m_row m_cut m_ruleOf m_symbolOf m_parent m_place m_from m_to m_cost m_deep m_waiting m_wide m_begins m_started m_broken m_print out)) (r := 2) hws gL_law_L_write rfl rfl rfl hySL_write ⟨Nat.le_of_ble_eq_true rfl, Nat.le_of_ble_eq_true rfl⟩ ⟨hR.1, hR.2⟩ rfl rfl (Nat.le_of_ble_eq_true rfl) dL_law_242 (fun w z hw => c_L_write (cI := cI) (cB := cB) (cJ := cJ) (cZ := cZ) (ad := ad) w z ⟨hl, trivial⟩ (hw 0) (hw 8) (hw 68) h5 (Or.inr ((Or.inr (⟨h0, rfl, rfl⟩))))) rfl rfl ?_
    refine kb_istore (i := 5) (lv' := [(5, .int 2), (4, .int (nI k)), (3, .ref (ad 68)), (2, .ref (ad 37)), (1, .ref (ad 0)), (0, .ref b)]) dL_law_245 (Nat.le_of_ble_eq_true rfl) rfl ?_
    refine k_aload_n dL_law_247 3 rfl rfl ?_
    refine k_aload_n dL_law_248 5 rfl rfl ?_
    refine k_iload dL_law_249 1 rfl ?_
    refine k_iconst (v := 1) dL_law_251 (by decide) ?_
    refine k_iadd dL_law_252 ?_
    refine kg_sld (k + 1) hs1 hws dL_law_253 ?_
    refine k_i2l dL_law_254 ?_
    refine k_bipush (v := 32) dL_law_255 (by decide) ?_
    refine k_lshl dL_law_257 ?_
    refine k_aload_n dL_law_258 5 rfl rfl ?_
    refine k_iload dL_law_259 1 rfl ?_
    refine k_iconst (v := 2) dL_law_261 (by decide) ?_
    refine k_iadd dL_law_262 ?_
    refine kg_sld (k + 2) hs2 hws dL_law_263 ?_
    refine k_i2l dL_law_264 ?_
    refine k_ldc2 (v := 4294967295) dL_law_265 qL_law_k59 ?_
    refine k_land dL_law_268 ?_
    refine k_lor dL_law_269 ?_
    refine k_aload_n dL_law_270 5 rfl rfl ?_
    refine k_iload dL_law_271 1 rfl ?_
    refine k_iconst (v := 3) dL_law_273 (by decide) ?_
    refine k_iadd dL_law_274 ?_
    refine kg_sld (k + 3) hs3 hws dL_law_275 ?_
    refine kg_calliV (As := [.long (((xs (k + 1)).toInt64 <<< ((32 : Int32).toInt64 &&& 63)) ||| ((xs (k + 2)).toInt64 &&& 4294967295)), .int (xs (k + 3))]) (st := []) (Lc := [(37, (ad 37, .inr (6, [.int om.2.1, .int m_rules, .ref (ad 38), .ref (ad 39), .ref (ad 40), .ref (ad 41), .ref (ad 42), .int om.2.2.1, .ref (ad 43), .int m_tree, .ref (ad 44), .int m_tokens, .ref (ad 45), .ref (ad 46), .ref (ad 47), .int m_comments, .ref (ad 48), .ref (ad 49), .ref (ad 50), .ref (ad 51), .ref (ad 52), .ref (ad 53), .int m_parts, .ref (ad 54), .ref (ad 55), .ref (ad 56), .ref (ad 57), .ref (ad 58), .ref (ad 59), .ref (ad 60), .ref (ad 61), .int m_end, .int m_open, .ref (ad 62), .ref (ad 63), .ref (ad 64), .ref (ad 65), .ref (ad 66), .int m_column, .int m_printed, .ref (ad 67), .int m_repaired, .int m_paid]))), (43, (ad 43, .inl (cI, 80, .inl om.2.2.2)))]) (L' := (LW ad cI cB cJ cZ oc.2.2.1 k_repaired k_spent g_size g_heads g_lengths g_symbols g_hints g_ins g_ground oc.2.2.2 c_length c_size c_comments c_text c_starts c_lengths c_signs c_firstComments c_commentStarts c_commentEnds h_prices h_choices h_begun h_traced t_waiting t_size t_skipped t_cells t_hints t_within t_begins t_waitSymbols t_waitParents t_waitFirsts t_waitEnds t_waitHints p_size p_column p_sheet p_flats p_broken p_indents om.2.1 m_rules om.2.2.1 m_tree m_tokens m_comments m_parts m_end m_open m_column m_printed m_repaired m_paid m_head m_size m_symbol m_hint m_in om.2.2.2 m_kept m_tokenAt m_tokenLength m_sign m_commentAt m_commentLength m_firstComment m_best m_row m_cut m_ruleOf m_symbolOf m_parent m_place m_from m_to m_cost m_deep m_waiting m_wide m_begins m_started m_broken m_print out)) (r := om.1) gL_law_X6_write rfl rfl rfl hyVX6_write ⟨Nat.le_of_ble_eq_true rfl, Nat.le_of_ble_eq_true rfl⟩ ⟨Nat.le_trans (by omega) hR.1, Nat.le_trans (by omega) hR.2⟩ rfl rfl (Nat.le_of_ble_eq_true rfl) 37 rfl rfl dL_law_276 (fun w z hw => c_X6_write (cI := cI) (cB := cB) (cJ := cJ) (cZ := cZ) (ad := ad) w z trivial (hw 37) (hw 43) h6) rfl rfl ?_
    refine kb_istore (i := 6) (lv' := [(6, .int om.1), (5, .int 2), (4, .int (nI k)), (3, .ref (ad 68)), (2, .ref (ad 37)), (1, .ref (ad 0)), (0, .ref b)]) dL_law_279 (Nat.le_of_ble_eq_true rfl) rfl ?_
    refine k_aload_n dL_law_281 4 rfl rfl ?_
    refine kg_calliV (As := []) (st := []) (Lc := []) (L' := (LW ad cI cB cJ cZ oc.2.2.1 k_repaired k_spent g_size g_heads g_lengths g_symbols g_hints g_ins g_ground oc.2.2.2 c_length c_size c_comments c_text c_starts c_lengths c_signs c_firstComments c_commentStarts c_commentEnds h_prices h_choices h_begun h_traced t_waiting t_size t_skipped t_cells t_hints t_within t_begins t_waitSymbols t_waitParents t_waitFirsts t_waitEnds t_waitHints p_size p_column p_sheet p_flats p_broken p_indents om.2.1 m_rules om.2.2.1 m_tree m_tokens m_comments m_parts m_end m_open m_column m_printed m_repaired m_paid m_head m_size m_symbol m_hint m_in om.2.2.2 m_kept m_tokenAt m_tokenLength m_sign m_commentAt m_commentLength m_firstComment m_best m_row m_cut m_ruleOf m_symbolOf m_parent m_place m_from m_to m_cost m_deep m_waiting m_wide m_begins m_started m_broken m_print out)) (r := om.2.1) gL_law_X6_thrown rfl rfl rfl hyVX6_thrown ⟨Nat.le_of_ble_eq_true rfl, Nat.le_of_ble_eq_true rfl⟩ ⟨Nat.le_trans (by omega) hR.1, Nat.le_trans (by omega) hR.2⟩ rfl rfl (Nat.le_of_ble_eq_true rfl) 37 rfl rfl dL_law_282 (fun w z hw => c_X6_thrown (cI := cI) (cB := cB) (cJ := cJ) (cZ := cZ) (ad := ad) w z (hw 37)  rfl) rfl rfl ?_
    refine k_iload dL_law_285 1 rfl ?_
    refine kb_ieq 292 dL_law_287 (by decide) heq ?_
    refine k_iload dL_law_292 1 rfl ?_
    refine kb_ne1 309 dL_law_294 (by decide) (by decide) ?_
    refine k_goto 737 dL_law_309 (by decide) ?_
    refine k_sub [2, 3, 4, 5, 6] rfl ?_
    exact hk _ _ _ _ _ _ _ _ _ _ _ _ _ _ _ _ _ _ _ _ _ _ _ _ _ _ _ _ _ _ _ _ _ _ _ _ _ _ _ _ _ _ _ _ _ _ _ _ _ _ _ _ _ _ _ _ _ _ _ _ _ _ _ _ _ _ _ _ _ _ _ _ _ _ _ _ _ _ _ _ _ _ _ _ _ _ _ hRS'
