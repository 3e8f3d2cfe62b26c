noncomputable def jn_X5_rule_28   (g_size : Int32) (g_heads : Nat → Int32) (g_lengths : Nat → Int32) (g_symbols : Nat → Int32) (g_hints : Nat → Int32) (g_ins : Nat → Int32) (g_ground : Nat → Int32) (t_size : Int32) (t_skipped : Int32) : Option (Int32 × Int32 × (Int32) × (Nat → Int32) × (Nat → Int32) × (Nat → Int32) × (Nat → Int32) × (Nat → Int32) × (Nat → Int32) × (Int32) × (Int32)) :=
  some (1, 0, g_size, g_heads, g_lengths, g_symbols, g_hints, g_ins, g_ground, t_size, t_skipped)
noncomputable def f_X5_rule (a1 : Int32) (a2 : Int32) (a3 : Int32) (a4 : Int32) (g_size : Int32) (g_heads : Nat → Int32) (g_lengths : Nat → Int32) (g_symbols : Nat → Int32) (g_hints : Nat → Int32) (g_ins : Nat → Int32) (g_ground : Nat → Int32) (t_size : Int32) (t_skipped : Int32) : Option (Int32 × Int32 × (Int32) × (Nat → Int32) × (Nat → Int32) × (Nat → Int32) × (Nat → Int32) × (Nat → Int32) × (Nat → Int32) × (Int32) × (Int32)) :=
  (f_X2_symbolsIn a2).bind fun r1 =>
  nm r1 fun x5_2 =>
  (f_X5_isKind a1).bind fun r3 =>
  if r3 = 0 then (
    jn_X5_rule_28  g_size g_heads g_lengths g_symbols g_hints g_ins g_ground t_size t_skipped
  ) else (
    if x5_2 = ((-1)) then (
      jn_X5_rule_28  g_size g_heads g_lengths g_symbols g_hints g_ins g_ground t_size t_skipped
    ) else (
      (f_X2_hintsFit a3 x5_2).bind fun r4 =>
      if r4 = 0 then (
        jn_X5_rule_28  g_size g_heads g_lengths g_symbols g_hints g_ins g_ground t_size t_skipped
      ) else (
        if g_size < 20 then (
          (f_X4_drop t_size t_skipped).bind fun r5 =>
          (f_X2_add a1 a2 a3 a4 g_size g_heads g_lengths g_symbols g_hints g_ins g_ground).bind fun r6 =>
          some (0, r6.1, r6.2.1, r6.2.2.1, r6.2.2.2.1, r6.2.2.2.2.1, r6.2.2.2.2.2.1, r6.2.2.2.2.2.2.1, r6.2.2.2.2.2.2.2, r5.1, r5.2)
        ) else (
          some (2, 0, g_size, g_heads, g_lengths, g_symbols, g_hints, g_ins, g_ground, t_size, t_skipped)
        )
      )
    )
  )
noncomputable def jn_X5_write_19   (k_length : Int32) (k_text : Nat → Int32) : Option (Int32 × Int32 × (Int32) × (Nat → Int32)) :=
  some (1, 0, k_length, k_text)
noncomputable def lp_X5_write_53  (k84 : (Int32) → (Int32) → (Nat → Int32) → Option (Int32 × Int32 × (Int32) × (Nat → Int32))) : Nat → (Int64) → (Int32) → (Int32) → (Int32) → (Nat → Int32) → Option (Int32 × Int32 × (Int32) × (Nat → Int32))
  | 0, _, _, _, _, _ => none
  | n + 1, x1, x3, x4, k_length, k_text =>
    if x3 ≤ x4 then (
      k84 x3 k_length k_text
    ) else (
      (f_X5_byteOf x1 x4).bind fun r3 =>
      (wrI k_text 80 (k_length + x4) (vp_nar .byte r3.toInt8.toInt32)).bind fun k_text_4 =>
      nm (x4 + Int32.ofInt 1) fun x4_5 =>
      (lp_X5_write_53  k84 n) x1 x3 x4_5 k_length k_text_4
    )
noncomputable def f_X5_write (a1 : Int64) (a3 : Int32) (k_length : Int32) (k_text : Nat → Int32) : Option (Int32 × Int32 × (Int32) × (Nat → Int32)) :=
  if a3 < 1 then (
    jn_X5_write_19  k_length k_text
  ) else (
    if 8 < a3 then (
      jn_X5_write_19  k_length k_text
    ) else (
      (f_X5_areCharacters a1 a3).bind fun r1 =>
      if r1 = 0 then (
        jn_X5_write_19  k_length k_text
      ) else (
        if (k_length + a3) ≤ 80 then (
          nm (0 : Int32) fun x4_2 =>
          lp_X5_write_53 
            (fun x3 k_length k_text =>
            some (0, (k_length + x3), ((k_length + x3)), k_text))
            FU a1 a3 x4_2 k_length k_text
        ) else (
          some (2, 0, k_length, k_text)
        )
      )
    )
  )
noncomputable def f_X5_repair (k_length : Int32) (g_size : Int32) (g_heads : Nat → Int32) (g_lengths : Nat → Int32) (g_symbols : Nat → Int32) (g_hints : Nat → Int32) (g_ground : Nat → Int32) (k_text : Nat → Int32) (k_repaired : Int32) (k_spent : Int32) (c_length : Int32) (c_size : Int32) (c_comments : Int32) (c_text : Nat → Int32) (c_starts : Nat → Int32) (c_lengths : Nat → Int32) (c_signs : Nat → Int32) (c_firstComments : Nat → Int32) (c_commentStarts : Nat → Int32) (c_commentEnds : Nat → Int32) (h_prices : Nat → Int64) (h_choices : Nat → Int32) (h_begun : Nat → Int64) (h_traced : Nat → Int64) (t_waiting : Int32) (t_size : Int32) (t_skipped : Int32) (t_cells : Nat → Int32) (t_hints : Nat → Int32) (t_within : Nat → Int32) (t_begins : Nat → Int32) (t_waitSymbols : Nat → Int32) (t_waitParents : Nat → Int32) (t_waitFirsts : Nat → Int32) (t_waitEnds : Nat → Int32) (t_waitHints : Nat → Int32) : Option (Int32 × Int32 × (Int32) × (Int32) × (Int32) × (Int32) × (Int32) × (Nat → Int32) × (Nat → Int32) × (Nat → Int32) × (Nat → Int32) × (Nat → Int32) × (Nat → Int32) × (Nat → Int32) × (Nat → Int64) × (Nat → Int32) × (Nat → Int64) × (Nat → Int64) × (Int32) × (Int32) × (Int32) × (Nat → Int32) × (Nat → Int32) × (Nat → Int32) × (Nat → Int32) × (Nat → Int32) × (Nat → Int32) × (Nat → Int32) × (Nat → Int32) × (Nat → Int32)) :=
  (f_X2_hasGround 9 g_ground).bind fun r1 =>
  if r1 = 0 then (
    some (3, 0, k_repaired, k_spent, c_length, c_size, c_comments, c_text, c_starts, c_lengths, c_signs, c_firstComments, c_commentStarts, c_commentEnds, h_prices, h_choices, h_begun, h_traced, t_waiting, t_size, t_skipped, t_cells, t_hints, t_within, t_begins, t_waitSymbols, t_waitParents, t_waitFirsts, t_waitEnds, t_waitHints)
  ) else (
    (f_X4_drop t_size t_skipped).bind fun r2 =>
    (f_X1_read k_length k_text c_length c_size c_comments c_text c_starts c_lengths c_signs c_firstComments c_commentStarts c_commentEnds).bind fun r3 =>
    if r3.1 = 0 then (
      some (2, 0, k_repaired, k_spent, r3.2.1, r3.2.2.1, r3.2.2.2.1, r3.2.2.2.2.1, r3.2.2.2.2.2.1, r3.2.2.2.2.2.2.1, r3.2.2.2.2.2.2.2.1, r3.2.2.2.2.2.2.2.2.1, r3.2.2.2.2.2.2.2.2.2.1, r3.2.2.2.2.2.2.2.2.2.2, h_prices, h_choices, h_begun, h_traced, t_waiting, r2.1, r2.2, t_cells, t_hints, t_within, t_begins, t_waitSymbols, t_waitParents, t_waitFirsts, t_waitEnds, t_waitHints)
    ) else (
      (f_X0_fill g_size g_heads g_lengths g_symbols r3.2.2.1 r3.2.2.2.2.2.2.2.1 h_prices h_choices h_begun).bind fun r4 =>
      (f_X4_grow r3.2.2.1 g_lengths g_symbols g_hints r3.2.2.1 r4.1 r4.2.1 h_traced t_waiting r2.1 r2.2 t_cells t_hints t_within t_begins t_waitSymbols t_waitParents t_waitFirsts t_waitEnds t_waitHints).bind fun r5 =>
      if r5.1 = 0 then (
        some (2, 0, k_repaired, k_spent, r3.2.1, r3.2.2.1, r3.2.2.2.1, r3.2.2.2.2.1, r3.2.2.2.2.2.1, r3.2.2.2.2.2.2.1, r3.2.2.2.2.2.2.2.1, r3.2.2.2.2.2.2.2.2.1, r3.2.2.2.2.2.2.2.2.2.1, r3.2.2.2.2.2.2.2.2.2.2, r4.1, r4.2.1, r4.2.2, r5.2.1, r5.2.2.1, r5.2.2.2.1, r5.2.2.2.2.1, r5.2.2.2.2.2.1, r5.2.2.2.2.2.2.1, r5.2.2.2.2.2.2.2.1, r5.2.2.2.2.2.2.2.2.1, r5.2.2.2.2.2.2.2.2.2.1, r5.2.2.2.2.2.2.2.2.2.2.1, r5.2.2.2.2.2.2.2.2.2.2.2.1, r5.2.2.2.2.2.2.2.2.2.2.2.2.1, r5.2.2.2.2.2.2.2.2.2.2.2.2.2)
      ) else (
        (f_X4_cell 0 5 r5.2.2.2.2.2.1).bind fun r6 =>
        nm (r6 + r5.2.2.2.2.1) fun x1_7 =>
        some (0, x1_7, ((k_repaired + 1)), ((k_spent + x1_7)), r3.2.1, r3.2.2.1, r3.2.2.2.1, r3.2.2.2.2.1, r3.2.2.2.2.2.1, r3.2.2.2.2.2.2.1, r3.2.2.2.2.2.2.2.1, r3.2.2.2.2.2.2.2.2.1, r3.2.2.2.2.2.2.2.2.2.1, r3.2.2.2.2.2.2.2.2.2.2, r4.1, r4.2.1, r4.2.2, r5.2.1, r5.2.2.1, r5.2.2.2.1, r5.2.2.2.2.1, r5.2.2.2.2.2.1, r5.2.2.2.2.2.2.1, r5.2.2.2.2.2.2.2.1, r5.2.2.2.2.2.2.2.2.1, r5.2.2.2.2.2.2.2.2.2.1, r5.2.2.2.2.2.2.2.2.2.2.1, r5.2.2.2.2.2.2.2.2.2.2.2.1, r5.2.2.2.2.2.2.2.2.2.2.2.2.1, r5.2.2.2.2.2.2.2.2.2.2.2.2.2)
      )
    )
  )
noncomputable def jn_X5_token_34 (c_size : Int32) (c_lengths : Nat → Int32) (c_signs : Nat → Int32) (c_firstComments : Nat → Int32) (t_size : Int32)   : Option (Int32 × Int32) :=
  some (4, 0)
noncomputable def jn_X5_token_81 (c_size : Int32) (c_lengths : Nat → Int32) (c_signs : Nat → Int32) (c_firstComments : Nat → Int32) (t_size : Int32)  (s0 : Int32) : Option (Int32 × Int32) :=
  some (0, s0)
noncomputable def f_X5_token (a1 : Int32) (a2 : Int32) (c_size : Int32) (c_lengths : Nat → Int32) (c_signs : Nat → Int32) (c_firstComments : Nat → Int32) (t_size : Int32) : Option (Int32 × Int32) :=
  if t_size = 0 then (
    jn_X5_token_34 c_size c_lengths c_signs c_firstComments t_size
  ) else (
    if a1 < 0 then (
      jn_X5_token_34 c_size c_lengths c_signs c_firstComments t_size
    ) else (
      if c_size < a1 then (
        jn_X5_token_34 c_size c_lengths c_signs c_firstComments t_size
      ) else (
        if a2 < 0 then (
          jn_X5_token_34 c_size c_lengths c_signs c_firstComments t_size
        ) else (
          if a2 ≤ 2 then (
            if a2 = 2 then (
              (f_X1_commentsOf a1 c_size c_firstComments).bind fun r1 =>
              some (0, r1)
            ) else (
              if a2 = 0 then (
                (f_X1_signOf a1 c_size c_signs).bind fun r2 =>
                jn_X5_token_81 c_size c_lengths c_signs c_firstComments t_size r2
              ) else (
                (f_X1_lengthOf a1 c_size c_lengths).bind fun r3 =>
                jn_X5_token_81 c_size c_lengths c_signs c_firstComments t_size r3
              )
            )
          ) else (
            jn_X5_token_34 c_size c_lengths c_signs c_firstComments t_size
          )
        )
      )
    )
  )
noncomputable def jn_X5_part_25 (t_size : Int32) (t_cells : Nat → Int32)   : Option (Int32 × Int32) :=
  some (4, 0)
noncomputable def f_X5_part (a1 : Int32) (a2 : Int32) (t_size : Int32) (t_cells : Nat → Int32) : Option (Int32 × Int32) :=
  if a1 < 0 then (
    jn_X5_part_25 t_size t_cells
  ) else (
    if t_size ≤ a1 then (
      jn_X5_part_25 t_size t_cells
    ) else (
      if a2 < 0 then (
        jn_X5_part_25 t_size t_cells
      ) else (
        if a2 < 7 then (
          (f_X4_cell a1 a2 t_cells).bind fun r1 =>
          some (0, r1)
        ) else (
          jn_X5_part_25 t_size t_cells
        )
      )
    )
  )
noncomputable def f_X5_rest (t_size : Int32) (t_skipped : Int32) : Option (Int32 × Int32) :=
  if t_size = 0 then (
    some (2, 0)
  ) else (
    some (0, t_skipped)
  )
noncomputable def jn_X5_print_11 (g_ins : Nat → Int32) (c_size : Int32) (c_text : Nat → Int32) (c_starts : Nat → Int32) (c_lengths : Nat → Int32) (c_firstComments : Nat → Int32) (c_commentStarts : Nat → Int32) (c_commentEnds : Nat → Int32) (t_size : Int32) (t_skipped : Int32) (t_cells : Nat → Int32) (t_hints : Nat → Int32)  (p_size : Int32) (p_column : Int32) (p_sheet : Nat → Int32) (p_flats : Nat → Int32) (p_broken : Nat → Int32) (p_indents : Nat → Int32) : Option (Int32 × Int32 × (Int32) × (Int32) × (Nat → Int32) × (Nat → Int32) × (Nat → Int32) × (Nat → Int32)) :=
  some (1, 0, p_size, p_column, p_sheet, p_flats, p_broken, p_indents)
noncomputable def f_X5_print (a1 : Int32) (g_ins : Nat → Int32) (c_size : Int32) (c_text : Nat → Int32) (c_starts : Nat → Int32) (c_lengths : Nat → Int32) (c_firstComments : Nat → Int32) (c_commentStarts : Nat → Int32) (c_commentEnds : Nat → Int32) (t_size : Int32) (t_skipped : Int32) (t_cells : Nat → Int32) (t_hints : Nat → Int32) (p_size : Int32) (p_column : Int32) (p_sheet : Nat → Int32) (p_flats : Nat → Int32) (p_broken : Nat → Int32) (p_indents : Nat → Int32) : Option (Int32 × Int32 × (Int32) × (Int32) × (Nat → Int32) × (Nat → Int32) × (Nat → Int32) × (Nat → Int32)) :=
  if a1 < 1 then (
    jn_X5_print_11 g_ins c_size c_text c_starts c_lengths c_firstComments c_commentStarts c_commentEnds t_size t_skipped t_cells t_hints p_size p_column p_sheet p_flats p_broken p_indents
  ) else (
    if a1 ≤ 100 then (
      if t_size = 0 then (
        some (2, 0, p_size, p_column, p_sheet, p_flats, p_broken, p_indents)
      ) else (
        (f_X3_layOut a1 g_ins c_size c_text c_starts c_lengths c_firstComments c_commentStarts c_commentEnds t_size t_skipped t_cells t_hints p_size p_column p_sheet p_flats p_broken p_indents).bind fun r1 =>
        some (0, r1.1, r1.1, r1.2.1, r1.2.2.1, r1.2.2.2.1, r1.2.2.2.2.1, r1.2.2.2.2.2)
      )
    ) else (
      jn_X5_print_11 g_ins c_size c_text c_starts c_lengths c_firstComments c_commentStarts c_commentEnds t_size t_skipped t_cells t_hints p_size p_column p_sheet p_flats p_broken p_indents
    )
  )
noncomputable def jn_X5_character_15 (p_size : Int32) (p_sheet : Nat → Int32)   : Option (Int32 × Int32) :=
  some (4, 0)
noncomputable def f_X5_character (a1 : Int32) (p_size : Int32) (p_sheet : Nat → Int32) : Option (Int32 × Int32) :=
  if a1 < 0 then (
    jn_X5_character_15 p_size p_sheet
  ) else (
    if a1 < p_size then (
      (f_X3_at a1 p_size p_sheet).bind fun r1 =>
      some (0, r1)
    ) else (
      jn_X5_character_15 p_size p_sheet
    )
  )
noncomputable def f_X5_count (a1 : Int32) (k_repaired : Int32) (k_spent : Int32) (g_size : Int32) : Option (Int32) :=
  if a1 = 0 then (
    some g_size
  ) else (
  if a1 = 1 then (
    some k_repaired
  ) else (
  if a1 = 2 then (
    some k_spent
  ) else (
    some ((-1))
  )))
