noncomputable def jn_X5_isKind_17   (s0 : Int32) : Option (Int32) :=
  (zc s0).bind fun v1 => some v1
noncomputable def jn_X5_isKind_16    : Option (Int32) :=
  jn_X5_isKind_17  0
noncomputable def f_X5_isKind (a0 : Int32) : Option (Int32) :=
  if a0 < 9 then (
    jn_X5_isKind_16 
  ) else (
    if 14 < a0 then (
      jn_X5_isKind_16 
    ) else (
      jn_X5_isKind_17  1
    )
  )
noncomputable def f_X5_byteOf (a0 : Int64) (a2 : Int32) : Option (Int32) :=
  some ((((a0.toUInt64 >>> ((8 * a2).toInt64.toUInt64 &&& Int64.toUInt64 63)).toInt64).toInt32) &&& 255)
noncomputable def jn_X5_areCharacters_37  (k2 : (Int64) → (Int32) → (Int32) → Option (Int32)) (x0 : Int64) (x2 : Int32) (x3 : Int32) : Option (Int32) :=
  nm (x3 + Int32.ofInt 1) fun x3_4 =>
  k2 x0 x2 x3_4
noncomputable def jn_X5_areCharacters_35    : Option (Int32) :=
  (zc 0).bind fun v5 => some v5
noncomputable def lp_X5_areCharacters_2  (k43 : Option (Int32)) : Nat → (Int64) → (Int32) → (Int32) → Option (Int32)
  | 0, _, _, _ => none
  | n + 1, x0, x2, x3 =>
    if x2 ≤ x3 then (
      k43
    ) else (
      (f_X5_byteOf x0 x3).bind fun r2 =>
      nm r2 fun x4_3 =>
      if x4_3 = 10 then (
        jn_X5_areCharacters_37  (lp_X5_areCharacters_2  k43 n) x0 x2 x3
      ) else (
        if x4_3 < 32 then (
          jn_X5_areCharacters_35 
        ) else (
          if x4_3 ≤ 126 then (
            jn_X5_areCharacters_37  (lp_X5_areCharacters_2  k43 n) x0 x2 x3
          ) else (
            jn_X5_areCharacters_35 
          )
        )
      )
    )
noncomputable def f_X5_areCharacters (a0 : Int64) (a2 : Int32) : Option (Int32) :=
  nm (0 : Int32) fun x3_1 =>
  lp_X5_areCharacters_2 
    (
    (zc 1).bind fun v6 => some v6)
    FU a0 a2 x3_1
noncomputable def jn_X5_isDigit_17   (s0 : Int32) : Option (Int32) :=
  (zc s0).bind fun v1 => some v1
noncomputable def jn_X5_isDigit_16    : Option (Int32) :=
  jn_X5_isDigit_17  0
noncomputable def f_X5_isDigit (a0 : Int32) : Option (Int32) :=
  if a0 < 48 then (
    jn_X5_isDigit_16 
  ) else (
    if 57 < a0 then (
      jn_X5_isDigit_16 
    ) else (
      jn_X5_isDigit_17  1
    )
  )
noncomputable def jn_X2_hasGround_24 (g_ground : Nat → Int32)  (s0 : Int32) : Option (Int32) :=
  (zc s0).bind fun v2 => some v2
noncomputable def jn_X2_hasGround_23 (g_ground : Nat → Int32)   : Option (Int32) :=
  jn_X2_hasGround_24 g_ground 0
noncomputable def f_X2_hasGround (a1 : Int32) (g_ground : Nat → Int32) : Option (Int32) :=
  (f_X5_isKind a1).bind fun r1 =>
  if r1 = 0 then (
    jn_X2_hasGround_23 g_ground
  ) else (
    (rd g_ground 6 (a1 - 9)).bind fun v3 =>
    if v3 = 0 then (
      jn_X2_hasGround_23 g_ground
    ) else (
      jn_X2_hasGround_24 g_ground 1
    )
  )
noncomputable def f_X2_symbolOf (a1 : Int32) (a2 : Int32) (g_symbols : Nat → Int32) : Option (Int32) :=
  (rd g_symbols 100 ((a1 * 5) + a2)).bind fun v1 =>
  some v1
noncomputable def jn_X2_symbolsIn_10    : Option (Int32) :=
  some ((-1))
noncomputable def jn_X2_symbolsIn_46    : Option (Int32) :=
  some ((-1))
noncomputable def lp_X2_symbolsIn_18  (k61 : (Int32) → Option (Int32)) : Nat → (Int32) → (Int32) → (Int32) → Option (Int32)
  | 0, _, _, _ => none
  | n + 1, x1, x2, x3 =>
    if 5 ≤ x3 then (
      k61 x1
    ) else (
      if x2 ≤ 0 then (
        k61 x1
      ) else (
        nm (x2 &&& 15) fun x4_4 =>
        if x4_4 < 1 then (
          jn_X2_symbolsIn_46 
        ) else (
          if x4_4 ≤ 14 then (
            nm (x1 + Int32.ofInt 1) fun x1_5 =>
            nm (x2 >>> (4 &&& 31)) fun x2_6 =>
            nm (x3 + Int32.ofInt 1) fun x3_7 =>
            (lp_X2_symbolsIn_18  k61 n) x1_5 x2_6 x3_7
          ) else (
            jn_X2_symbolsIn_46 
          )
        )
      )
    )
noncomputable def jn_X2_symbolsIn_61   (x1 : Int32) : Option (Int32) :=
  some x1
noncomputable def f_X2_symbolsIn (a0 : Int32) : Option (Int32) :=
  if a0 < 0 then (
    jn_X2_symbolsIn_10 
  ) else (
    if a0 < 1048576 then (
      nm (0 : Int32) fun x1_1 =>
      nm a0 fun x2_2 =>
      nm (0 : Int32) fun x3_3 =>
      lp_X2_symbolsIn_18 
        (fun x1 =>
        jn_X2_symbolsIn_61  x1)
        FU x1_1 x2_2 x3_3
    ) else (
      jn_X2_symbolsIn_10 
    )
  )
noncomputable def lp_X2_hintsFit_10  (k34 : (Int32) → Option (Int32)) : Nat → (Int32) → (Int32) → (Int32) → Option (Int32)
  | 0, _, _, _ => none
  | n + 1, x1, x2, x3 =>
    if x1 ≤ x3 then (
      k34 x2
    ) else (
      if (x2 &&& 3) = 3 then (
        (zc 0).bind fun v3 => some v3
      ) else (
        nm (x2 >>> (2 &&& 31)) fun x2_4 =>
        nm (x3 + Int32.ofInt 1) fun x3_5 =>
        (lp_X2_hintsFit_10  k34 n) x1 x2_4 x3_5
      )
    )
noncomputable def jn_X2_hintsFit_43   (s0 : Int32) : Option (Int32) :=
  (zc s0).bind fun v6 => some v6
noncomputable def f_X2_hintsFit (a0 : Int32) (a1 : Int32) : Option (Int32) :=
  if 0 ≤ a0 then (
    nm a0 fun x2_1 =>
    nm (1 : Int32) fun x3_2 =>
    lp_X2_hintsFit_10 
      (fun x2 =>
      if x2 = 0 then (
        jn_X2_hintsFit_43  1
      ) else (
        jn_X2_hintsFit_43  0
      ))
      FU a1 x2_1 x3_2
  ) else (
    (zc 0).bind fun v7 => some v7
  )
noncomputable def jn_X2_standsOnGround_36 (g_lengths : Nat → Int32) (g_symbols : Nat → Int32) (g_ground : Nat → Int32) (k2 : (Int32) → (Int32) → Option (Int32)) (x1 : Int32) (x2 : Int32) : Option (Int32) :=
  nm (x2 + Int32.ofInt 1) fun x2_6 =>
  k2 x1 x2_6
noncomputable def lp_X2_standsOnGround_2 (g_lengths : Nat → Int32) (g_symbols : Nat → Int32) (g_ground : Nat → Int32) (k42 : Option (Int32)) : Nat → (Int32) → (Int32) → Option (Int32)
  | 0, _, _ => none
  | n + 1, x1, x2 =>
    (rd g_lengths 20 x1).bind fun v2 =>
    if v2 ≤ x2 then (
      k42
    ) else (
      (f_X2_symbolOf x1 x2 g_symbols).bind fun r3 =>
      nm r3 fun x3_4 =>
      (f_X5_isKind x3_4).bind fun r5 =>
      if r5 = 0 then (
        jn_X2_standsOnGround_36 g_lengths g_symbols g_ground (lp_X2_standsOnGround_2 g_lengths g_symbols g_ground k42 n) x1 x2
      ) else (
        (f_X2_hasGround x3_4 g_ground).bind fun r7 =>
        if r7 = 0 then (
          (zc 0).bind fun v8 => some v8
        ) else (
          jn_X2_standsOnGround_36 g_lengths g_symbols g_ground (lp_X2_standsOnGround_2 g_lengths g_symbols g_ground k42 n) x1 x2
        )
      )
    )
noncomputable def f_X2_standsOnGround (a1 : Int32) (g_lengths : Nat → Int32) (g_symbols : Nat → Int32) (g_ground : Nat → Int32) : Option (Int32) :=
  nm (0 : Int32) fun x2_1 =>
  lp_X2_standsOnGround_2 g_lengths g_symbols g_ground
    (
    (zc 1).bind fun v9 => some v9)
    FU a1 x2_1
noncomputable def jn_X2_findGround_64 (g_size : Int32) (g_heads : Nat → Int32) (g_lengths : Nat → Int32) (g_symbols : Nat → Int32) (k18 : (Int32) → (Int32) → (Int32) → (Nat → Int32) → Option ((Nat → Int32))) (x1 : Int32) (x2 : Int32) (x3 : Int32) (g_ground : Nat → Int32) : Option ((Nat → Int32)) :=
  nm (x3 + Int32.ofInt 1) fun x3_8 =>
  k18 x1 x2 x3_8 g_ground
noncomputable def lp_X2_findGround_18 (g_size : Int32) (g_heads : Nat → Int32) (g_lengths : Nat → Int32) (g_symbols : Nat → Int32) (k70 : (Int32) → (Int32) → (Nat → Int32) → Option ((Nat → Int32))) : Nat → (Int32) → (Int32) → (Int32) → (Nat → Int32) → Option ((Nat → Int32))
  | 0, _, _, _, _ => none
  | n + 1, x1, x2, x3, g_ground =>
    if g_size ≤ x3 then (
      k70 x1 x2 g_ground
    ) else (
      (rd g_heads 20 x3).bind fun v5 =>
      (f_X2_hasGround v5 g_ground).bind fun r6 =>
      if r6 = 0 then (
        (f_X2_standsOnGround x3 g_lengths g_symbols g_ground).bind fun r7 =>
        if r7 = 0 then (
          jn_X2_findGround_64 g_size g_heads g_lengths g_symbols (lp_X2_findGround_18 g_size g_heads g_lengths g_symbols k70 n) x1 x2 x3 g_ground
        ) else (
          (rd g_heads 20 x3).bind fun v9 =>
          (wrI g_ground 6 (v9 - 9) (vp_nar .boolean 1)).bind fun g_ground_10 =>
          nm (1 : Int32) fun x1_11 =>
          jn_X2_findGround_64 g_size g_heads g_lengths g_symbols (lp_X2_findGround_18 g_size g_heads g_lengths g_symbols k70 n) x1_11 x2 x3 g_ground_10
        )
      ) else (
        jn_X2_findGround_64 g_size g_heads g_lengths g_symbols (lp_X2_findGround_18 g_size g_heads g_lengths g_symbols k70 n) x1 x2 x3 g_ground
      )
    )
noncomputable def lp_X2_findGround_4 (g_size : Int32) (g_heads : Nat → Int32) (g_lengths : Nat → Int32) (g_symbols : Nat → Int32) (k76 : (Nat → Int32) → Option ((Nat → Int32))) : Nat → (Int32) → (Int32) → (Nat → Int32) → Option ((Nat → Int32))
  | 0, _, _, _ => none
  | n + 1, x1, x2, g_ground =>
    if 6 ≤ x2 then (
      k76 g_ground
    ) else (
      if x1 = 0 then (
        k76 g_ground
      ) else (
        nm (0 : Int32) fun x1_3 =>
        nm (0 : Int32) fun x3_4 =>
        lp_X2_findGround_18 g_size g_heads g_lengths g_symbols
          (fun x1 x2 g_ground =>
          nm (x2 + Int32.ofInt 1) fun x2_12 =>
          (lp_X2_findGround_4 g_size g_heads g_lengths g_symbols k76 n) x1 x2_12 g_ground)
          FU x1_3 x2 x3_4 g_ground
      )
    )
noncomputable def jn_X2_findGround_76 (g_size : Int32) (g_heads : Nat → Int32) (g_lengths : Nat → Int32) (g_symbols : Nat → Int32)  (g_ground : Nat → Int32) : Option ((Nat → Int32)) :=
  some g_ground
noncomputable def f_X2_findGround (g_size : Int32) (g_heads : Nat → Int32) (g_lengths : Nat → Int32) (g_symbols : Nat → Int32) (g_ground : Nat → Int32) : Option ((Nat → Int32)) :=
  nm (1 : Int32) fun x1_1 =>
  nm (0 : Int32) fun x2_2 =>
  lp_X2_findGround_4 g_size g_heads g_lengths g_symbols
    (fun g_ground =>
    jn_X2_findGround_76 g_size g_heads g_lengths g_symbols g_ground)
    FU x1_1 x2_2 g_ground
noncomputable def jn_X2_add_25   (g_size : Int32) (g_heads : Nat → Int32) (g_lengths : Nat → Int32) (g_symbols : Nat → Int32) (g_hints : Nat → Int32) (g_ins : Nat → Int32) (g_ground : Nat → Int32) : Option (Int32 × (Int32) × (Nat → Int32) × (Nat → Int32) × (Nat → Int32) × (Nat → Int32) × (Nat → Int32) × (Nat → Int32)) :=
  some ((-1), g_size, g_heads, g_lengths, g_symbols, g_hints, g_ins, g_ground)
noncomputable def lp_X2_add_56  (k119 : (Int32) → (Int32) → (Nat → Int32) → (Nat → Int32) → (Nat → Int32) → (Nat → Int32) → (Nat → Int32) → (Nat → Int32) → Option (Int32 × (Int32) × (Nat → Int32) × (Nat → Int32) × (Nat → Int32) × (Nat → Int32) × (Nat → Int32) × (Nat → Int32))) : Nat → (Int32) → (Int32) → (Int32) → (Int32) → (Int32) → (Int32) → (Nat → Int32) → (Nat → Int32) → (Nat → Int32) → (Nat → Int32) → (Nat → Int32) → (Nat → Int32) → Option (Int32 × (Int32) × (Nat → Int32) × (Nat → Int32) × (Nat → Int32) × (Nat → Int32) × (Nat → Int32) × (Nat → Int32))
  | 0, _, _, _, _, _, _, _, _, _, _, _, _ => none
  | n + 1, x2, x3, x5, x6, x7, g_size, g_heads, g_lengths, g_symbols, g_hints, g_ins, g_ground =>
    if x6 ≤ x7 then (
      k119 x5 g_size g_heads g_lengths g_symbols g_hints g_ins g_ground
    ) else (
      nm ((x6 - 1) - x7) fun x8_8 =>
      (wrI g_symbols 100 ((x5 * 5) + x7) ((x2 >>> ((4 * x8_8) &&& 31)) &&& 15)).bind fun g_symbols_9 =>
      (wrI g_hints 100 ((x5 * 5) + x7) ((x3 >>> ((2 * x8_8) &&& 31)) &&& 3)).bind fun g_hints_10 =>
      nm (x7 + Int32.ofInt 1) fun x7_11 =>
      (lp_X2_add_56  k119 n) x2 x3 x5 x6 x7_11 g_size g_heads g_lengths g_symbols_9 g_hints_10 g_ins g_ground
    )
noncomputable def f_X2_add (a1 : Int32) (a2 : Int32) (a3 : Int32) (a4 : Int32) (g_size : Int32) (g_heads : Nat → Int32) (g_lengths : Nat → Int32) (g_symbols : Nat → Int32) (g_hints : Nat → Int32) (g_ins : Nat → Int32) (g_ground : Nat → Int32) : Option (Int32 × (Int32) × (Nat → Int32) × (Nat → Int32) × (Nat → Int32) × (Nat → Int32) × (Nat → Int32) × (Nat → Int32)) :=
  nm g_size fun x5_1 =>
  (f_X2_symbolsIn a2).bind fun r2 =>
  nm r2 fun x6_3 =>
  if 20 ≤ x5_1 then (
    jn_X2_add_25  g_size g_heads g_lengths g_symbols g_hints g_ins g_ground
  ) else (
    if x6_3 = ((-1)) then (
      jn_X2_add_25  g_size g_heads g_lengths g_symbols g_hints g_ins g_ground
    ) else (
      (wrI g_heads 20 x5_1 a1).bind fun g_heads_4 =>
      (wrI g_lengths 20 x5_1 x6_3).bind fun g_lengths_5 =>
      (wrI g_ins 20 x5_1 (vp_nar .boolean a4)).bind fun g_ins_6 =>
      nm (0 : Int32) fun x7_7 =>
      lp_X2_add_56 
        (fun x5 g_size g_heads g_lengths g_symbols g_hints g_ins g_ground =>
        (f_X2_findGround ((g_size + 1)) g_heads g_lengths g_symbols g_ground).bind fun r13 =>
        some (x5, ((g_size + 1)), g_heads, g_lengths, g_symbols, g_hints, g_ins, r13))
        FU a2 a3 x5_1 x6_3 x7_7 g_size g_heads_4 g_lengths_5 g_symbols g_hints g_ins_6 g_ground
    )
  )
noncomputable def f_X2_hintOf (a1 : Int32) (a2 : Int32) (g_hints : Nat → Int32) : Option (Int32) :=
  (rd g_hints 100 ((a1 * 5) + a2)).bind fun v1 =>
  some v1
noncomputable def jn_X1_signOf_22 (c_size : Int32) (c_signs : Nat → Int32)  (s0 : Int32) : Option (Int32) :=
  some s0
noncomputable def jn_X1_signOf_21 (c_size : Int32) (c_signs : Nat → Int32)   : Option (Int32) :=
  jn_X1_signOf_22 c_size c_signs 0
noncomputable def f_X1_signOf (a1 : Int32) (c_size : Int32) (c_signs : Nat → Int32) : Option (Int32) :=
  if a1 < 0 then (
    jn_X1_signOf_21 c_size c_signs
  ) else (
    if c_size ≤ a1 then (
      jn_X1_signOf_21 c_size c_signs
    ) else (
      (rd c_signs 16 a1).bind fun v1 =>
      jn_X1_signOf_22 c_size c_signs v1
    )
  )
noncomputable def lp_X1_closing_4 (c_length : Int32) (c_text : Nat → Int32) (k31 : Option (Int32)) : Nat → (Int32) → Option (Int32)
  | 0, _ => none
  | n + 1, x2 =>
    if c_length ≤ x2 then (
      k31
    ) else (
      (rd c_text 80 x2).bind fun v2 =>
      if v2 = 125 then (
        some x2
      ) else (
        nm (x2 + Int32.ofInt 1) fun x2_3 =>
        (lp_X1_closing_4 c_length c_text k31 n) x2_3
      )
    )
noncomputable def f_X1_closing (a1 : Int32) (c_length : Int32) (c_text : Nat → Int32) : Option (Int32) :=
  nm (a1 + 1) fun x2_1 =>
  lp_X1_closing_4 c_length c_text
    (
    some ((-1)))
    FU x2_1
noncomputable def jn_X1_takeComment_39   (x2 : Int32) (c_comments : Int32) (c_commentStarts : Nat → Int32) (c_commentEnds : Nat → Int32) : Option (Int32 × (Int32) × (Nat → Int32) × (Nat → Int32)) :=
  some (x2, c_comments, c_commentStarts, c_commentEnds)
noncomputable def f_X1_takeComment (a1 : Int32) (a2 : Int32) (c_comments : Int32) (c_commentStarts : Nat → Int32) (c_commentEnds : Nat → Int32) : Option (Int32 × (Int32) × (Nat → Int32) × (Nat → Int32)) :=
  if 40 ≤ c_comments then (
    jn_X1_takeComment_39  a2 c_comments c_commentStarts c_commentEnds
  ) else (
    (wrI c_commentStarts 40 c_comments a1).bind fun c_commentStarts_1 =>
    (wrI c_commentEnds 40 c_comments a2).bind fun c_commentEnds_2 =>
    jn_X1_takeComment_39  a2 ((c_comments + 1)) c_commentStarts_1 c_commentEnds_2
  )
noncomputable def lp_X1_behindDigits_2 (c_length : Int32) (c_text : Nat → Int32) (k28 : (Int32) → Option (Int32)) : Nat → (Int32) → Option (Int32)
  | 0, _ => none
  | n + 1, x2 =>
    if c_length ≤ x2 then (
      k28 x2
    ) else (
      (rd c_text 80 x2).bind fun v2 =>
      (f_X5_isDigit v2).bind fun r3 =>
      if r3 = 0 then (
        k28 x2
      ) else (
        nm (x2 + Int32.ofInt 1) fun x2_4 =>
        (lp_X1_behindDigits_2 c_length c_text k28 n) x2_4
      )
    )
noncomputable def jn_X1_behindDigits_28 (c_length : Int32) (c_text : Nat → Int32)  (x2 : Int32) : Option (Int32) :=
  some x2
noncomputable def f_X1_behindDigits (a1 : Int32) (c_length : Int32) (c_text : Nat → Int32) : Option (Int32) :=
  nm a1 fun x2_1 =>
  lp_X1_behindDigits_2 c_length c_text
    (fun x2 =>
    jn_X1_behindDigits_28 c_length c_text x2)
    FU x2_1
noncomputable def jn_X1_take_19 (c_length : Int32) (c_text : Nat → Int32)  (x1 : Int32) (c_size : Int32) (c_comments : Int32) (c_starts : Nat → Int32) (c_lengths : Nat → Int32) (c_signs : Nat → Int32) (c_firstComments : Nat → Int32) (c_commentStarts : Nat → Int32) (c_commentEnds : Nat → Int32) : Option (Int32 × (Int32) × (Int32) × (Nat → Int32) × (Nat → Int32) × (Nat → Int32) × (Nat → Int32) × (Nat → Int32) × (Nat → Int32)) :=
  some (x1 + 1, c_size, c_comments, c_starts, c_lengths, c_signs, c_firstComments, c_commentStarts, c_commentEnds)
noncomputable def jn_X1_take_149 (c_length : Int32) (c_text : Nat → Int32)  (x5 : Int32) (s1 : Int32) (s2 : Int32) (c_size : Int32) (c_comments : Int32) (c_starts : Nat → Int32) (c_lengths : Nat → Int32) (c_signs : Nat → Int32) (c_firstComments : Nat → Int32) (c_commentStarts : Nat → Int32) (c_commentEnds : Nat → Int32) : Option (Int32 × (Int32) × (Int32) × (Nat → Int32) × (Nat → Int32) × (Nat → Int32) × (Nat → Int32) × (Nat → Int32) × (Nat → Int32)) :=
  (wrI c_signs 16 s1 s2).bind fun c_signs_9 =>
  (wrI c_firstComments 18 ((c_size + 1)) c_comments).bind fun c_firstComments_11 =>
  some (x5, ((c_size + 1)), c_comments, c_starts, c_lengths, c_signs_9, c_firstComments_11, c_commentStarts, c_commentEnds)
noncomputable def jn_X1_take_101 (c_length : Int32) (c_text : Nat → Int32)  (x1 : Int32) (x2 : Int32) (x4 : Int32) (s0 : Int32) (c_size : Int32) (c_comments : Int32) (c_starts : Nat → Int32) (c_lengths : Nat → Int32) (c_signs : Nat → Int32) (c_firstComments : Nat → Int32) (c_commentStarts : Nat → Int32) (c_commentEnds : Nat → Int32) : Option (Int32 × (Int32) × (Int32) × (Nat → Int32) × (Nat → Int32) × (Nat → Int32) × (Nat → Int32) × (Nat → Int32) × (Nat → Int32)) :=
  nm s0 fun x5_6 =>
  (wrI c_starts 16 c_size x1).bind fun c_starts_7 =>
  (wrI c_lengths 16 c_size (x5_6 - x1)).bind fun c_lengths_8 =>
  if x4 = 0 then (
    jn_X1_take_149 c_length c_text x5_6 c_size 0 c_size c_comments c_starts_7 c_lengths_8 c_signs c_firstComments c_commentStarts c_commentEnds
  ) else (
    jn_X1_take_149 c_length c_text x5_6 c_size ((x2 - 97) + 1) c_size c_comments c_starts_7 c_lengths_8 c_signs c_firstComments c_commentStarts c_commentEnds
  )
noncomputable def jn_X1_take_81 (c_length : Int32) (c_text : Nat → Int32)  (x1 : Int32) (x2 : Int32) (s0 : Int32) (c_size : Int32) (c_comments : Int32) (c_starts : Nat → Int32) (c_lengths : Nat → Int32) (c_signs : Nat → Int32) (c_firstComments : Nat → Int32) (c_commentStarts : Nat → Int32) (c_commentEnds : Nat → Int32) : Option (Int32 × (Int32) × (Int32) × (Nat → Int32) × (Nat → Int32) × (Nat → Int32) × (Nat → Int32) × (Nat → Int32) × (Nat → Int32)) :=
  nm s0 fun x4_5 =>
  if x4_5 = 0 then (
    jn_X1_take_101 c_length c_text x1 x2 x4_5 (x1 + 1) c_size c_comments c_starts c_lengths c_signs c_firstComments c_commentStarts c_commentEnds
  ) else (
    (f_X1_behindDigits (x1 + 1) c_length c_text).bind fun r12 =>
    jn_X1_take_101 c_length c_text x1 x2 x4_5 r12 c_size c_comments c_starts c_lengths c_signs c_firstComments c_commentStarts c_commentEnds
  )
noncomputable def jn_X1_take_80 (c_length : Int32) (c_text : Nat → Int32)  (x1 : Int32) (x2 : Int32) (c_size : Int32) (c_comments : Int32) (c_starts : Nat → Int32) (c_lengths : Nat → Int32) (c_signs : Nat → Int32) (c_firstComments : Nat → Int32) (c_commentStarts : Nat → Int32) (c_commentEnds : Nat → Int32) : Option (Int32 × (Int32) × (Int32) × (Nat → Int32) × (Nat → Int32) × (Nat → Int32) × (Nat → Int32) × (Nat → Int32) × (Nat → Int32)) :=
  jn_X1_take_81 c_length c_text x1 x2 0 c_size c_comments c_starts c_lengths c_signs c_firstComments c_commentStarts c_commentEnds
noncomputable def jn_X1_take_38 (c_length : Int32) (c_text : Nat → Int32)  (x1 : Int32) (x2 : Int32) (s0 : Int32) (c_size : Int32) (c_comments : Int32) (c_starts : Nat → Int32) (c_lengths : Nat → Int32) (c_signs : Nat → Int32) (c_firstComments : Nat → Int32) (c_commentStarts : Nat → Int32) (c_commentEnds : Nat → Int32) : Option (Int32 × (Int32) × (Int32) × (Nat → Int32) × (Nat → Int32) × (Nat → Int32) × (Nat → Int32) × (Nat → Int32) × (Nat → Int32)) :=
  nm s0 fun x3_4 =>
  if x3_4 = ((-1)) then (
    if c_size < 16 then (
      if x2 < 97 then (
        jn_X1_take_80 c_length c_text x1 x2 c_size c_comments c_starts c_lengths c_signs c_firstComments c_commentStarts c_commentEnds
      ) else (
        if 105 ≤ x2 then (
          jn_X1_take_80 c_length c_text x1 x2 c_size c_comments c_starts c_lengths c_signs c_firstComments c_commentStarts c_commentEnds
        ) else (
          jn_X1_take_81 c_length c_text x1 x2 1 c_size c_comments c_starts c_lengths c_signs c_firstComments c_commentStarts c_commentEnds
        )
      )
    ) else (
      some ((-1), c_size, c_comments, c_starts, c_lengths, c_signs, c_firstComments, c_commentStarts, c_commentEnds)
    )
  ) else (
    (f_X1_takeComment x1 (x3_4 + 1) c_comments c_commentStarts c_commentEnds).bind fun r13 =>
    some (r13.1, c_size, r13.2.1, c_starts, c_lengths, c_signs, c_firstComments, r13.2.2.1, r13.2.2.2)
  )
noncomputable def f_X1_take (a1 : Int32) (c_length : Int32) (c_text : Nat → Int32) (c_size : Int32) (c_comments : Int32) (c_starts : Nat → Int32) (c_lengths : Nat → Int32) (c_signs : Nat → Int32) (c_firstComments : Nat → Int32) (c_commentStarts : Nat → Int32) (c_commentEnds : Nat → Int32) : Option (Int32 × (Int32) × (Int32) × (Nat → Int32) × (Nat → Int32) × (Nat → Int32) × (Nat → Int32) × (Nat → Int32) × (Nat → Int32)) :=
  (rd c_text 80 a1).bind fun v1 =>
  nm v1 fun x2_2 =>
  if x2_2 = 32 then (
    jn_X1_take_19 c_length c_text a1 c_size c_comments c_starts c_lengths c_signs c_firstComments c_commentStarts c_commentEnds
  ) else (
    if x2_2 = 10 then (
      jn_X1_take_19 c_length c_text a1 c_size c_comments c_starts c_lengths c_signs c_firstComments c_commentStarts c_commentEnds
    ) else (
      if x2_2 = 123 then (
        (f_X1_closing a1 c_length c_text).bind fun r3 =>
        jn_X1_take_38 c_length c_text a1 x2_2 r3 c_size c_comments c_starts c_lengths c_signs c_firstComments c_commentStarts c_commentEnds
      ) else (
        jn_X1_take_38 c_length c_text a1 x2_2 ((-1)) c_size c_comments c_starts c_lengths c_signs c_firstComments c_commentStarts c_commentEnds
      )
    )
  )
noncomputable def lp_X1_read_55 (k_text : Nat → Int32) (k89 : (Int32) → (Int32) → (Int32) → (Nat → Int32) → (Nat → Int32) → (Nat → Int32) → (Nat → Int32) → (Nat → Int32) → (Nat → Int32) → (Nat → Int32) → Option (Int32 × (Int32) × (Int32) × (Int32) × (Nat → Int32) × (Nat → Int32) × (Nat → Int32) × (Nat → Int32) × (Nat → Int32) × (Nat → Int32) × (Nat → Int32))) : Nat → (Int32) → (Int32) → (Int32) → (Int32) → (Int32) → (Nat → Int32) → (Nat → Int32) → (Nat → Int32) → (Nat → Int32) → (Nat → Int32) → (Nat → Int32) → (Nat → Int32) → Option (Int32 × (Int32) × (Int32) × (Int32) × (Nat → Int32) × (Nat → Int32) × (Nat → Int32) × (Nat → Int32) × (Nat → Int32) × (Nat → Int32) × (Nat → Int32))
  | 0, _, _, _, _, _, _, _, _, _, _, _, _ => none
  | n + 1, x3, x4, c_length, c_size, c_comments, c_text, c_starts, c_lengths, c_signs, c_firstComments, c_commentStarts, c_commentEnds =>
    if 80 ≤ x4 then (
      k89 c_length c_size c_comments c_text c_starts c_lengths c_signs c_firstComments c_commentStarts c_commentEnds
    ) else (
      if c_length ≤ x3 then (
        k89 c_length c_size c_comments c_text c_starts c_lengths c_signs c_firstComments c_commentStarts c_commentEnds
      ) else (
        (f_X1_take x3 c_length c_text c_size c_comments c_starts c_lengths c_signs c_firstComments c_commentStarts c_commentEnds).bind fun r8 =>
        nm r8.1 fun x3_9 =>
        if x3_9 = ((-1)) then (
          (zc 0).bind fun v10 => some (v10, c_length, r8.2.1, r8.2.2.1, c_text, r8.2.2.2.1, r8.2.2.2.2.1, r8.2.2.2.2.2.1, r8.2.2.2.2.2.2.1, r8.2.2.2.2.2.2.2.1, r8.2.2.2.2.2.2.2.2)
        ) else (
          nm (x4 + Int32.ofInt 1) fun x4_11 =>
          (lp_X1_read_55 k_text k89 n) x3_9 x4_11 c_length r8.2.1 r8.2.2.1 c_text r8.2.2.2.1 r8.2.2.2.2.1 r8.2.2.2.2.2.1 r8.2.2.2.2.2.2.1 r8.2.2.2.2.2.2.2.1 r8.2.2.2.2.2.2.2.2
        )
      )
    )
noncomputable def jn_X1_read_89 (k_text : Nat → Int32)  (c_length : Int32) (c_size : Int32) (c_comments : Int32) (c_text : Nat → Int32) (c_starts : Nat → Int32) (c_lengths : Nat → Int32) (c_signs : Nat → Int32) (c_firstComments : Nat → Int32) (c_commentStarts : Nat → Int32) (c_commentEnds : Nat → Int32) : Option (Int32 × (Int32) × (Int32) × (Int32) × (Nat → Int32) × (Nat → Int32) × (Nat → Int32) × (Nat → Int32) × (Nat → Int32) × (Nat → Int32) × (Nat → Int32)) :=
  (wrI c_firstComments 18 (c_size + 1) c_comments).bind fun c_firstComments_12 =>
  (zc 1).bind fun v13 => some (v13, c_length, c_size, c_comments, c_text, c_starts, c_lengths, c_signs, c_firstComments_12, c_commentStarts, c_commentEnds)
noncomputable def f_X1_read (a2 : Int32) (k_text : Nat → Int32) (c_length : Int32) (c_size : Int32) (c_comments : Int32) (c_text : Nat → Int32) (c_starts : Nat → Int32) (c_lengths : Nat → Int32) (c_signs : Nat → Int32) (c_firstComments : Nat → Int32) (c_commentStarts : Nat → Int32) (c_commentEnds : Nat → Int32) : Option (Int32 × (Int32) × (Int32) × (Int32) × (Nat → Int32) × (Nat → Int32) × (Nat → Int32) × (Nat → Int32) × (Nat → Int32) × (Nat → Int32) × (Nat → Int32)) :=
  nm (if (80 : Int32) < (80 : Int32) then (80 : Int32) else (80 : Int32)) fun v1 =>
  nm (if v1 < a2 then v1 else a2) fun v2 =>
  nm (if (0 : Int32) < v2 then v2 else (0 : Int32)) fun v3 =>
  (cpB k_text c_text 80 80 0 0 v3).bind fun c_text_4 =>
  (wrI c_firstComments 18 0 0).bind fun c_firstComments_5 =>
  nm (0 : Int32) fun x3_6 =>
  nm (0 : Int32) fun x4_7 =>
  lp_X1_read_55 k_text
    (fun c_length c_size c_comments c_text c_starts c_lengths c_signs c_firstComments c_commentStarts c_commentEnds =>
    jn_X1_read_89 k_text c_length c_size c_comments c_text c_starts c_lengths c_signs c_firstComments c_commentStarts c_commentEnds)
    FU x3_6 x4_7 v3 0 0 c_text_4 c_starts c_lengths c_signs c_firstComments_5 c_commentStarts c_commentEnds
noncomputable def jn_X1_lengthOf_22 (c_size : Int32) (c_lengths : Nat → Int32)  (s0 : Int32) : Option (Int32) :=
  some s0
noncomputable def jn_X1_lengthOf_21 (c_size : Int32) (c_lengths : Nat → Int32)   : Option (Int32) :=
  jn_X1_lengthOf_22 c_size c_lengths 0
noncomputable def f_X1_lengthOf (a1 : Int32) (c_size : Int32) (c_lengths : Nat → Int32) : Option (Int32) :=
  if a1 < 0 then (
    jn_X1_lengthOf_21 c_size c_lengths
  ) else (
    if c_size ≤ a1 then (
      jn_X1_lengthOf_21 c_size c_lengths
    ) else (
      (rd c_lengths 16 a1).bind fun v1 =>
      jn_X1_lengthOf_22 c_size c_lengths v1
    )
  )
noncomputable def jn_X1_commentsOf_31 (c_size : Int32) (c_firstComments : Nat → Int32)  (s0 : Int32) : Option (Int32) :=
  some s0
noncomputable def jn_X1_commentsOf_30 (c_size : Int32) (c_firstComments : Nat → Int32)   : Option (Int32) :=
  jn_X1_commentsOf_31 c_size c_firstComments 0
noncomputable def f_X1_commentsOf (a1 : Int32) (c_size : Int32) (c_firstComments : Nat → Int32) : Option (Int32) :=
  if a1 < 0 then (
    jn_X1_commentsOf_30 c_size c_firstComments
  ) else (
    if c_size < a1 then (
      jn_X1_commentsOf_30 c_size c_firstComments
    ) else (
      (rd c_firstComments 18 (a1 + 1)).bind fun v1 =>
      (rd c_firstComments 18 a1).bind fun v2 =>
      jn_X1_commentsOf_31 c_size c_firstComments (v1 - v2)
    )
  )
noncomputable def jn_X1_beginsWithDigit_42 (c_size : Int32) (c_text : Nat → Int32) (c_starts : Nat → Int32) (c_firstComments : Nat → Int32)  (s0 : Int32) : Option (Int32) :=
  (zc s0).bind fun v1 => some v1
noncomputable def jn_X1_beginsWithDigit_41 (c_size : Int32) (c_text : Nat → Int32) (c_starts : Nat → Int32) (c_firstComments : Nat → Int32)   : Option (Int32) :=
  jn_X1_beginsWithDigit_42 c_size c_text c_starts c_firstComments 0
noncomputable def f_X1_beginsWithDigit (a1 : Int32) (c_size : Int32) (c_text : Nat → Int32) (c_starts : Nat → Int32) (c_firstComments : Nat → Int32) : Option (Int32) :=
  if a1 < 0 then (
    jn_X1_beginsWithDigit_41 c_size c_text c_starts c_firstComments
  ) else (
    if c_size ≤ a1 then (
      jn_X1_beginsWithDigit_41 c_size c_text c_starts c_firstComments
    ) else (
      (f_X1_commentsOf a1 c_size c_firstComments).bind fun r2 =>
      if r2 = 0 then (
        (rd c_starts 16 a1).bind fun v3 =>
        (rd c_text 80 v3).bind fun v4 =>
        (f_X5_isDigit v4).bind fun r5 =>
        if r5 = 0 then (
          jn_X1_beginsWithDigit_41 c_size c_text c_starts c_firstComments
        ) else (
          jn_X1_beginsWithDigit_42 c_size c_text c_starts c_firstComments 1
        )
      ) else (
        jn_X1_beginsWithDigit_41 c_size c_text c_starts c_firstComments
      )
    )
  )
noncomputable def lp_X1_widthOf_27 (c_size : Int32) (c_lengths : Nat → Int32) (c_firstComments : Nat → Int32) (c_commentStarts : Nat → Int32) (c_commentEnds : Nat → Int32) (k59 : (Int32) → Option (Int32)) : Nat → (Int32) → (Int32) → (Int32) → Option (Int32)
  | 0, _, _, _ => none
  | n + 1, x2, x3, x4 =>
    if x3 ≤ x4 then (
      k59 x2
    ) else (
      (rd c_commentEnds 40 x4).bind fun v8 =>
      (rd c_commentStarts 40 x4).bind fun v9 =>
      nm (x2 + ((v8 - v9) + 1)) fun x2_10 =>
      nm (x4 + Int32.ofInt 1) fun x4_11 =>
      (lp_X1_widthOf_27 c_size c_lengths c_firstComments c_commentStarts c_commentEnds k59 n) x2_10 x3 x4_11
    )
noncomputable def f_X1_widthOf (a1 : Int32) (c_size : Int32) (c_lengths : Nat → Int32) (c_firstComments : Nat → Int32) (c_commentStarts : Nat → Int32) (c_commentEnds : Nat → Int32) : Option (Int32) :=
  (f_X1_lengthOf a1 c_size c_lengths).bind fun r1 =>
  nm r1 fun x2_2 =>
  (rd c_firstComments 18 a1).bind fun v3 =>
  (f_X1_commentsOf a1 c_size c_firstComments).bind fun r4 =>
  nm (v3 + r4) fun x3_5 =>
  (rd c_firstComments 18 a1).bind fun v6 =>
  nm v6 fun x4_7 =>
  lp_X1_widthOf_27 c_size c_lengths c_firstComments c_commentStarts c_commentEnds
    (fun x2 =>
    some x2)
    FU x2_2 x3_5 x4_7
noncomputable def f_X0_spot (a0 : Int32) (a1 : Int32) (a2 : Int32) : Option (Int32) :=
  some (((((a0 - 1) * 17) + a1) * 17) + a2)
noncomputable def f_X0_choiceSpot (a0 : Int32) (a1 : Int32) (a2 : Int32) : Option (Int32) :=
  some (((((a0 - 9) * 17) + a1) * 17) + a2)
noncomputable def f_X0_begunRow (a0 : Int32) (a1 : Int32) : Option (Int32) :=
  some (((a0 * 6) + a1) * 17)
noncomputable def jn_X0_priceLeaves_74 (c_size : Int32) (c_signs : Nat → Int32) (k39 : (Int32) → (Int32) → (Int32) → (Nat → Int64) → Option ((Nat → Int64))) (x1 : Int32) (x2 : Int32) (x3 : Int32) (s0 : Int32) (s1 : Int32) (h_prices : Nat → Int64) : Option ((Nat → Int64)) :=
  nm ((s0 + s1).toInt64) fun x4_7 =>
  (f_X0_spot x1 x2 x3).bind fun r8 =>
  (wrL h_prices 4046 r8 (x4_7 <<< ((32 : Int32).toInt64 &&& 63))).bind fun h_prices_9 =>
  nm (x3 + Int32.ofInt 1) fun x3_10 =>
  k39 x1 x2 x3_10 h_prices_9
noncomputable def lp_X0_priceLeaves_39 (c_size : Int32) (c_signs : Nat → Int32) (k100 : (Int32) → (Int32) → (Nat → Int64) → Option ((Nat → Int64))) : Nat → (Int32) → (Int32) → (Int32) → (Nat → Int64) → Option ((Nat → Int64))
  | 0, _, _, _, _ => none
  | n + 1, x1, x2, x3, h_prices =>
    if c_size < x3 then (
      k100 x1 x2 h_prices
    ) else (
      (f_X1_signOf (x3 - 1) c_size c_signs).bind fun r6 =>
      if r6 = x1 then (
        jn_X0_priceLeaves_74 c_size c_signs (lp_X0_priceLeaves_39 c_size c_signs k100 n) x1 x2 x3 ((x3 - x2) - 1) 0 h_prices
      ) else (
        jn_X0_priceLeaves_74 c_size c_signs (lp_X0_priceLeaves_39 c_size c_signs k100 n) x1 x2 x3 ((x3 - x2) - 1) 1 h_prices
      )
    )
noncomputable def lp_X0_priceLeaves_10 (c_size : Int32) (c_signs : Nat → Int32) (k106 : (Int32) → (Nat → Int64) → Option ((Nat → Int64))) : Nat → (Int32) → (Int32) → (Nat → Int64) → Option ((Nat → Int64))
  | 0, _, _, _ => none
  | n + 1, x1, x2, h_prices =>
    if c_size < x2 then (
      k106 x1 h_prices
    ) else (
      (f_X0_spot x1 x2 x2).bind fun r3 =>
      (wrL h_prices 4046 r3 4294967296).bind fun h_prices_4 =>
      nm (x2 + 1) fun x3_5 =>
      lp_X0_priceLeaves_39 c_size c_signs
        (fun x1 x2 h_prices =>
        nm (x2 + Int32.ofInt 1) fun x2_11 =>
        (lp_X0_priceLeaves_10 c_size c_signs k106 n) x1 x2_11 h_prices)
        FU x1 x2 x3_5 h_prices_4
    )
noncomputable def lp_X0_priceLeaves_2 (c_size : Int32) (c_signs : Nat → Int32) (k112 : (Nat → Int64) → Option ((Nat → Int64))) : Nat → (Int32) → (Nat → Int64) → Option ((Nat → Int64))
  | 0, _, _ => none
  | n + 1, x1, h_prices =>
    if 8 < x1 then (
      k112 h_prices
    ) else (
      nm (0 : Int32) fun x2_2 =>
      lp_X0_priceLeaves_10 c_size c_signs
        (fun x1 h_prices =>
        nm (x1 + Int32.ofInt 1) fun x1_12 =>
        (lp_X0_priceLeaves_2 c_size c_signs k112 n) x1_12 h_prices)
        FU x1 x2_2 h_prices
    )
noncomputable def f_X0_priceLeaves (c_size : Int32) (c_signs : Nat → Int32) (h_prices : Nat → Int64) : Option ((Nat → Int64)) :=
  nm (1 : Int32) fun x1_1 =>
  lp_X0_priceLeaves_2 c_size c_signs
    (fun h_prices =>
    some h_prices)
    FU x1_1 h_prices
noncomputable def lp_X0_forget_3  (k41 : (Nat → Int64) → (Nat → Int32) → Option ((Nat → Int64) × (Nat → Int32))) : Nat → (Int32) → (Int32) → (Int32) → (Nat → Int64) → (Nat → Int32) → Option ((Nat → Int64) × (Nat → Int32))
  | 0, _, _, _, _, _ => none
  | n + 1, x1, x2, x3, h_prices, h_choices =>
    if 14 < x3 then (
      k41 h_prices h_choices
    ) else (
      (f_X0_spot x3 x1 x2).bind fun r2 =>
      (wrL h_prices 4046 r2 1152921504606846976).bind fun h_prices_3 =>
      (f_X0_choiceSpot x3 x1 x2).bind fun r4 =>
      (wrI h_choices 1734 r4 (vp_nar .byte ((-1)))).bind fun h_choices_5 =>
      nm (x3 + Int32.ofInt 1) fun x3_6 =>
      (lp_X0_forget_3  k41 n) x1 x2 x3_6 h_prices_3 h_choices_5
    )
noncomputable def f_X0_forget (a1 : Int32) (a2 : Int32) (h_prices : Nat → Int64) (h_choices : Nat → Int32) : Option ((Nat → Int64) × (Nat → Int32)) :=
  nm (9 : Int32) fun x3_1 =>
  lp_X0_forget_3 
    (fun h_prices h_choices =>
    some (h_prices, h_choices))
    FU a1 a2 x3_1 h_prices h_choices
noncomputable def lp_X0_leastInside_19 (h_prices : Nat → Int64) (h_begun : Nat → Int64) (k59 : (Int64) → Option (Int64)) : Nat → (Int32) → (Int32) → (Int64) → (Int32) → (Int32) → Option (Int64)
  | 0, _, _, _, _, _ => none
  | n + 1, x1, x4, x5, x7, x8 =>
    if x4 ≤ x8 then (
      k59 x5
    ) else (
      nm (x7 + Int32.ofInt 17) fun x7_5 =>
      (rd h_begun 2040 (x1 + x8)).bind fun v6 =>
      (rd h_prices 4046 x7_5).bind fun v7 =>
      nm (if (v6 + v7) < x5 then (v6 + v7) else x5) fun v8 =>
      nm v8 fun x5_9 =>
      nm (x8 + Int32.ofInt 1) fun x8_10 =>
      (lp_X0_leastInside_19 h_prices h_begun k59 n) x1 x4 x5_9 x7_5 x8_10
    )
noncomputable def f_X0_leastInside (a1 : Int32) (a2 : Int32) (a3 : Int32) (a4 : Int32) (h_prices : Nat → Int64) (h_begun : Nat → Int64) : Option (Int64) :=
  nm (1152921504606846976 : Int64) fun x5_1 =>
  (f_X0_spot a2 a3 a4).bind fun r2 =>
  nm r2 fun x7_3 =>
  nm (a3 + 1) fun x8_4 =>
  lp_X0_leastInside_19 h_prices h_begun
    (fun x5 =>
    some x5)
    FU a1 a4 x5_1 x7_3 x8_4
noncomputable def lp_X0_joinInside_44 (g_size : Int32) (g_lengths : Nat → Int32) (g_symbols : Nat → Int32) (h_prices : Nat → Int64) (k97 : (Int32) → (Int32) → (Int32) → (Nat → Int64) → Option ((Nat → Int64))) : Nat → (Int32) → (Int32) → (Int32) → (Int32) → (Int32) → (Nat → Int64) → Option ((Nat → Int64))
  | 0, _, _, _, _, _, _ => none
  | n + 1, x1, x2, x3, x4, x5, h_begun =>
    (rd g_lengths 20 x3).bind fun v6 =>
    if v6 ≤ x5 then (
      k97 x1 x2 x3 h_begun
    ) else (
      (f_X2_symbolOf x3 x5 g_symbols).bind fun r7 =>
      (f_X0_leastInside x4 r7 x1 x2 h_prices h_begun).bind fun r8 =>
      (wrL h_begun 2040 ((x4 + 17) + x2) r8).bind fun h_begun_9 =>
      nm (x4 + Int32.ofInt 17) fun x4_10 =>
      nm (x5 + Int32.ofInt 1) fun x5_11 =>
      (lp_X0_joinInside_44 g_size g_lengths g_symbols h_prices k97 n) x1 x2 x3 x4_10 x5_11 h_begun_9
    )
noncomputable def jn_X0_joinInside_40 (g_size : Int32) (g_lengths : Nat → Int32) (g_symbols : Nat → Int32) (h_prices : Nat → Int64) (k2 : (Int32) → (Int32) → (Int32) → (Nat → Int64) → Option ((Nat → Int64))) (x1 : Int32) (x2 : Int32) (x3 : Int32) (x4 : Int32) (s1 : Int32) (s2 : Int64) (h_begun : Nat → Int64) : Option ((Nat → Int64)) :=
  (wrL h_begun 2040 s1 s2).bind fun h_begun_4 =>
  nm (0 : Int32) fun x5_5 =>
  lp_X0_joinInside_44 g_size g_lengths g_symbols h_prices
    (fun x1 x2 x3 h_begun =>
    nm (x3 + Int32.ofInt 1) fun x3_12 =>
    k2 x1 x2 x3_12 h_begun)
    FU x1 x2 x3 x4 x5_5 h_begun_4
noncomputable def lp_X0_joinInside_2 (g_size : Int32) (g_lengths : Nat → Int32) (g_symbols : Nat → Int32) (h_prices : Nat → Int64) (k103 : (Nat → Int64) → Option ((Nat → Int64))) : Nat → (Int32) → (Int32) → (Int32) → (Nat → Int64) → Option ((Nat → Int64))
  | 0, _, _, _, _ => none
  | n + 1, x1, x2, x3, h_begun =>
    if g_size ≤ x3 then (
      k103 h_begun
    ) else (
      (f_X0_begunRow x3 0).bind fun r2 =>
      nm r2 fun x4_3 =>
      if x1 = x2 then (
        jn_X0_joinInside_40 g_size g_lengths g_symbols h_prices (lp_X0_joinInside_2 g_size g_lengths g_symbols h_prices k103 n) x1 x2 x3 x4_3 (x4_3 + x2) 0 h_begun
      ) else (
        jn_X0_joinInside_40 g_size g_lengths g_symbols h_prices (lp_X0_joinInside_2 g_size g_lengths g_symbols h_prices k103 n) x1 x2 x3 x4_3 (x4_3 + x2) 1152921504606846976 h_begun
      )
    )
noncomputable def f_X0_joinInside (a1 : Int32) (a2 : Int32) (g_size : Int32) (g_lengths : Nat → Int32) (g_symbols : Nat → Int32) (h_prices : Nat → Int64) (h_begun : Nat → Int64) : Option ((Nat → Int64)) :=
  nm (0 : Int32) fun x3_1 =>
  lp_X0_joinInside_2 g_size g_lengths g_symbols h_prices
    (fun h_begun =>
    some h_begun)
    FU a1 a2 x3_1 h_begun
noncomputable def lp_X0_extend_10 (g_lengths : Nat → Int32) (g_symbols : Nat → Int32) (h_prices : Nat → Int64) (k121 : (Int32) → (Int32) → (Nat → Int64) → Option (Int64 × (Nat → Int64))) : Nat → (Int32) → (Int32) → (Int32) → (Int32) → (Int32) → (Nat → Int64) → Option (Int64 × (Nat → Int64))
  | 0, _, _, _, _, _, _ => none
  | n + 1, x1, x2, x3, x4, x5, h_begun =>
    (rd g_lengths 20 x1).bind fun v4 =>
    if v4 ≤ x5 then (
      k121 x3 x4 h_begun
    ) else (
      (f_X2_symbolOf x1 x5 g_symbols).bind fun r5 =>
      nm r5 fun x6_6 =>
      (rd h_begun 2040 (x4 + x3)).bind fun v7 =>
      (f_X0_spot x6_6 x3 x3).bind fun r8 =>
      (rd h_prices 4046 r8).bind fun v9 =>
      nm (v7 + v9) fun x7_10 =>
      (rd h_begun 2040 (x4 + x2)).bind fun v11 =>
      (f_X0_spot x6_6 x2 x3).bind fun r12 =>
      (rd h_prices 4046 r12).bind fun v13 =>
      nm (v11 + v13) fun x9_14 =>
      nm (x4 + Int32.ofInt 17) fun x4_15 =>
      (rd h_begun 2040 (x4_15 + x3)).bind fun v16 =>
      nm (if x9_14 < x7_10 then x9_14 else x7_10) fun v17 =>
      nm (if v17 < v16 then v17 else v16) fun v18 =>
      (wrL h_begun 2040 (x4_15 + x3) v18).bind fun h_begun_19 =>
      nm (x5 + Int32.ofInt 1) fun x5_20 =>
      (lp_X0_extend_10 g_lengths g_symbols h_prices k121 n) x1 x2 x3 x4_15 x5_20 h_begun_19
    )
noncomputable def f_X0_extend (a1 : Int32) (a2 : Int32) (a3 : Int32) (g_lengths : Nat → Int32) (g_symbols : Nat → Int32) (h_prices : Nat → Int64) (h_begun : Nat → Int64) : Option (Int64 × (Nat → Int64)) :=
  (f_X0_begunRow a1 0).bind fun r1 =>
  nm r1 fun x4_2 =>
  nm (0 : Int32) fun x5_3 =>
  lp_X0_extend_10 g_lengths g_symbols h_prices
    (fun x3 x4 h_begun =>
    (rd h_begun 2040 (x4 + x3)).bind fun v21 =>
    some (v21, h_begun))
    FU a1 a2 a3 x4_2 x5_3 h_begun
noncomputable def jn_X0_settle_86 (g_size : Int32) (g_heads : Nat → Int32) (g_lengths : Nat → Int32) (g_symbols : Nat → Int32) (k21 : (Int32) → (Int32) → (Int32) → (Int32) → (Int32) → (Nat → Int64) → (Nat → Int64) → Option ((Nat → Int64) × (Nat → Int64))) (x1 : Int32) (x2 : Int32) (x3 : Int32) (x4 : Int32) (x5 : Int32) (h_prices : Nat → Int64) (h_begun : Nat → Int64) : Option ((Nat → Int64) × (Nat → Int64)) :=
  nm (x5 + Int32.ofInt 1) fun x5_11 =>
  k21 x1 x2 x3 x4 x5_11 h_prices h_begun
noncomputable def lp_X0_settle_21 (g_size : Int32) (g_heads : Nat → Int32) (g_lengths : Nat → Int32) (g_symbols : Nat → Int32) (k92 : (Int32) → (Int32) → (Int32) → (Int32) → (Nat → Int64) → (Nat → Int64) → Option ((Nat → Int64) × (Nat → Int64))) : Nat → (Int32) → (Int32) → (Int32) → (Int32) → (Int32) → (Nat → Int64) → (Nat → Int64) → Option ((Nat → Int64) × (Nat → Int64))
  | 0, _, _, _, _, _, _, _ => none
  | n + 1, x1, x2, x3, x4, x5, h_prices, h_begun =>
    if g_size ≤ x5 then (
      k92 x1 x2 x3 x4 h_prices h_begun
    ) else (
      (rd g_heads 20 x5).bind fun v5 =>
      (f_X0_spot v5 x1 x2).bind fun r6 =>
      nm r6 fun x6_7 =>
      (f_X0_extend x5 x1 x2 g_lengths g_symbols h_prices h_begun).bind fun r8 =>
      nm (r8.1 + 1) fun x7_9 =>
      (rd h_prices 4046 x6_7).bind fun v10 =>
      if 0 ≤ (lg_cmp x7_9 v10) then (
        jn_X0_settle_86 g_size g_heads g_lengths g_symbols (lp_X0_settle_21 g_size g_heads g_lengths g_symbols k92 n) x1 x2 x3 x4 x5 h_prices r8.2
      ) else (
        (wrL h_prices 4046 x6_7 x7_9).bind fun h_prices_12 =>
        nm (1 : Int32) fun x3_13 =>
        jn_X0_settle_86 g_size g_heads g_lengths g_symbols (lp_X0_settle_21 g_size g_heads g_lengths g_symbols k92 n) x1 x2 x3_13 x4 x5 h_prices_12 r8.2
      )
    )
noncomputable def lp_X0_settle_5 (g_size : Int32) (g_heads : Nat → Int32) (g_lengths : Nat → Int32) (g_symbols : Nat → Int32) (k98 : (Nat → Int64) → (Nat → Int64) → Option ((Nat → Int64) × (Nat → Int64))) : Nat → (Int32) → (Int32) → (Int32) → (Int32) → (Nat → Int64) → (Nat → Int64) → Option ((Nat → Int64) × (Nat → Int64))
  | 0, _, _, _, _, _, _ => none
  | n + 1, x1, x2, x3, x4, h_prices, h_begun =>
    if 6 < x4 then (
      k98 h_prices h_begun
    ) else (
      if x3 = 0 then (
        k98 h_prices h_begun
      ) else (
        nm (0 : Int32) fun x3_3 =>
        nm (0 : Int32) fun x5_4 =>
        lp_X0_settle_21 g_size g_heads g_lengths g_symbols
          (fun x1 x2 x3 x4 h_prices h_begun =>
          nm (x4 + Int32.ofInt 1) fun x4_14 =>
          (lp_X0_settle_5 g_size g_heads g_lengths g_symbols k98 n) x1 x2 x3 x4_14 h_prices h_begun)
          FU x1 x2 x3_3 x4 x5_4 h_prices h_begun
      )
    )
noncomputable def jn_X0_settle_98 (g_size : Int32) (g_heads : Nat → Int32) (g_lengths : Nat → Int32) (g_symbols : Nat → Int32)  (h_prices : Nat → Int64) (h_begun : Nat → Int64) : Option ((Nat → Int64) × (Nat → Int64)) :=
  some (h_prices, h_begun)
noncomputable def f_X0_settle (a1 : Int32) (a2 : Int32) (g_size : Int32) (g_heads : Nat → Int32) (g_lengths : Nat → Int32) (g_symbols : Nat → Int32) (h_prices : Nat → Int64) (h_begun : Nat → Int64) : Option ((Nat → Int64) × (Nat → Int64)) :=
  nm (1 : Int32) fun x3_1 =>
  nm (0 : Int32) fun x4_2 =>
  lp_X0_settle_5 g_size g_heads g_lengths g_symbols
    (fun h_prices h_begun =>
    jn_X0_settle_98 g_size g_heads g_lengths g_symbols h_prices h_begun)
    FU a1 a2 x3_1 x4_2 h_prices h_begun
noncomputable def jn_X0_choose_90 (g_size : Int32) (g_heads : Nat → Int32) (g_lengths : Nat → Int32) (h_prices : Nat → Int64) (h_begun : Nat → Int64) (k10 : (Int32) → (Int32) → (Int32) → (Nat → Int32) → Option ((Nat → Int32))) (x1 : Int32) (x2 : Int32) (x3 : Int32) (h_choices : Nat → Int32) : Option ((Nat → Int32)) :=
  nm (x3 + Int32.ofInt (-1)) fun x3_8 =>
  k10 x1 x2 x3_8 h_choices
noncomputable def lp_X0_choose_10 (g_size : Int32) (g_heads : Nat → Int32) (g_lengths : Nat → Int32) (h_prices : Nat → Int64) (h_begun : Nat → Int64) (k96 : (Nat → Int32) → Option ((Nat → Int32))) : Nat → (Int32) → (Int32) → (Int32) → (Nat → Int32) → Option ((Nat → Int32))
  | 0, _, _, _, _ => none
  | n + 1, x1, x2, x3, h_choices =>
    if x3 < 0 then (
      k96 h_choices
    ) else (
      (rd g_heads 20 x3).bind fun v2 =>
      nm v2 fun x4_3 =>
      (rd g_lengths 20 x3).bind fun v4 =>
      (f_X0_begunRow x3 v4).bind fun r5 =>
      (rd h_begun 2040 (r5 + x2)).bind fun v6 =>
      nm (v6 + 1) fun x5_7 =>
      if 0 ≤ (lg_cmp x5_7 1152921504606846976) then (
        jn_X0_choose_90 g_size g_heads g_lengths h_prices h_begun (lp_X0_choose_10 g_size g_heads g_lengths h_prices h_begun k96 n) x1 x2 x3 h_choices
      ) else (
        (f_X0_spot x4_3 x1 x2).bind fun r9 =>
        (rd h_prices 4046 r9).bind fun v10 =>
        if (lg_cmp x5_7 v10) = 0 then (
          (f_X0_choiceSpot x4_3 x1 x2).bind fun r11 =>
          (wrI h_choices 1734 r11 (vp_nar .byte x3.toInt8.toInt32)).bind fun h_choices_12 =>
          jn_X0_choose_90 g_size g_heads g_lengths h_prices h_begun (lp_X0_choose_10 g_size g_heads g_lengths h_prices h_begun k96 n) x1 x2 x3 h_choices_12
        ) else (
          jn_X0_choose_90 g_size g_heads g_lengths h_prices h_begun (lp_X0_choose_10 g_size g_heads g_lengths h_prices h_begun k96 n) x1 x2 x3 h_choices
        )
      )
    )
noncomputable def f_X0_choose (a1 : Int32) (a2 : Int32) (g_size : Int32) (g_heads : Nat → Int32) (g_lengths : Nat → Int32) (h_prices : Nat → Int64) (h_begun : Nat → Int64) (h_choices : Nat → Int32) : Option ((Nat → Int32)) :=
  nm (g_size - 1) fun x3_1 =>
  lp_X0_choose_10 g_size g_heads g_lengths h_prices h_begun
    (fun h_choices =>
    some h_choices)
    FU a1 a2 x3_1 h_choices
noncomputable def lp_X0_fill_18 (g_size : Int32) (g_heads : Nat → Int32) (g_lengths : Nat → Int32) (g_symbols : Nat → Int32) (c_size : Int32) (c_signs : Nat → Int32) (k59 : (Int32) → (Nat → Int64) → (Nat → Int32) → (Nat → Int64) → Option ((Nat → Int64) × (Nat → Int32) × (Nat → Int64))) : Nat → (Int32) → (Int32) → (Nat → Int64) → (Nat → Int32) → (Nat → Int64) → Option ((Nat → Int64) × (Nat → Int32) × (Nat → Int64))
  | 0, _, _, _, _, _ => none
  | n + 1, x1, x2, h_prices, h_choices, h_begun =>
    if c_size < x2 then (
      k59 x1 h_prices h_choices h_begun
    ) else (
      (f_X0_forget x1 x2 h_prices h_choices).bind fun r4 =>
      (f_X0_joinInside x1 x2 g_size g_lengths g_symbols r4.1 h_begun).bind fun r5 =>
      (f_X0_settle x1 x2 g_size g_heads g_lengths g_symbols r4.1 r5).bind fun r6 =>
      (f_X0_choose x1 x2 g_size g_heads g_lengths r6.1 r6.2 r4.2).bind fun r7 =>
      nm (x2 + Int32.ofInt 1) fun x2_8 =>
      (lp_X0_fill_18 g_size g_heads g_lengths g_symbols c_size c_signs k59 n) x1 x2_8 r6.1 r7 r6.2
    )
noncomputable def lp_X0_fill_12 (g_size : Int32) (g_heads : Nat → Int32) (g_lengths : Nat → Int32) (g_symbols : Nat → Int32) (c_size : Int32) (c_signs : Nat → Int32) (k65 : (Nat → Int64) → (Nat → Int32) → (Nat → Int64) → Option ((Nat → Int64) × (Nat → Int32) × (Nat → Int64))) : Nat → (Int32) → (Nat → Int64) → (Nat → Int32) → (Nat → Int64) → Option ((Nat → Int64) × (Nat → Int32) × (Nat → Int64))
  | 0, _, _, _, _ => none
  | n + 1, x1, h_prices, h_choices, h_begun =>
    if x1 < 0 then (
      k65 h_prices h_choices h_begun
    ) else (
      nm x1 fun x2_3 =>
      lp_X0_fill_18 g_size g_heads g_lengths g_symbols c_size c_signs
        (fun x1 h_prices h_choices h_begun =>
        nm (x1 + Int32.ofInt (-1)) fun x1_9 =>
        (lp_X0_fill_12 g_size g_heads g_lengths g_symbols c_size c_signs k65 n) x1_9 h_prices h_choices h_begun)
        FU x1 x2_3 h_prices h_choices h_begun
    )
noncomputable def f_X0_fill (g_size : Int32) (g_heads : Nat → Int32) (g_lengths : Nat → Int32) (g_symbols : Nat → Int32) (c_size : Int32) (c_signs : Nat → Int32) (h_prices : Nat → Int64) (h_choices : Nat → Int32) (h_begun : Nat → Int64) : Option ((Nat → Int64) × (Nat → Int32) × (Nat → Int64)) :=
  (f_X0_priceLeaves c_size c_signs h_prices).bind fun r1 =>
  nm c_size fun x1_2 =>
  lp_X0_fill_12 g_size g_heads g_lengths g_symbols c_size c_signs
    (fun h_prices h_choices h_begun =>
    some (h_prices, h_choices, h_begun))
    FU x1_2 r1 h_choices h_begun
noncomputable def f_X0_ruleFor (a1 : Int32) (a2 : Int32) (a3 : Int32) (h_choices : Nat → Int32) : Option (Int32) :=
  (f_X0_choiceSpot a1 a2 a3).bind fun r1 =>
  (rd h_choices 1734 r1).bind fun v2 =>
  some v2
noncomputable def f_X0_costOf (a1 : Int32) (a2 : Int32) (a3 : Int32) (h_prices : Nat → Int64) : Option (Int32) :=
  (f_X0_spot a1 a2 a3).bind fun r1 =>
  (rd h_prices 4046 r1).bind fun v2 =>
  some ((v2 >>> ((32 : Int32).toInt64 &&& 63)).toInt32)
noncomputable def jn_X0_treeEnd_64 (c_size : Int32) (h_prices : Nat → Int64) (k9 : (Int64) → (Int32) → (Int32) → Option (Int32)) (x1 : Int64) (x3 : Int32) (x4 : Int32) : Option (Int32) :=
  nm (x4 + Int32.ofInt 1) fun x4_7 =>
  k9 x1 x3 x4_7
noncomputable def lp_X0_treeEnd_9 (c_size : Int32) (h_prices : Nat → Int64) (k70 : (Int32) → Option (Int32)) : Nat → (Int64) → (Int32) → (Int32) → Option (Int32)
  | 0, _, _, _ => none
  | n + 1, x1, x3, x4 =>
    if c_size < x4 then (
      k70 x3
    ) else (
      (f_X0_spot 9 0 x4).bind fun r4 =>
      (rd h_prices 4046 r4).bind fun v5 =>
      nm (v5 + (((c_size - x4).toInt64) <<< ((32 : Int32).toInt64 &&& 63))) fun x5_6 =>
      if 0 < (lg_cmp x5_6 x1) then (
        jn_X0_treeEnd_64 c_size h_prices (lp_X0_treeEnd_9 c_size h_prices k70 n) x1 x3 x4
      ) else (
        nm x5_6 fun x1_8 =>
        nm x4 fun x3_9 =>
        jn_X0_treeEnd_64 c_size h_prices (lp_X0_treeEnd_9 c_size h_prices k70 n) x1_8 x3_9 x4
      )
    )
noncomputable def f_X0_treeEnd (c_size : Int32) (h_prices : Nat → Int64) : Option (Int32) :=
  nm (1152921504606846976 : Int64) fun x1_1 =>
  nm (0 : Int32) fun x3_2 =>
  nm (0 : Int32) fun x4_3 =>
  lp_X0_treeEnd_9 c_size h_prices
    (fun x3 =>
    some x3)
    FU x1_1 x3_2 x4_3
noncomputable def jn_X0_trace_28 (g_lengths : Nat → Int32) (g_symbols : Nat → Int32) (h_prices : Nat → Int64) (k3 : (Int32) → (Int32) → (Int32) → (Int32) → (Nat → Int64) → Option ((Nat → Int64))) (x1 : Int32) (x2 : Int32) (x3 : Int32) (x4 : Int32) (s1 : Int32) (s2 : Int64) (h_traced : Nat → Int64) : Option ((Nat → Int64)) :=
  (wrL h_traced 102 s1 s2).bind fun h_traced_2 =>
  nm (x4 + Int32.ofInt 1) fun x4_3 =>
  k3 x1 x2 x3 x4_3 h_traced_2
noncomputable def lp_X0_trace_3 (g_lengths : Nat → Int32) (g_symbols : Nat → Int32) (h_prices : Nat → Int64) (k35 : (Int32) → (Int32) → (Int32) → (Nat → Int64) → Option ((Nat → Int64))) : Nat → (Int32) → (Int32) → (Int32) → (Int32) → (Nat → Int64) → Option ((Nat → Int64))
  | 0, _, _, _, _, _ => none
  | n + 1, x1, x2, x3, x4, h_traced =>
    if x3 < x4 then (
      k35 x1 x2 x3 h_traced
    ) else (
      if x4 = x2 then (
        jn_X0_trace_28 g_lengths g_symbols h_prices (lp_X0_trace_3 g_lengths g_symbols h_prices k35 n) x1 x2 x3 x4 x4 0 h_traced
      ) else (
        jn_X0_trace_28 g_lengths g_symbols h_prices (lp_X0_trace_3 g_lengths g_symbols h_prices k35 n) x1 x2 x3 x4 x4 1152921504606846976 h_traced
      )
    )
noncomputable def lp_X0_trace_88 (g_lengths : Nat → Int32) (g_symbols : Nat → Int32) (h_prices : Nat → Int64) (k133 : (Int32) → (Int32) → (Int32) → (Int32) → (Int32) → (Int32) → (Int32) → (Int64) → (Nat → Int64) → Option ((Nat → Int64))) : Nat → (Int32) → (Int32) → (Int32) → (Int32) → (Int32) → (Int32) → (Int32) → (Int64) → (Int32) → (Nat → Int64) → Option ((Nat → Int64))
  | 0, _, _, _, _, _, _, _, _, _, _ => none
  | n + 1, x1, x2, x3, x4, x5, x6, x7, x8, x10, h_traced =>
    if x7 < x10 then (
      k133 x1 x2 x3 x4 x5 x6 x7 x8 h_traced
    ) else (
      (rd h_traced 102 (x6 + x10)).bind fun v12 =>
      (f_X0_spot x5 x10 x7).bind fun r13 =>
      (rd h_prices 4046 r13).bind fun v14 =>
      nm (if (v12 + v14) < x8 then (v12 + v14) else x8) fun v15 =>
      nm v15 fun x8_16 =>
      nm (x10 + Int32.ofInt 1) fun x10_17 =>
      (lp_X0_trace_88 g_lengths g_symbols h_prices k133 n) x1 x2 x3 x4 x5 x6 x7 x8_16 x10_17 h_traced
    )
noncomputable def lp_X0_trace_74 (g_lengths : Nat → Int32) (g_symbols : Nat → Int32) (h_prices : Nat → Int64) (k154 : (Int32) → (Int32) → (Int32) → (Int32) → (Nat → Int64) → Option ((Nat → Int64))) : Nat → (Int32) → (Int32) → (Int32) → (Int32) → (Int32) → (Int32) → (Int32) → (Nat → Int64) → Option ((Nat → Int64))
  | 0, _, _, _, _, _, _, _, _ => none
  | n + 1, x1, x2, x3, x4, x5, x6, x7, h_traced =>
    if x3 < x7 then (
      k154 x1 x2 x3 x4 h_traced
    ) else (
      nm (1152921504606846976 : Int64) fun x8_10 =>
      nm x2 fun x10_11 =>
      lp_X0_trace_88 g_lengths g_symbols h_prices
        (fun x1 x2 x3 x4 x5 x6 x7 x8 h_traced =>
        (wrL h_traced 102 ((x6 + 17) + x7) x8).bind fun h_traced_18 =>
        nm (x7 + Int32.ofInt 1) fun x7_19 =>
        (lp_X0_trace_74 g_lengths g_symbols h_prices k154 n) x1 x2 x3 x4 x5 x6 x7_19 h_traced_18)
        FU x1 x2 x3 x4 x5 x6 x7 x8_10 x10_11 h_traced
    )
noncomputable def lp_X0_trace_38 (g_lengths : Nat → Int32) (g_symbols : Nat → Int32) (h_prices : Nat → Int64) (k160 : (Nat → Int64) → Option ((Nat → Int64))) : Nat → (Int32) → (Int32) → (Int32) → (Int32) → (Nat → Int64) → Option ((Nat → Int64))
  | 0, _, _, _, _, _ => none
  | n + 1, x1, x2, x3, x4, h_traced =>
    (rd g_lengths 20 x1).bind fun v5 =>
    if v5 ≤ x4 then (
      k160 h_traced
    ) else (
      (f_X2_symbolOf x1 x4 g_symbols).bind fun r6 =>
      nm r6 fun x5_7 =>
      nm (x4 * 17) fun x6_8 =>
      nm x2 fun x7_9 =>
      lp_X0_trace_74 g_lengths g_symbols h_prices
        (fun x1 x2 x3 x4 h_traced =>
        nm (x4 + Int32.ofInt 1) fun x4_20 =>
        (lp_X0_trace_38 g_lengths g_symbols h_prices k160 n) x1 x2 x3 x4_20 h_traced)
        FU x1 x2 x3 x4 x5_7 x6_8 x7_9 h_traced
    )
noncomputable def f_X0_trace (a1 : Int32) (a2 : Int32) (a3 : Int32) (g_lengths : Nat → Int32) (g_symbols : Nat → Int32) (h_prices : Nat → Int64) (h_traced : Nat → Int64) : Option ((Nat → Int64)) :=
  nm a2 fun x4_1 =>
  lp_X0_trace_3 g_lengths g_symbols h_prices
    (fun x1 x2 x3 h_traced =>
    nm (0 : Int32) fun x4_4 =>
    lp_X0_trace_38 g_lengths g_symbols h_prices
      (fun h_traced =>
      some h_traced)
      FU x1 x2 x3 x4_4 h_traced)
    FU a1 a2 a3 x4_1 h_traced
noncomputable def lp_X0_split_66 (g_lengths : Nat → Int32) (g_symbols : Nat → Int32) (h_prices : Nat → Int64) (k109 : (Int32) → (Int32) → (Int32) → (Int32) → (Nat → Int64) → (Nat → Int32) → Option ((Nat → Int64) × (Nat → Int32))) : Nat → (Int32) → (Int32) → (Int32) → (Int32) → (Int32) → (Int32) → (Int64) → (Int32) → (Nat → Int64) → (Nat → Int32) → Option ((Nat → Int64) × (Nat → Int32))
  | 0, _, _, _, _, _, _, _, _, _, _ => none
  | n + 1, x1, x2, x5, x6, x7, x8, x9, x11, h_traced, t_begins =>
    if x11 ≤ x2 then (
      k109 x1 x2 x6 x11 h_traced t_begins
    ) else (
      (rd h_traced 102 (x8 + x11)).bind fun v11 =>
      (f_X0_spot x7 x11 x5).bind fun r12 =>
      (rd h_prices 4046 r12).bind fun v13 =>
      if (lg_cmp (v11 + v13) x9) = 0 then (
        k109 x1 x2 x6 x11 h_traced t_begins
      ) else (
        nm (x11 + Int32.ofInt (-1)) fun x11_14 =>
        (lp_X0_split_66 g_lengths g_symbols h_prices k109 n) x1 x2 x5 x6 x7 x8 x9 x11_14 h_traced t_begins
      )
    )
noncomputable def jn_X0_split_109 (g_lengths : Nat → Int32) (g_symbols : Nat → Int32) (h_prices : Nat → Int64) (k23 : (Int32) → (Int32) → (Int32) → (Int32) → (Nat → Int64) → (Nat → Int32) → Option ((Nat → Int64) × (Nat → Int32))) (x1 : Int32) (x2 : Int32) (x6 : Int32) (x11 : Int32) (h_traced : Nat → Int64) (t_begins : Nat → Int32) : Option ((Nat → Int64) × (Nat → Int32)) :=
  (wrI t_begins 5 x6 x11).bind fun t_begins_15 =>
  nm x11 fun x5_16 =>
  nm (x6 + Int32.ofInt (-1)) fun x6_17 =>
  k23 x1 x2 x5_16 x6_17 h_traced t_begins_15
noncomputable def lp_X0_split_23 (g_lengths : Nat → Int32) (g_symbols : Nat → Int32) (h_prices : Nat → Int64) (k126 : (Nat → Int64) → (Nat → Int32) → Option ((Nat → Int64) × (Nat → Int32))) : Nat → (Int32) → (Int32) → (Int32) → (Int32) → (Nat → Int64) → (Nat → Int32) → Option ((Nat → Int64) × (Nat → Int32))
  | 0, _, _, _, _, _, _ => none
  | n + 1, x1, x2, x5, x6, h_traced, t_begins =>
    if x6 < 0 then (
      k126 h_traced t_begins
    ) else (
      (f_X2_symbolOf x1 x6 g_symbols).bind fun r5 =>
      nm r5 fun x7_6 =>
      nm (x6 * 17) fun x8_7 =>
      (rd h_traced 102 ((x8_7 + 17) + x5)).bind fun v8 =>
      nm v8 fun x9_9 =>
      nm x5 fun x11_10 =>
      lp_X0_split_66 g_lengths g_symbols h_prices
        (fun x1 x2 x6 x11 h_traced t_begins =>
        jn_X0_split_109 g_lengths g_symbols h_prices (lp_X0_split_23 g_lengths g_symbols h_prices k126 n) x1 x2 x6 x11 h_traced t_begins)
        FU x1 x2 x5 x6 x7_6 x8_7 x9_9 x11_10 h_traced t_begins
    )
noncomputable def f_X0_split (a1 : Int32) (a2 : Int32) (a3 : Int32) (g_lengths : Nat → Int32) (g_symbols : Nat → Int32) (h_prices : Nat → Int64) (h_traced : Nat → Int64) (t_begins : Nat → Int32) : Option ((Nat → Int64) × (Nat → Int32)) :=
  (f_X0_trace a1 a2 a3 g_lengths g_symbols h_prices h_traced).bind fun r1 =>
  nm a3 fun x5_2 =>
  (rd g_lengths 20 a1).bind fun v3 =>
  nm (v3 - 1) fun x6_4 =>
  lp_X0_split_23 g_lengths g_symbols h_prices
    (fun h_traced t_begins =>
    some (h_traced, t_begins))
    FU a1 a2 x5_2 x6_4 r1 t_begins
noncomputable def f_X4_cell (a1 : Int32) (a2 : Int32) (t_cells : Nat → Int32) : Option (Int32) :=
  (rd t_cells 1050 ((a1 * 7) + a2)).bind fun v1 =>
  some v1
noncomputable def jn_X4_isLeaf_15 (t_cells : Nat → Int32)  (s0 : Int32) : Option (Int32) :=
  (zc s0).bind fun v2 => some v2
noncomputable def f_X4_isLeaf (a1 : Int32) (t_cells : Nat → Int32) : Option (Int32) :=
  (f_X4_cell a1 0 t_cells).bind fun r1 =>
  if r1 = ((-1)) then (
    jn_X4_isLeaf_15 t_cells 1
  ) else (
    jn_X4_isLeaf_15 t_cells 0
  )
noncomputable def f_X4_drop (t_size : Int32) (t_skipped : Int32) : Option ((Int32) × (Int32)) :=
  some (0, 0)
noncomputable def f_X4_await (a1 : Int32) (a2 : Int32) (a3 : Int32) (a4 : Int32) (a5 : Int32) (t_size : Int32) (t_waiting : Int32) (t_waitSymbols : Nat → Int32) (t_waitParents : Nat → Int32) (t_waitFirsts : Nat → Int32) (t_waitEnds : Nat → Int32) (t_waitHints : Nat → Int32) : Option (Int32 × (Int32) × (Nat → Int32) × (Nat → Int32) × (Nat → Int32) × (Nat → Int32) × (Nat → Int32)) :=
  if (t_size + t_waiting) < 150 then (
    (wrI t_waitSymbols 150 t_waiting a1).bind fun t_waitSymbols_1 =>
    (wrI t_waitParents 150 t_waiting a2).bind fun t_waitParents_2 =>
    (wrI t_waitFirsts 150 t_waiting a3).bind fun t_waitFirsts_3 =>
    (wrI t_waitEnds 150 t_waiting a4).bind fun t_waitEnds_4 =>
    (wrI t_waitHints 150 t_waiting a5).bind fun t_waitHints_5 =>
    (zc 1).bind fun v7 => some (v7, ((t_waiting + 1)), t_waitSymbols_1, t_waitParents_2, t_waitFirsts_3, t_waitEnds_4, t_waitHints_5)
  ) else (
    (zc 0).bind fun v8 => some (v8, t_waiting, t_waitSymbols, t_waitParents, t_waitFirsts, t_waitEnds, t_waitHints)
  )
noncomputable def jn_X4_placeNode_30 (g_lengths : Nat → Int32) (g_symbols : Nat → Int32) (g_hints : Nat → Int32) (h_prices : Nat → Int64) (h_choices : Nat → Int32) (t_size : Int32) (t_within : Nat → Int32)  (h_traced : Nat → Int64) (t_waiting : Int32) (t_cells : Nat → Int32) (t_begins : Nat → Int32) (t_waitSymbols : Nat → Int32) (t_waitParents : Nat → Int32) (t_waitFirsts : Nat → Int32) (t_waitEnds : Nat → Int32) (t_waitHints : Nat → Int32) : Option (Int32 × (Nat → Int64) × (Int32) × (Nat → Int32) × (Nat → Int32) × (Nat → Int32) × (Nat → Int32) × (Nat → Int32) × (Nat → Int32) × (Nat → Int32)) :=
  (zc 0).bind fun v3 => some (v3, h_traced, t_waiting, t_cells, t_begins, t_waitSymbols, t_waitParents, t_waitFirsts, t_waitEnds, t_waitHints)
noncomputable def lp_X4_placeNode_100 (g_lengths : Nat → Int32) (g_symbols : Nat → Int32) (g_hints : Nat → Int32) (h_prices : Nat → Int64) (h_choices : Nat → Int32) (t_size : Int32) (t_within : Nat → Int32) (k167 : (Int32) → (Nat → Int64) → (Int32) → (Nat → Int32) → (Nat → Int32) → (Nat → Int32) → (Nat → Int32) → (Nat → Int32) → (Nat → Int32) → (Nat → Int32) → Option (Int32 × (Nat → Int64) × (Int32) × (Nat → Int32) × (Nat → Int32) × (Nat → Int32) × (Nat → Int32) × (Nat → Int32) × (Nat → Int32) × (Nat → Int32))) : Nat → (Int32) → (Int32) → (Int32) → (Int32) → (Int32) → (Nat → Int64) → (Int32) → (Nat → Int32) → (Nat → Int32) → (Nat → Int32) → (Nat → Int32) → (Nat → Int32) → (Nat → Int32) → (Nat → Int32) → Option (Int32 × (Nat → Int64) × (Int32) × (Nat → Int32) × (Nat → Int32) × (Nat → Int32) × (Nat → Int32) × (Nat → Int32) × (Nat → Int32) × (Nat → Int32))
  | 0, _, _, _, _, _, _, _, _, _, _, _, _, _, _ => none
  | n + 1, x1, x5, x7, x8, x9, h_traced, t_waiting, t_cells, t_begins, t_waitSymbols, t_waitParents, t_waitFirsts, t_waitEnds, t_waitHints =>
    if x9 < 0 then (
      k167 x7 h_traced t_waiting t_cells t_begins t_waitSymbols t_waitParents t_waitFirsts t_waitEnds t_waitHints
    ) else (
      if x7 = 0 then (
        k167 x7 h_traced t_waiting t_cells t_begins t_waitSymbols t_waitParents t_waitFirsts t_waitEnds t_waitHints
      ) else (
        (f_X2_hintOf x5 x9 g_hints).bind fun r13 =>
        nm r13 fun x10_14 =>
        (f_X2_symbolOf x5 x9 g_symbols).bind fun r15 =>
        (rd t_begins 5 x9).bind fun v16 =>
        (f_X4_await r15 x1 v16 x8 x10_14 t_size t_waiting t_waitSymbols t_waitParents t_waitFirsts t_waitEnds t_waitHints).bind fun r17 =>
        nm r17.1 fun x7_18 =>
        (rd t_begins 5 x9).bind fun v19 =>
        nm v19 fun x8_20 =>
        nm (x9 + Int32.ofInt (-1)) fun x9_21 =>
        (lp_X4_placeNode_100 g_lengths g_symbols g_hints h_prices h_choices t_size t_within k167 n) x1 x5 x7_18 x8_20 x9_21 h_traced r17.2.1 t_cells t_begins r17.2.2.1 r17.2.2.2.1 r17.2.2.2.2.1 r17.2.2.2.2.2.1 r17.2.2.2.2.2.2
      )
    )
noncomputable def jn_X4_placeNode_167 (g_lengths : Nat → Int32) (g_symbols : Nat → Int32) (g_hints : Nat → Int32) (h_prices : Nat → Int64) (h_choices : Nat → Int32) (t_size : Int32) (t_within : Nat → Int32)  (x7 : Int32) (h_traced : Nat → Int64) (t_waiting : Int32) (t_cells : Nat → Int32) (t_begins : Nat → Int32) (t_waitSymbols : Nat → Int32) (t_waitParents : Nat → Int32) (t_waitFirsts : Nat → Int32) (t_waitEnds : Nat → Int32) (t_waitHints : Nat → Int32) : Option (Int32 × (Nat → Int64) × (Int32) × (Nat → Int32) × (Nat → Int32) × (Nat → Int32) × (Nat → Int32) × (Nat → Int32) × (Nat → Int32) × (Nat → Int32)) :=
  (zc x7).bind fun v22 => some (v22, h_traced, t_waiting, t_cells, t_begins, t_waitSymbols, t_waitParents, t_waitFirsts, t_waitEnds, t_waitHints)
noncomputable def f_X4_placeNode (a1 : Int32) (a2 : Int32) (a3 : Int32) (a4 : Int32) (g_lengths : Nat → Int32) (g_symbols : Nat → Int32) (g_hints : Nat → Int32) (h_prices : Nat → Int64) (h_choices : Nat → Int32) (t_size : Int32) (t_within : Nat → Int32) (h_traced : Nat → Int64) (t_waiting : Int32) (t_cells : Nat → Int32) (t_begins : Nat → Int32) (t_waitSymbols : Nat → Int32) (t_waitParents : Nat → Int32) (t_waitFirsts : Nat → Int32) (t_waitEnds : Nat → Int32) (t_waitHints : Nat → Int32) : Option (Int32 × (Nat → Int64) × (Int32) × (Nat → Int32) × (Nat → Int32) × (Nat → Int32) × (Nat → Int32) × (Nat → Int32) × (Nat → Int32) × (Nat → Int32)) :=
  (f_X0_ruleFor a2 a3 a4 h_choices).bind fun r1 =>
  nm r1 fun x5_2 =>
  if x5_2 = ((-1)) then (
    jn_X4_placeNode_30 g_lengths g_symbols g_hints h_prices h_choices t_size t_within h_traced t_waiting t_cells t_begins t_waitSymbols t_waitParents t_waitFirsts t_waitEnds t_waitHints
  ) else (
    (rd t_within 150 a1).bind fun v4 =>
    if v4 ≤ 36 then (
      (rd g_lengths 20 x5_2).bind fun v5 =>
      nm v5 fun x6_6 =>
      (wrI t_cells 1050 ((a1 * 7) + 0) x5_2).bind fun t_cells_7 =>
      (wrI t_cells_7 1050 ((a1 * 7) + 6) x6_6).bind fun t_cells_8 =>
      (f_X0_split x5_2 a3 a4 g_lengths g_symbols h_prices h_traced t_begins).bind fun r9 =>
      nm (1 : Int32) fun x7_10 =>
      nm a4 fun x8_11 =>
      nm (x6_6 - 1) fun x9_12 =>
      lp_X4_placeNode_100 g_lengths g_symbols g_hints h_prices h_choices t_size t_within
        (fun x7 h_traced t_waiting t_cells t_begins t_waitSymbols t_waitParents t_waitFirsts t_waitEnds t_waitHints =>
        jn_X4_placeNode_167 g_lengths g_symbols g_hints h_prices h_choices t_size t_within x7 h_traced t_waiting t_cells t_begins t_waitSymbols t_waitParents t_waitFirsts t_waitEnds t_waitHints)
        FU a1 x5_2 x7_10 x8_11 x9_12 r9.1 t_waiting t_cells_8 r9.2 t_waitSymbols t_waitParents t_waitFirsts t_waitEnds t_waitHints
    ) else (
      jn_X4_placeNode_30 g_lengths g_symbols g_hints h_prices h_choices t_size t_within h_traced t_waiting t_cells t_begins t_waitSymbols t_waitParents t_waitFirsts t_waitEnds t_waitHints
    )
  )
noncomputable def jn_X4_leafState_28 (t_cells : Nat → Int32)  (s0 : Int32) : Option (Int32) :=
  some s0
noncomputable def f_X4_leafState (a1 : Int32) (t_cells : Nat → Int32) : Option (Int32) :=
  (f_X4_cell a1 4 t_cells).bind fun r1 =>
  nm r1 fun x2_2 =>
  if x2_2 = 0 then (
    some 2
  ) else (
    (f_X4_cell a1 5 t_cells).bind fun r3 =>
    if r3 = x2_2 then (
      jn_X4_leafState_28 t_cells 1
    ) else (
      jn_X4_leafState_28 t_cells 0
    )
  )
noncomputable def jn_X4_placeNext_17 (g_lengths : Nat → Int32) (g_symbols : Nat → Int32) (g_hints : Nat → Int32) (h_prices : Nat → Int64) (h_choices : Nat → Int32)  (h_traced : Nat → Int64) (t_waiting : Int32) (t_size : Int32) (t_cells : Nat → Int32) (t_hints : Nat → Int32) (t_within : Nat → Int32) (t_begins : Nat → Int32) (t_waitSymbols : Nat → Int32) (t_waitParents : Nat → Int32) (t_waitFirsts : Nat → Int32) (t_waitEnds : Nat → Int32) (t_waitHints : Nat → Int32) : Option (Int32 × (Nat → Int64) × (Int32) × (Int32) × (Nat → Int32) × (Nat → Int32) × (Nat → Int32) × (Nat → Int32) × (Nat → Int32) × (Nat → Int32) × (Nat → Int32) × (Nat → Int32) × (Nat → Int32)) :=
  (zc 0).bind fun v1 => some (v1, h_traced, t_waiting, t_size, t_cells, t_hints, t_within, t_begins, t_waitSymbols, t_waitParents, t_waitFirsts, t_waitEnds, t_waitHints)
noncomputable def jn_X4_placeNext_195 (g_lengths : Nat → Int32) (g_symbols : Nat → Int32) (g_hints : Nat → Int32) (h_prices : Nat → Int64) (h_choices : Nat → Int32)  (x1 : Int32) (x2 : Int32) (x4 : Int32) (x5 : Int32) (x6 : Int32) (s1 : Int32) (s2 : Int32) (h_traced : Nat → Int64) (t_waiting : Int32) (t_size : Int32) (t_cells : Nat → Int32) (t_hints : Nat → Int32) (t_within : Nat → Int32) (t_begins : Nat → Int32) (t_waitSymbols : Nat → Int32) (t_waitParents : Nat → Int32) (t_waitFirsts : Nat → Int32) (t_waitEnds : Nat → Int32) (t_waitHints : Nat → Int32) : Option (Int32 × (Nat → Int64) × (Int32) × (Int32) × (Nat → Int32) × (Nat → Int32) × (Nat → Int32) × (Nat → Int32) × (Nat → Int32) × (Nat → Int32) × (Nat → Int32) × (Nat → Int32) × (Nat → Int32)) :=
  (wrI t_within 150 s1 s2).bind fun t_within_22 =>
  (f_X5_isKind x2).bind fun r23 =>
  if r23 = 0 then (
    (wrI t_cells 1050 (x6 + 0) ((-1))).bind fun t_cells_24 =>
    (f_X4_leafState x1 t_cells_24).bind fun r25 =>
    (wrI t_cells_24 1050 (x6 + 6) r25).bind fun t_cells_26 =>
    (zc 1).bind fun v27 => some (v27, h_traced, t_waiting, t_size, t_cells_26, t_hints, t_within_22, t_begins, t_waitSymbols, t_waitParents, t_waitFirsts, t_waitEnds, t_waitHints)
  ) else (
    (f_X4_placeNode x1 x2 x4 x5 g_lengths g_symbols g_hints h_prices h_choices t_size t_within_22 h_traced t_waiting t_cells t_begins t_waitSymbols t_waitParents t_waitFirsts t_waitEnds t_waitHints).bind fun r28 =>
    (zc r28.1).bind fun v29 => some (v29, r28.2.1, r28.2.2.1, t_size, r28.2.2.2.1, t_hints, t_within_22, r28.2.2.2.2.1, r28.2.2.2.2.2.1, r28.2.2.2.2.2.2.1, r28.2.2.2.2.2.2.2.1, r28.2.2.2.2.2.2.2.2.1, r28.2.2.2.2.2.2.2.2.2)
  )
noncomputable def f_X4_placeNext (g_lengths : Nat → Int32) (g_symbols : Nat → Int32) (g_hints : Nat → Int32) (h_prices : Nat → Int64) (h_choices : Nat → Int32) (h_traced : Nat → Int64) (t_waiting : Int32) (t_size : Int32) (t_cells : Nat → Int32) (t_hints : Nat → Int32) (t_within : Nat → Int32) (t_begins : Nat → Int32) (t_waitSymbols : Nat → Int32) (t_waitParents : Nat → Int32) (t_waitFirsts : Nat → Int32) (t_waitEnds : Nat → Int32) (t_waitHints : Nat → Int32) : Option (Int32 × (Nat → Int64) × (Int32) × (Int32) × (Nat → Int32) × (Nat → Int32) × (Nat → Int32) × (Nat → Int32) × (Nat → Int32) × (Nat → Int32) × (Nat → Int32) × (Nat → Int32) × (Nat → Int32)) :=
  if t_waiting ≤ 0 then (
    jn_X4_placeNext_17 g_lengths g_symbols g_hints h_prices h_choices h_traced t_waiting t_size t_cells t_hints t_within t_begins t_waitSymbols t_waitParents t_waitFirsts t_waitEnds t_waitHints
  ) else (
    if t_size < 150 then (
      nm t_size fun x1_3 =>
      (rd t_waitSymbols 150 ((t_waiting - 1))).bind fun v4 =>
      nm v4 fun x2_5 =>
      (rd t_waitParents 150 ((t_waiting - 1))).bind fun v6 =>
      nm v6 fun x3_7 =>
      (rd t_waitFirsts 150 ((t_waiting - 1))).bind fun v8 =>
      nm v8 fun x4_9 =>
      (rd t_waitEnds 150 ((t_waiting - 1))).bind fun v10 =>
      nm v10 fun x5_11 =>
      nm (x1_3 * 7) fun x6_13 =>
      (wrI t_cells 1050 (x6_13 + 1) x2_5).bind fun t_cells_14 =>
      (wrI t_cells_14 1050 (x6_13 + 2) x3_7).bind fun t_cells_15 =>
      (wrI t_cells_15 1050 (x6_13 + 3) x4_9).bind fun t_cells_16 =>
      (wrI t_cells_16 1050 (x6_13 + 4) (x5_11 - x4_9)).bind fun t_cells_17 =>
      (f_X0_costOf x2_5 x4_9 x5_11 h_prices).bind fun r18 =>
      (wrI t_cells_17 1050 (x6_13 + 5) r18).bind fun t_cells_19 =>
      (rd t_waitHints 150 ((t_waiting - 1))).bind fun v20 =>
      (wrI t_hints 150 x1_3 v20).bind fun t_hints_21 =>
      if x3_7 = ((-1)) then (
        jn_X4_placeNext_195 g_lengths g_symbols g_hints h_prices h_choices x1_3 x2_5 x4_9 x5_11 x6_13 x1_3 0 h_traced ((t_waiting - 1)) ((t_size + 1)) t_cells_19 t_hints_21 t_within t_begins t_waitSymbols t_waitParents t_waitFirsts t_waitEnds t_waitHints
      ) else (
        (rd t_within 150 x3_7).bind fun v30 =>
        jn_X4_placeNext_195 g_lengths g_symbols g_hints h_prices h_choices x1_3 x2_5 x4_9 x5_11 x6_13 x1_3 (v30 + 1) h_traced ((t_waiting - 1)) ((t_size + 1)) t_cells_19 t_hints_21 t_within t_begins t_waitSymbols t_waitParents t_waitFirsts t_waitEnds t_waitHints
      )
    ) else (
      jn_X4_placeNext_17 g_lengths g_symbols g_hints h_prices h_choices h_traced t_waiting t_size t_cells t_hints t_within t_begins t_waitSymbols t_waitParents t_waitFirsts t_waitEnds t_waitHints
    )
  )
noncomputable def lp_X4_grow_31 (g_lengths : Nat → Int32) (g_symbols : Nat → Int32) (g_hints : Nat → Int32) (c_size : Int32) (h_prices : Nat → Int64) (h_choices : Nat → Int32) (k61 : (Int32) → (Int32) → (Int32) → (Nat → Int64) → (Int32) → (Int32) → (Int32) → (Nat → Int32) → (Nat → Int32) → (Nat → Int32) → (Nat → Int32) → (Nat → Int32) → (Nat → Int32) → (Nat → Int32) → (Nat → Int32) → (Nat → Int32) → Option (Int32 × (Nat → Int64) × (Int32) × (Int32) × (Int32) × (Nat → Int32) × (Nat → Int32) × (Nat → Int32) × (Nat → Int32) × (Nat → Int32) × (Nat → Int32) × (Nat → Int32) × (Nat → Int32) × (Nat → Int32))) : Nat → (Int32) → (Int32) → (Int32) → (Int32) → (Nat → Int64) → (Int32) → (Int32) → (Int32) → (Nat → Int32) → (Nat → Int32) → (Nat → Int32) → (Nat → Int32) → (Nat → Int32) → (Nat → Int32) → (Nat → Int32) → (Nat → Int32) → (Nat → Int32) → Option (Int32 × (Nat → Int64) × (Int32) × (Int32) × (Int32) × (Nat → Int32) × (Nat → Int32) × (Nat → Int32) × (Nat → Int32) × (Nat → Int32) × (Nat → Int32) × (Nat → Int32) × (Nat → Int32) × (Nat → Int32))
  | 0, _, _, _, _, _, _, _, _, _, _, _, _, _, _, _, _, _ => none
  | n + 1, x1, x2, x3, x4, h_traced, t_waiting, t_size, t_skipped, t_cells, t_hints, t_within, t_begins, t_waitSymbols, t_waitParents, t_waitFirsts, t_waitEnds, t_waitHints =>
    if 150 ≤ x4 then (
      k61 x1 x2 x3 h_traced t_waiting t_size t_skipped t_cells t_hints t_within t_begins t_waitSymbols t_waitParents t_waitFirsts t_waitEnds t_waitHints
    ) else (
      if x3 = 0 then (
        k61 x1 x2 x3 h_traced t_waiting t_size t_skipped t_cells t_hints t_within t_begins t_waitSymbols t_waitParents t_waitFirsts t_waitEnds t_waitHints
      ) else (
        if t_waiting ≤ 0 then (
          k61 x1 x2 x3 h_traced t_waiting t_size t_skipped t_cells t_hints t_within t_begins t_waitSymbols t_waitParents t_waitFirsts t_waitEnds t_waitHints
        ) else (
          (f_X4_placeNext g_lengths g_symbols g_hints h_prices h_choices h_traced t_waiting t_size t_cells t_hints t_within t_begins t_waitSymbols t_waitParents t_waitFirsts t_waitEnds t_waitHints).bind fun r7 =>
          nm r7.1 fun x3_8 =>
          nm (x4 + Int32.ofInt 1) fun x4_9 =>
          (lp_X4_grow_31 g_lengths g_symbols g_hints c_size h_prices h_choices k61 n) x1 x2 x3_8 x4_9 r7.2.1 r7.2.2.1 r7.2.2.2.1 t_skipped r7.2.2.2.2.1 r7.2.2.2.2.2.1 r7.2.2.2.2.2.2.1 r7.2.2.2.2.2.2.2.1 r7.2.2.2.2.2.2.2.2.1 r7.2.2.2.2.2.2.2.2.2.1 r7.2.2.2.2.2.2.2.2.2.2.1 r7.2.2.2.2.2.2.2.2.2.2.2.1 r7.2.2.2.2.2.2.2.2.2.2.2.2
        )
      )
    )
noncomputable def jn_X4_grow_72 (g_lengths : Nat → Int32) (g_symbols : Nat → Int32) (g_hints : Nat → Int32) (c_size : Int32) (h_prices : Nat → Int64) (h_choices : Nat → Int32)  (h_traced : Nat → Int64) (t_waiting : Int32) (t_size : Int32) (t_skipped : Int32) (t_cells : Nat → Int32) (t_hints : Nat → Int32) (t_within : Nat → Int32) (t_begins : Nat → Int32) (t_waitSymbols : Nat → Int32) (t_waitParents : Nat → Int32) (t_waitFirsts : Nat → Int32) (t_waitEnds : Nat → Int32) (t_waitHints : Nat → Int32) : Option (Int32 × (Nat → Int64) × (Int32) × (Int32) × (Int32) × (Nat → Int32) × (Nat → Int32) × (Nat → Int32) × (Nat → Int32) × (Nat → Int32) × (Nat → Int32) × (Nat → Int32) × (Nat → Int32) × (Nat → Int32)) :=
  (f_X4_drop t_size t_skipped).bind fun r10 =>
  (zc 0).bind fun v11 => some (v11, h_traced, t_waiting, r10.1, r10.2, t_cells, t_hints, t_within, t_begins, t_waitSymbols, t_waitParents, t_waitFirsts, t_waitEnds, t_waitHints)
noncomputable def jn_X4_grow_61 (g_lengths : Nat → Int32) (g_symbols : Nat → Int32) (g_hints : Nat → Int32) (c_size : Int32) (h_prices : Nat → Int64) (h_choices : Nat → Int32)  (x1 : Int32) (x2 : Int32) (x3 : Int32) (h_traced : Nat → Int64) (t_waiting : Int32) (t_size : Int32) (t_skipped : Int32) (t_cells : Nat → Int32) (t_hints : Nat → Int32) (t_within : Nat → Int32) (t_begins : Nat → Int32) (t_waitSymbols : Nat → Int32) (t_waitParents : Nat → Int32) (t_waitFirsts : Nat → Int32) (t_waitEnds : Nat → Int32) (t_waitHints : Nat → Int32) : Option (Int32 × (Nat → Int64) × (Int32) × (Int32) × (Int32) × (Nat → Int32) × (Nat → Int32) × (Nat → Int32) × (Nat → Int32) × (Nat → Int32) × (Nat → Int32) × (Nat → Int32) × (Nat → Int32) × (Nat → Int32)) :=
  if x3 = 0 then (
    jn_X4_grow_72 g_lengths g_symbols g_hints c_size h_prices h_choices h_traced t_waiting t_size t_skipped t_cells t_hints t_within t_begins t_waitSymbols t_waitParents t_waitFirsts t_waitEnds t_waitHints
  ) else (
    if t_waiting ≤ 0 then (
      (zc 1).bind fun v13 => some (v13, h_traced, t_waiting, t_size, ((x1 - x2)), t_cells, t_hints, t_within, t_begins, t_waitSymbols, t_waitParents, t_waitFirsts, t_waitEnds, t_waitHints)
    ) else (
      jn_X4_grow_72 g_lengths g_symbols g_hints c_size h_prices h_choices h_traced t_waiting t_size t_skipped t_cells t_hints t_within t_begins t_waitSymbols t_waitParents t_waitFirsts t_waitEnds t_waitHints
    )
  )
noncomputable def f_X4_grow (a1 : Int32) (g_lengths : Nat → Int32) (g_symbols : Nat → Int32) (g_hints : Nat → Int32) (c_size : Int32) (h_prices : Nat → Int64) (h_choices : Nat → Int32) (h_traced : Nat → Int64) (t_waiting : Int32) (t_size : Int32) (t_skipped : Int32) (t_cells : Nat → Int32) (t_hints : Nat → Int32) (t_within : Nat → Int32) (t_begins : Nat → Int32) (t_waitSymbols : Nat → Int32) (t_waitParents : Nat → Int32) (t_waitFirsts : Nat → Int32) (t_waitEnds : Nat → Int32) (t_waitHints : Nat → Int32) : Option (Int32 × (Nat → Int64) × (Int32) × (Int32) × (Int32) × (Nat → Int32) × (Nat → Int32) × (Nat → Int32) × (Nat → Int32) × (Nat → Int32) × (Nat → Int32) × (Nat → Int32) × (Nat → Int32) × (Nat → Int32)) :=
  (f_X0_treeEnd c_size h_prices).bind fun r1 =>
  nm r1 fun x2_2 =>
  (f_X4_drop t_size t_skipped).bind fun r3 =>
  (f_X4_await 9 ((-1)) 0 x2_2 0 r3.1 0 t_waitSymbols t_waitParents t_waitFirsts t_waitEnds t_waitHints).bind fun r4 =>
  nm r4.1 fun x3_5 =>
  nm (0 : Int32) fun x4_6 =>
  lp_X4_grow_31 g_lengths g_symbols g_hints c_size h_prices h_choices
    (fun x1 x2 x3 h_traced t_waiting t_size t_skipped t_cells t_hints t_within t_begins t_waitSymbols t_waitParents t_waitFirsts t_waitEnds t_waitHints =>
    jn_X4_grow_61 g_lengths g_symbols g_hints c_size h_prices h_choices x1 x2 x3 h_traced t_waiting t_size t_skipped t_cells t_hints t_within t_begins t_waitSymbols t_waitParents t_waitFirsts t_waitEnds t_waitHints)
    FU a1 x2_2 x3_5 x4_6 h_traced r4.2.1 r3.1 r3.2 t_cells t_hints t_within t_begins r4.2.2.1 r4.2.2.2.1 r4.2.2.2.2.1 r4.2.2.2.2.2.1 r4.2.2.2.2.2.2
noncomputable def jn_X3_at_22 (p_size : Int32) (p_sheet : Nat → Int32)  (s0 : Int32) : Option (Int32) :=
  some s0
noncomputable def jn_X3_at_21 (p_size : Int32) (p_sheet : Nat → Int32)   : Option (Int32) :=
  jn_X3_at_22 p_size p_sheet ((-1))
noncomputable def f_X3_at (a1 : Int32) (p_size : Int32) (p_sheet : Nat → Int32) : Option (Int32) :=
  if a1 < 0 then (
    jn_X3_at_21 p_size p_sheet
  ) else (
    if p_size ≤ a1 then (
      jn_X3_at_21 p_size p_sheet
    ) else (
      (rd p_sheet 1300 a1).bind fun v1 =>
      jn_X3_at_22 p_size p_sheet v1
    )
  )
noncomputable def lp_X3_leafWidth_32 (c_size : Int32) (c_lengths : Nat → Int32) (c_firstComments : Nat → Int32) (c_commentStarts : Nat → Int32) (c_commentEnds : Nat → Int32) (t_cells : Nat → Int32) (k60 : (Int32) → Option (Int32)) : Nat → (Int32) → (Int32) → (Int32) → (Int32) → Option (Int32)
  | 0, _, _, _, _ => none
  | n + 1, x2, x3, x4, x5 =>
    if (x2 + x3) ≤ x5 then (
      k60 x4
    ) else (
      (f_X1_widthOf x5 c_size c_lengths c_firstComments c_commentStarts c_commentEnds).bind fun r8 =>
      nm (x4 + r8) fun x4_9 =>
      nm (x5 + Int32.ofInt 1) fun x5_10 =>
      (lp_X3_leafWidth_32 c_size c_lengths c_firstComments c_commentStarts c_commentEnds t_cells k60 n) x2 x3 x4_9 x5_10
    )
noncomputable def f_X3_leafWidth (a1 : Int32) (c_size : Int32) (c_lengths : Nat → Int32) (c_firstComments : Nat → Int32) (c_commentStarts : Nat → Int32) (c_commentEnds : Nat → Int32) (t_cells : Nat → Int32) : Option (Int32) :=
  (f_X4_cell a1 3 t_cells).bind fun r1 =>
  nm r1 fun x2_2 =>
  (f_X4_cell a1 4 t_cells).bind fun r3 =>
  nm r3 fun x3_4 =>
  nm (if (0 : Int32) < (x3_4 - 1) then (x3_4 - 1) else (0 : Int32)) fun v5 =>
  nm v5 fun x4_6 =>
  nm x2_2 fun x5_7 =>
  lp_X3_leafWidth_32 c_size c_lengths c_firstComments c_commentStarts c_commentEnds t_cells
    (fun x4 =>
    some x4)
    FU x2_2 x3_4 x4_6 x5_7
noncomputable def jn_X3_hasGap_53 (t_cells : Nat → Int32)  (s0 : Int32) : Option (Int32) :=
  (zc s0).bind fun v3 => some v3
noncomputable def jn_X3_hasGap_52 (t_cells : Nat → Int32)   : Option (Int32) :=
  jn_X3_hasGap_53 t_cells 0
noncomputable def f_X3_hasGap (a1 : Int32) (t_cells : Nat → Int32) : Option (Int32) :=
  (f_X4_cell a1 2 t_cells).bind fun r1 =>
  nm r1 fun x2_2 =>
  if x2_2 = ((-1)) then (
    jn_X3_hasGap_52 t_cells
  ) else (
    (f_X4_cell a1 4 t_cells).bind fun r4 =>
    if r4 ≤ 0 then (
      jn_X3_hasGap_52 t_cells
    ) else (
      (f_X4_cell a1 3 t_cells).bind fun r5 =>
      (f_X4_cell x2_2 3 t_cells).bind fun r6 =>
      if r5 = r6 then (
        jn_X3_hasGap_52 t_cells
      ) else (
        jn_X3_hasGap_53 t_cells 1
      )
    )
  )
noncomputable def jn_X3_flatGap_46 (c_size : Int32) (c_text : Nat → Int32) (c_starts : Nat → Int32) (c_firstComments : Nat → Int32) (t_cells : Nat → Int32) (t_hints : Nat → Int32)  (s0 : Int32) : Option (Int32) :=
  some s0
noncomputable def jn_X3_flatGap_36 (c_size : Int32) (c_text : Nat → Int32) (c_starts : Nat → Int32) (c_firstComments : Nat → Int32) (t_cells : Nat → Int32) (t_hints : Nat → Int32)  (s0 : Int32) : Option (Int32) :=
  nm s0 fun x2_4 =>
  if x2_4 = 0 then (
    jn_X3_flatGap_46 c_size c_text c_starts c_firstComments t_cells t_hints 1
  ) else (
    jn_X3_flatGap_46 c_size c_text c_starts c_firstComments t_cells t_hints 0
  )
noncomputable def jn_X3_flatGap_35 (c_size : Int32) (c_text : Nat → Int32) (c_starts : Nat → Int32) (c_firstComments : Nat → Int32) (t_cells : Nat → Int32) (t_hints : Nat → Int32)   : Option (Int32) :=
  jn_X3_flatGap_36 c_size c_text c_starts c_firstComments t_cells t_hints 0
noncomputable def f_X3_flatGap (a1 : Int32) (c_size : Int32) (c_text : Nat → Int32) (c_starts : Nat → Int32) (c_firstComments : Nat → Int32) (t_cells : Nat → Int32) (t_hints : Nat → Int32) : Option (Int32) :=
  (rd t_hints 150 a1).bind fun v1 =>
  if v1 = 0 then (
    (f_X4_cell a1 3 t_cells).bind fun r2 =>
    (f_X1_beginsWithDigit r2 c_size c_text c_starts c_firstComments).bind fun r3 =>
    if r3 = 0 then (
      jn_X3_flatGap_36 c_size c_text c_starts c_firstComments t_cells t_hints 1
    ) else (
      jn_X3_flatGap_35 c_size c_text c_starts c_firstComments t_cells t_hints
    )
  ) else (
    jn_X3_flatGap_35 c_size c_text c_starts c_firstComments t_cells t_hints
  )
noncomputable def jn_X3_measure_38 (c_size : Int32) (c_text : Nat → Int32) (c_starts : Nat → Int32) (c_lengths : Nat → Int32) (c_firstComments : Nat → Int32) (c_commentStarts : Nat → Int32) (c_commentEnds : Nat → Int32) (t_size : Int32) (t_cells : Nat → Int32) (t_hints : Nat → Int32) (k2 : (Int32) → (Nat → Int32) → Option ((Nat → Int32))) (x1 : Int32) (s1 : Int32) (s2 : Int32) (p_flats : Nat → Int32) : Option ((Nat → Int32)) :=
  (wrI p_flats 150 s1 s2).bind fun p_flats_3 =>
  nm (x1 + Int32.ofInt 1) fun x1_4 =>
  k2 x1_4 p_flats_3
noncomputable def lp_X3_measure_2 (c_size : Int32) (c_text : Nat → Int32) (c_starts : Nat → Int32) (c_lengths : Nat → Int32) (c_firstComments : Nat → Int32) (c_commentStarts : Nat → Int32) (c_commentEnds : Nat → Int32) (t_size : Int32) (t_cells : Nat → Int32) (t_hints : Nat → Int32) (k45 : (Nat → Int32) → Option ((Nat → Int32))) : Nat → (Int32) → (Nat → Int32) → Option ((Nat → Int32))
  | 0, _, _ => none
  | n + 1, x1, p_flats =>
    if t_size ≤ x1 then (
      k45 p_flats
    ) else (
      (f_X4_isLeaf x1 t_cells).bind fun r2 =>
      if r2 = 0 then (
        jn_X3_measure_38 c_size c_text c_starts c_lengths c_firstComments c_commentStarts c_commentEnds t_size t_cells t_hints (lp_X3_measure_2 c_size c_text c_starts c_lengths c_firstComments c_commentStarts c_commentEnds t_size t_cells t_hints k45 n) x1 x1 0 p_flats
      ) else (
        (f_X3_leafWidth x1 c_size c_lengths c_firstComments c_commentStarts c_commentEnds t_cells).bind fun r5 =>
        jn_X3_measure_38 c_size c_text c_starts c_lengths c_firstComments c_commentStarts c_commentEnds t_size t_cells t_hints (lp_X3_measure_2 c_size c_text c_starts c_lengths c_firstComments c_commentStarts c_commentEnds t_size t_cells t_hints k45 n) x1 x1 r5 p_flats
      )
    )
noncomputable def jn_X3_measure_107 (c_size : Int32) (c_text : Nat → Int32) (c_starts : Nat → Int32) (c_lengths : Nat → Int32) (c_firstComments : Nat → Int32) (c_commentStarts : Nat → Int32) (c_commentEnds : Nat → Int32) (t_size : Int32) (t_cells : Nat → Int32) (t_hints : Nat → Int32) (k55 : (Int32) → (Nat → Int32) → Option ((Nat → Int32))) (x1 : Int32) (p_flats : Nat → Int32) : Option ((Nat → Int32)) :=
  nm (x1 + Int32.ofInt (-1)) fun x1_9 =>
  k55 x1_9 p_flats
noncomputable def jn_X3_measure_104 (c_size : Int32) (c_text : Nat → Int32) (c_starts : Nat → Int32) (c_lengths : Nat → Int32) (c_firstComments : Nat → Int32) (c_commentStarts : Nat → Int32) (c_commentEnds : Nat → Int32) (t_size : Int32) (t_cells : Nat → Int32) (t_hints : Nat → Int32) (k55 : (Int32) → (Nat → Int32) → Option ((Nat → Int32))) (x1 : Int32) (s1 : Int32) (s2 : Int32) (s3 : Int32) (s4 : Int32) (p_flats : Nat → Int32) : Option ((Nat → Int32)) :=
  (wrI p_flats 150 s1 (s2 + (s3 + s4))).bind fun p_flats_13 =>
  jn_X3_measure_107 c_size c_text c_starts c_lengths c_firstComments c_commentStarts c_commentEnds t_size t_cells t_hints k55 x1 p_flats_13
noncomputable def lp_X3_measure_55 (c_size : Int32) (c_text : Nat → Int32) (c_starts : Nat → Int32) (c_lengths : Nat → Int32) (c_firstComments : Nat → Int32) (c_commentStarts : Nat → Int32) (c_commentEnds : Nat → Int32) (t_size : Int32) (t_cells : Nat → Int32) (t_hints : Nat → Int32) (k113 : (Nat → Int32) → Option ((Nat → Int32))) : Nat → (Int32) → (Nat → Int32) → Option ((Nat → Int32))
  | 0, _, _ => none
  | n + 1, x1, p_flats =>
    if x1 ≤ 0 then (
      k113 p_flats
    ) else (
      (f_X4_cell x1 2 t_cells).bind fun r7 =>
      nm r7 fun x2_8 =>
      if x2_8 = ((-1)) then (
        jn_X3_measure_107 c_size c_text c_starts c_lengths c_firstComments c_commentStarts c_commentEnds t_size t_cells t_hints (lp_X3_measure_55 c_size c_text c_starts c_lengths c_firstComments c_commentStarts c_commentEnds t_size t_cells t_hints k113 n) x1 p_flats
      ) else (
        (rd p_flats 150 x2_8).bind fun v10 =>
        (rd p_flats 150 x1).bind fun v11 =>
        (f_X3_hasGap x1 t_cells).bind fun r12 =>
        if r12 = 0 then (
          jn_X3_measure_104 c_size c_text c_starts c_lengths c_firstComments c_commentStarts c_commentEnds t_size t_cells t_hints (lp_X3_measure_55 c_size c_text c_starts c_lengths c_firstComments c_commentStarts c_commentEnds t_size t_cells t_hints k113 n) x1 x2_8 v10 v11 0 p_flats
        ) else (
          (f_X3_flatGap x1 c_size c_text c_starts c_firstComments t_cells t_hints).bind fun r14 =>
          jn_X3_measure_104 c_size c_text c_starts c_lengths c_firstComments c_commentStarts c_commentEnds t_size t_cells t_hints (lp_X3_measure_55 c_size c_text c_starts c_lengths c_firstComments c_commentStarts c_commentEnds t_size t_cells t_hints k113 n) x1 x2_8 v10 v11 r14 p_flats
        )
      )
    )
noncomputable def f_X3_measure (c_size : Int32) (c_text : Nat → Int32) (c_starts : Nat → Int32) (c_lengths : Nat → Int32) (c_firstComments : Nat → Int32) (c_commentStarts : Nat → Int32) (c_commentEnds : Nat → Int32) (t_size : Int32) (t_cells : Nat → Int32) (t_hints : Nat → Int32) (p_flats : Nat → Int32) : Option ((Nat → Int32)) :=
  nm (0 : Int32) fun x1_1 =>
  lp_X3_measure_2 c_size c_text c_starts c_lengths c_firstComments c_commentStarts c_commentEnds t_size t_cells t_hints
    (fun p_flats =>
    nm (t_size - 1) fun x1_6 =>
    lp_X3_measure_55 c_size c_text c_starts c_lengths c_firstComments c_commentStarts c_commentEnds t_size t_cells t_hints
      (fun p_flats =>
      some p_flats)
      FU x1_6 p_flats)
    FU x1_1 p_flats
noncomputable def jn_X3_put_41   (p_size : Int32) (p_column : Int32) (p_sheet : Nat → Int32) : Option ((Int32) × (Int32) × (Nat → Int32)) :=
  some (p_size, p_column, p_sheet)
noncomputable def f_X3_put (a1 : Int32) (p_size : Int32) (p_column : Int32) (p_sheet : Nat → Int32) : Option ((Int32) × (Int32) × (Nat → Int32)) :=
  if 1300 ≤ p_size then (
    jn_X3_put_41  p_size p_column p_sheet
  ) else (
    (wrI p_sheet 1300 p_size (vp_nar .byte a1.toInt8.toInt32)).bind fun p_sheet_1 =>
    jn_X3_put_41  ((p_size + 1)) ((p_column + 1)) p_sheet_1
  )
noncomputable def jn_X3_layGap_74 (c_size : Int32) (c_text : Nat → Int32) (c_starts : Nat → Int32) (c_firstComments : Nat → Int32) (t_cells : Nat → Int32) (t_hints : Nat → Int32) (p_broken : Nat → Int32) (p_indents : Nat → Int32)  (p_size : Int32) (p_column : Int32) (p_sheet : Nat → Int32) : Option ((Int32) × (Int32) × (Nat → Int32)) :=
  some (p_size, p_column, p_sheet)
noncomputable def jn_X3_layGap_60 (c_size : Int32) (c_text : Nat → Int32) (c_starts : Nat → Int32) (c_firstComments : Nat → Int32) (t_cells : Nat → Int32) (t_hints : Nat → Int32) (p_broken : Nat → Int32) (p_indents : Nat → Int32)  (x1 : Int32) (p_size : Int32) (p_column : Int32) (p_sheet : Nat → Int32) : Option ((Int32) × (Int32) × (Nat → Int32)) :=
  (f_X3_flatGap x1 c_size c_text c_starts c_firstComments t_cells t_hints).bind fun r3 =>
  if r3 ≤ 0 then (
    jn_X3_layGap_74 c_size c_text c_starts c_firstComments t_cells t_hints p_broken p_indents p_size p_column p_sheet
  ) else (
    (f_X3_put 32 p_size p_column p_sheet).bind fun r4 =>
    jn_X3_layGap_74 c_size c_text c_starts c_firstComments t_cells t_hints p_broken p_indents r4.1 r4.2.1 r4.2.2
  )
noncomputable def lp_X3_layGap_35 (c_size : Int32) (c_text : Nat → Int32) (c_starts : Nat → Int32) (c_firstComments : Nat → Int32) (t_cells : Nat → Int32) (t_hints : Nat → Int32) (p_broken : Nat → Int32) (p_indents : Nat → Int32) (k57 : (Int32) → (Int32) → (Nat → Int32) → Option ((Int32) × (Int32) × (Nat → Int32))) : Nat → (Int32) → (Int32) → (Int32) → (Int32) → (Nat → Int32) → Option ((Int32) × (Int32) × (Nat → Int32))
  | 0, _, _, _, _, _ => none
  | n + 1, x2, x3, p_size, p_column, p_sheet =>
    (rd p_indents 150 x2).bind fun v7 =>
    if v7 ≤ x3 then (
      k57 p_size p_column p_sheet
    ) else (
      (f_X3_put 32 p_size p_column p_sheet).bind fun r8 =>
      nm (x3 + Int32.ofInt 1) fun x3_9 =>
      (lp_X3_layGap_35 c_size c_text c_starts c_firstComments t_cells t_hints p_broken p_indents k57 n) x2 x3_9 r8.1 r8.2.1 r8.2.2
    )
noncomputable def f_X3_layGap (a1 : Int32) (a2 : Int32) (c_size : Int32) (c_text : Nat → Int32) (c_starts : Nat → Int32) (c_firstComments : Nat → Int32) (t_cells : Nat → Int32) (t_hints : Nat → Int32) (p_broken : Nat → Int32) (p_indents : Nat → Int32) (p_size : Int32) (p_column : Int32) (p_sheet : Nat → Int32) : Option ((Int32) × (Int32) × (Nat → Int32)) :=
  (rd t_hints 150 a1).bind fun v1 =>
  if v1 = 2 then (
    (rd p_broken 150 a2).bind fun v2 =>
    if v2 = 0 then (
      jn_X3_layGap_60 c_size c_text c_starts c_firstComments t_cells t_hints p_broken p_indents a1 p_size p_column p_sheet
    ) else (
      (f_X3_put 10 p_size p_column p_sheet).bind fun r5 =>
      nm (0 : Int32) fun x3_6 =>
      lp_X3_layGap_35 c_size c_text c_starts c_firstComments t_cells t_hints p_broken p_indents
        (fun p_size p_column p_sheet =>
        jn_X3_layGap_74 c_size c_text c_starts c_firstComments t_cells t_hints p_broken p_indents p_size p_column p_sheet)
        FU a2 x3_6 r5.1 0 r5.2.2
    )
  ) else (
    jn_X3_layGap_60 c_size c_text c_starts c_firstComments t_cells t_hints p_broken p_indents a1 p_size p_column p_sheet
  )
noncomputable def lp_X3_layText_2 (c_text : Nat → Int32) (k26 : (Int32) → (Int32) → (Nat → Int32) → Option ((Int32) × (Int32) × (Nat → Int32))) : Nat → (Int32) → (Int32) → (Int32) → (Int32) → (Nat → Int32) → Option ((Int32) × (Int32) × (Nat → Int32))
  | 0, _, _, _, _, _ => none
  | n + 1, x2, x3, p_size, p_column, p_sheet =>
    if x2 ≤ x3 then (
      k26 p_size p_column p_sheet
    ) else (
      (rd c_text 80 x3).bind fun v2 =>
      (f_X3_put v2 p_size p_column p_sheet).bind fun r3 =>
      nm (x3 + Int32.ofInt 1) fun x3_4 =>
      (lp_X3_layText_2 c_text k26 n) x2 x3_4 r3.1 r3.2.1 r3.2.2
    )
noncomputable def f_X3_layText (a1 : Int32) (a2 : Int32) (c_text : Nat → Int32) (p_size : Int32) (p_column : Int32) (p_sheet : Nat → Int32) : Option ((Int32) × (Int32) × (Nat → Int32)) :=
  nm a1 fun x3_1 =>
  lp_X3_layText_2 c_text
    (fun p_size p_column p_sheet =>
    some (p_size, p_column, p_sheet))
    FU a2 x3_1 p_size p_column p_sheet
noncomputable def jn_X3_layComments_37 (c_size : Int32) (c_text : Nat → Int32) (c_firstComments : Nat → Int32) (c_commentStarts : Nat → Int32) (c_commentEnds : Nat → Int32) (k12 : (Int32) → (Int32) → (Int32) → (Int32) → (Int32) → (Nat → Int32) → Option ((Int32) × (Int32) × (Nat → Int32))) (x1 : Int32) (x2 : Int32) (x3 : Int32) (p_size : Int32) (p_column : Int32) (p_sheet : Nat → Int32) : Option ((Int32) × (Int32) × (Nat → Int32)) :=
  (rd c_commentStarts 40 x3).bind fun v5 =>
  (rd c_commentEnds 40 x3).bind fun v6 =>
  (f_X3_layText v5 v6 c_text p_size p_column p_sheet).bind fun r7 =>
  nm (x3 + Int32.ofInt 1) fun x3_8 =>
  k12 x1 x2 x3_8 r7.1 r7.2.1 r7.2.2
noncomputable def lp_X3_layComments_12 (c_size : Int32) (c_text : Nat → Int32) (c_firstComments : Nat → Int32) (c_commentStarts : Nat → Int32) (c_commentEnds : Nat → Int32) (k65 : (Int32) → (Int32) → (Nat → Int32) → Option ((Int32) × (Int32) × (Nat → Int32))) : Nat → (Int32) → (Int32) → (Int32) → (Int32) → (Int32) → (Nat → Int32) → Option ((Int32) × (Int32) × (Nat → Int32))
  | 0, _, _, _, _, _, _ => none
  | n + 1, x1, x2, x3, p_size, p_column, p_sheet =>
    (f_X1_commentsOf x1 c_size c_firstComments).bind fun r4 =>
    if (x2 + r4) ≤ x3 then (
      k65 p_size p_column p_sheet
    ) else (
      if x3 ≤ x2 then (
        jn_X3_layComments_37 c_size c_text c_firstComments c_commentStarts c_commentEnds (lp_X3_layComments_12 c_size c_text c_firstComments c_commentStarts c_commentEnds k65 n) x1 x2 x3 p_size p_column p_sheet
      ) else (
        (f_X3_put 32 p_size p_column p_sheet).bind fun r9 =>
        jn_X3_layComments_37 c_size c_text c_firstComments c_commentStarts c_commentEnds (lp_X3_layComments_12 c_size c_text c_firstComments c_commentStarts c_commentEnds k65 n) x1 x2 x3 r9.1 r9.2.1 r9.2.2
      )
    )
noncomputable def f_X3_layComments (a1 : Int32) (c_size : Int32) (c_text : Nat → Int32) (c_firstComments : Nat → Int32) (c_commentStarts : Nat → Int32) (c_commentEnds : Nat → Int32) (p_size : Int32) (p_column : Int32) (p_sheet : Nat → Int32) : Option ((Int32) × (Int32) × (Nat → Int32)) :=
  (rd c_firstComments 18 a1).bind fun v1 =>
  nm v1 fun x2_2 =>
  nm x2_2 fun x3_3 =>
  lp_X3_layComments_12 c_size c_text c_firstComments c_commentStarts c_commentEnds
    (fun p_size p_column p_sheet =>
    some (p_size, p_column, p_sheet))
    FU a1 x2_2 x3_3 p_size p_column p_sheet
noncomputable def jn_X3_layTokens_40 (c_size : Int32) (c_text : Nat → Int32) (c_starts : Nat → Int32) (c_lengths : Nat → Int32) (c_firstComments : Nat → Int32) (c_commentStarts : Nat → Int32) (c_commentEnds : Nat → Int32) (k2 : (Int32) → (Int32) → (Int32) → (Int32) → (Int32) → (Nat → Int32) → Option ((Int32) × (Int32) × (Nat → Int32))) (x1 : Int32) (x2 : Int32) (x3 : Int32) (p_size : Int32) (p_column : Int32) (p_sheet : Nat → Int32) : Option ((Int32) × (Int32) × (Nat → Int32)) :=
  (rd c_starts 16 x3).bind fun v4 =>
  (rd c_starts 16 x3).bind fun v5 =>
  (rd c_lengths 16 x3).bind fun v6 =>
  (f_X3_layText v4 (v5 + v6) c_text p_size p_column p_sheet).bind fun r7 =>
  nm (x3 + Int32.ofInt 1) fun x3_8 =>
  k2 x1 x2 x3_8 r7.1 r7.2.1 r7.2.2
noncomputable def jn_X3_layTokens_18 (c_size : Int32) (c_text : Nat → Int32) (c_starts : Nat → Int32) (c_lengths : Nat → Int32) (c_firstComments : Nat → Int32) (c_commentStarts : Nat → Int32) (c_commentEnds : Nat → Int32) (k2 : (Int32) → (Int32) → (Int32) → (Int32) → (Int32) → (Nat → Int32) → Option ((Int32) × (Int32) × (Nat → Int32))) (x1 : Int32) (x2 : Int32) (x3 : Int32) (p_size : Int32) (p_column : Int32) (p_sheet : Nat → Int32) : Option ((Int32) × (Int32) × (Nat → Int32)) :=
  (f_X3_layComments x3 c_size c_text c_firstComments c_commentStarts c_commentEnds p_size p_column p_sheet).bind fun r2 =>
  (f_X1_commentsOf x3 c_size c_firstComments).bind fun r3 =>
  if r3 ≤ 0 then (
    jn_X3_layTokens_40 c_size c_text c_starts c_lengths c_firstComments c_commentStarts c_commentEnds k2 x1 x2 x3 r2.1 r2.2.1 r2.2.2
  ) else (
    (f_X3_put 32 r2.1 r2.2.1 r2.2.2).bind fun r9 =>
    jn_X3_layTokens_40 c_size c_text c_starts c_lengths c_firstComments c_commentStarts c_commentEnds k2 x1 x2 x3 r9.1 r9.2.1 r9.2.2
  )
noncomputable def lp_X3_layTokens_2 (c_size : Int32) (c_text : Nat → Int32) (c_starts : Nat → Int32) (c_lengths : Nat → Int32) (c_firstComments : Nat → Int32) (c_commentStarts : Nat → Int32) (c_commentEnds : Nat → Int32) (k78 : (Int32) → (Int32) → (Nat → Int32) → Option ((Int32) × (Int32) × (Nat → Int32))) : Nat → (Int32) → (Int32) → (Int32) → (Int32) → (Int32) → (Nat → Int32) → Option ((Int32) × (Int32) × (Nat → Int32))
  | 0, _, _, _, _, _, _ => none
  | n + 1, x1, x2, x3, p_size, p_column, p_sheet =>
    if x2 ≤ x3 then (
      k78 p_size p_column p_sheet
    ) else (
      if x3 ≤ x1 then (
        jn_X3_layTokens_18 c_size c_text c_starts c_lengths c_firstComments c_commentStarts c_commentEnds (lp_X3_layTokens_2 c_size c_text c_starts c_lengths c_firstComments c_commentStarts c_commentEnds k78 n) x1 x2 x3 p_size p_column p_sheet
      ) else (
        (f_X3_put 32 p_size p_column p_sheet).bind fun r10 =>
        jn_X3_layTokens_18 c_size c_text c_starts c_lengths c_firstComments c_commentStarts c_commentEnds (lp_X3_layTokens_2 c_size c_text c_starts c_lengths c_firstComments c_commentStarts c_commentEnds k78 n) x1 x2 x3 r10.1 r10.2.1 r10.2.2
      )
    )
noncomputable def f_X3_layTokens (a1 : Int32) (a2 : Int32) (c_size : Int32) (c_text : Nat → Int32) (c_starts : Nat → Int32) (c_lengths : Nat → Int32) (c_firstComments : Nat → Int32) (c_commentStarts : Nat → Int32) (c_commentEnds : Nat → Int32) (p_size : Int32) (p_column : Int32) (p_sheet : Nat → Int32) : Option ((Int32) × (Int32) × (Nat → Int32)) :=
  nm a1 fun x3_1 =>
  lp_X3_layTokens_2 c_size c_text c_starts c_lengths c_firstComments c_commentStarts c_commentEnds
    (fun p_size p_column p_sheet =>
    some (p_size, p_column, p_sheet))
    FU a1 a2 x3_1 p_size p_column p_sheet
noncomputable def jn_X3_layPart_151 (g_ins : Nat → Int32) (c_size : Int32) (c_text : Nat → Int32) (c_starts : Nat → Int32) (c_lengths : Nat → Int32) (c_firstComments : Nat → Int32) (c_commentStarts : Nat → Int32) (c_commentEnds : Nat → Int32) (t_cells : Nat → Int32) (t_hints : Nat → Int32) (p_flats : Nat → Int32)  (p_size : Int32) (p_column : Int32) (p_sheet : Nat → Int32) (p_broken : Nat → Int32) (p_indents : Nat → Int32) : Option ((Int32) × (Int32) × (Nat → Int32) × (Nat → Int32) × (Nat → Int32)) :=
  some (p_size, p_column, p_sheet, p_broken, p_indents)
noncomputable def jn_X3_layPart_111 (g_ins : Nat → Int32) (c_size : Int32) (c_text : Nat → Int32) (c_starts : Nat → Int32) (c_lengths : Nat → Int32) (c_firstComments : Nat → Int32) (c_commentStarts : Nat → Int32) (c_commentEnds : Nat → Int32) (t_cells : Nat → Int32) (t_hints : Nat → Int32) (p_flats : Nat → Int32)  (x1 : Int32) (s1 : Int32) (s2 : Int32) (p_size : Int32) (p_column : Int32) (p_sheet : Nat → Int32) (p_broken : Nat → Int32) (p_indents : Nat → Int32) : Option ((Int32) × (Int32) × (Nat → Int32) × (Nat → Int32) × (Nat → Int32)) :=
  (wrI p_indents 150 s1 s2).bind fun p_indents_9 =>
  (rd p_broken 150 x1).bind fun v10 =>
  if v10 = 0 then (
    jn_X3_layPart_151 g_ins c_size c_text c_starts c_lengths c_firstComments c_commentStarts c_commentEnds t_cells t_hints p_flats p_size p_column p_sheet p_broken p_indents_9
  ) else (
    (f_X4_cell x1 0 t_cells).bind fun r11 =>
    (rd g_ins 20 r11).bind fun v12 =>
    if v12 = 0 then (
      jn_X3_layPart_151 g_ins c_size c_text c_starts c_lengths c_firstComments c_commentStarts c_commentEnds t_cells t_hints p_flats p_size p_column p_sheet p_broken p_indents_9
    ) else (
      (rd p_indents_9 150 x1).bind fun v13 =>
      (wrI p_indents_9 150 x1 (v13 + 2)).bind fun p_indents_14 =>
      jn_X3_layPart_151 g_ins c_size c_text c_starts c_lengths c_firstComments c_commentStarts c_commentEnds t_cells t_hints p_flats p_size p_column p_sheet p_broken p_indents_14
    )
  )
noncomputable def jn_X3_layPart_90 (g_ins : Nat → Int32) (c_size : Int32) (c_text : Nat → Int32) (c_starts : Nat → Int32) (c_lengths : Nat → Int32) (c_firstComments : Nat → Int32) (c_commentStarts : Nat → Int32) (c_commentEnds : Nat → Int32) (t_cells : Nat → Int32) (t_hints : Nat → Int32) (p_flats : Nat → Int32)  (x1 : Int32) (x3 : Int32) (s1 : Int32) (s2 : Int32) (p_size : Int32) (p_column : Int32) (p_sheet : Nat → Int32) (p_broken : Nat → Int32) (p_indents : Nat → Int32) : Option ((Int32) × (Int32) × (Nat → Int32) × (Nat → Int32) × (Nat → Int32)) :=
  (wrI p_broken 150 s1 (vp_nar .boolean s2)).bind fun p_broken_8 =>
  if x3 = ((-1)) then (
    jn_X3_layPart_111 g_ins c_size c_text c_starts c_lengths c_firstComments c_commentStarts c_commentEnds t_cells t_hints p_flats x1 x1 0 p_size p_column p_sheet p_broken_8 p_indents
  ) else (
    (rd p_indents 150 x3).bind fun v15 =>
    jn_X3_layPart_111 g_ins c_size c_text c_starts c_lengths c_firstComments c_commentStarts c_commentEnds t_cells t_hints p_flats x1 x1 v15 p_size p_column p_sheet p_broken_8 p_indents
  )
noncomputable def jn_X3_layPart_24 (g_ins : Nat → Int32) (c_size : Int32) (c_text : Nat → Int32) (c_starts : Nat → Int32) (c_lengths : Nat → Int32) (c_firstComments : Nat → Int32) (c_commentStarts : Nat → Int32) (c_commentEnds : Nat → Int32) (t_cells : Nat → Int32) (t_hints : Nat → Int32) (p_flats : Nat → Int32)  (x1 : Int32) (x2 : Int32) (x3 : Int32) (p_size : Int32) (p_column : Int32) (p_sheet : Nat → Int32) (p_broken : Nat → Int32) (p_indents : Nat → Int32) : Option ((Int32) × (Int32) × (Nat → Int32) × (Nat → Int32) × (Nat → Int32)) :=
  (f_X4_cell x1 3 t_cells).bind fun r4 =>
  nm r4 fun x4_5 =>
  (f_X4_isLeaf x1 t_cells).bind fun r6 =>
  if r6 = 0 then (
    (rd p_flats 150 x1).bind fun v7 =>
    if v7 ≤ (x2 - p_column) then (
      jn_X3_layPart_90 g_ins c_size c_text c_starts c_lengths c_firstComments c_commentStarts c_commentEnds t_cells t_hints p_flats x1 x3 x1 0 p_size p_column p_sheet p_broken p_indents
    ) else (
      jn_X3_layPart_90 g_ins c_size c_text c_starts c_lengths c_firstComments c_commentStarts c_commentEnds t_cells t_hints p_flats x1 x3 x1 1 p_size p_column p_sheet p_broken p_indents
    )
  ) else (
    (f_X4_cell x1 4 t_cells).bind fun r16 =>
    (f_X3_layTokens x4_5 (x4_5 + r16) c_size c_text c_starts c_lengths c_firstComments c_commentStarts c_commentEnds p_size p_column p_sheet).bind fun r17 =>
    some (r17.1, r17.2.1, r17.2.2, p_broken, p_indents)
  )
noncomputable def f_X3_layPart (a1 : Int32) (a2 : Int32) (g_ins : Nat → Int32) (c_size : Int32) (c_text : Nat → Int32) (c_starts : Nat → Int32) (c_lengths : Nat → Int32) (c_firstComments : Nat → Int32) (c_commentStarts : Nat → Int32) (c_commentEnds : Nat → Int32) (t_cells : Nat → Int32) (t_hints : Nat → Int32) (p_flats : Nat → Int32) (p_size : Int32) (p_column : Int32) (p_sheet : Nat → Int32) (p_broken : Nat → Int32) (p_indents : Nat → Int32) : Option ((Int32) × (Int32) × (Nat → Int32) × (Nat → Int32) × (Nat → Int32)) :=
  (f_X4_cell a1 2 t_cells).bind fun r1 =>
  nm r1 fun x3_2 =>
  (f_X3_hasGap a1 t_cells).bind fun r3 =>
  if r3 = 0 then (
    jn_X3_layPart_24 g_ins c_size c_text c_starts c_lengths c_firstComments c_commentStarts c_commentEnds t_cells t_hints p_flats a1 a2 x3_2 p_size p_column p_sheet p_broken p_indents
  ) else (
    (f_X3_layGap a1 x3_2 c_size c_text c_starts c_firstComments t_cells t_hints p_broken p_indents p_size p_column p_sheet).bind fun r18 =>
    jn_X3_layPart_24 g_ins c_size c_text c_starts c_lengths c_firstComments c_commentStarts c_commentEnds t_cells t_hints p_flats a1 a2 x3_2 r18.1 r18.2.1 r18.2.2 p_broken p_indents
  )
noncomputable def jn_X3_layEnd_97 (c_size : Int32) (c_text : Nat → Int32) (c_starts : Nat → Int32) (c_lengths : Nat → Int32) (c_firstComments : Nat → Int32) (c_commentStarts : Nat → Int32) (c_commentEnds : Nat → Int32) (t_skipped : Int32)  (p_size : Int32) (p_column : Int32) (p_sheet : Nat → Int32) : Option ((Int32) × (Int32) × (Nat → Int32)) :=
  (f_X3_layComments c_size c_size c_text c_firstComments c_commentStarts c_commentEnds p_size p_column p_sheet).bind fun r4 =>
  some (r4.1, r4.2.1, r4.2.2)
noncomputable def jn_X3_layEnd_51 (c_size : Int32) (c_text : Nat → Int32) (c_starts : Nat → Int32) (c_lengths : Nat → Int32) (c_firstComments : Nat → Int32) (c_commentStarts : Nat → Int32) (c_commentEnds : Nat → Int32) (t_skipped : Int32)  (x1 : Int32) (p_size : Int32) (p_column : Int32) (p_sheet : Nat → Int32) : Option ((Int32) × (Int32) × (Nat → Int32)) :=
  (f_X3_layTokens (c_size - t_skipped) c_size c_size c_text c_starts c_lengths c_firstComments c_commentStarts c_commentEnds p_size p_column p_sheet).bind fun r3 =>
  if t_skipped ≤ 0 then (
    jn_X3_layEnd_97 c_size c_text c_starts c_lengths c_firstComments c_commentStarts c_commentEnds t_skipped r3.1 r3.2.1 r3.2.2
  ) else (
    if x1 = 0 then (
      jn_X3_layEnd_97 c_size c_text c_starts c_lengths c_firstComments c_commentStarts c_commentEnds t_skipped r3.1 r3.2.1 r3.2.2
    ) else (
      (f_X3_put 32 r3.1 r3.2.1 r3.2.2).bind fun r5 =>
      jn_X3_layEnd_97 c_size c_text c_starts c_lengths c_firstComments c_commentStarts c_commentEnds t_skipped r5.1 r5.2.1 r5.2.2
    )
  )
noncomputable def jn_X3_layEnd_38 (c_size : Int32) (c_text : Nat → Int32) (c_starts : Nat → Int32) (c_lengths : Nat → Int32) (c_firstComments : Nat → Int32) (c_commentStarts : Nat → Int32) (c_commentEnds : Nat → Int32) (t_skipped : Int32)  (x1 : Int32) (p_size : Int32) (p_column : Int32) (p_sheet : Nat → Int32) : Option ((Int32) × (Int32) × (Nat → Int32)) :=
  if p_size ≤ 0 then (
    jn_X3_layEnd_51 c_size c_text c_starts c_lengths c_firstComments c_commentStarts c_commentEnds t_skipped x1 p_size p_column p_sheet
  ) else (
    (f_X3_put 10 p_size p_column p_sheet).bind fun r6 =>
    jn_X3_layEnd_51 c_size c_text c_starts c_lengths c_firstComments c_commentStarts c_commentEnds t_skipped x1 r6.1 r6.2.1 r6.2.2
  )
noncomputable def jn_X3_layEnd_22 (c_size : Int32) (c_text : Nat → Int32) (c_starts : Nat → Int32) (c_lengths : Nat → Int32) (c_firstComments : Nat → Int32) (c_commentStarts : Nat → Int32) (c_commentEnds : Nat → Int32) (t_skipped : Int32)  (s0 : Int32) (p_size : Int32) (p_column : Int32) (p_sheet : Nat → Int32) : Option ((Int32) × (Int32) × (Nat → Int32)) :=
  nm s0 fun x1_2 =>
  if t_skipped = 0 then (
    if x1_2 = 0 then (
      some (p_size, p_column, p_sheet)
    ) else (
      jn_X3_layEnd_38 c_size c_text c_starts c_lengths c_firstComments c_commentStarts c_commentEnds t_skipped x1_2 p_size p_column p_sheet
    )
  ) else (
    jn_X3_layEnd_38 c_size c_text c_starts c_lengths c_firstComments c_commentStarts c_commentEnds t_skipped x1_2 p_size p_column p_sheet
  )
noncomputable def f_X3_layEnd (c_size : Int32) (c_text : Nat → Int32) (c_starts : Nat → Int32) (c_lengths : Nat → Int32) (c_firstComments : Nat → Int32) (c_commentStarts : Nat → Int32) (c_commentEnds : Nat → Int32) (t_skipped : Int32) (p_size : Int32) (p_column : Int32) (p_sheet : Nat → Int32) : Option ((Int32) × (Int32) × (Nat → Int32)) :=
  (f_X1_commentsOf c_size c_size c_firstComments).bind fun r1 =>
  if r1 ≤ 0 then (
    jn_X3_layEnd_22 c_size c_text c_starts c_lengths c_firstComments c_commentStarts c_commentEnds t_skipped 0 p_size p_column p_sheet
  ) else (
    jn_X3_layEnd_22 c_size c_text c_starts c_lengths c_firstComments c_commentStarts c_commentEnds t_skipped 1 p_size p_column p_sheet
  )
noncomputable def jn_X3_layOut_45 (g_ins : Nat → Int32) (c_size : Int32) (c_text : Nat → Int32) (c_starts : Nat → Int32) (c_lengths : Nat → Int32) (c_firstComments : Nat → Int32) (c_commentStarts : Nat → Int32) (c_commentEnds : Nat → Int32) (t_size : Int32) (t_skipped : Int32) (t_cells : Nat → Int32) (t_hints : Nat → Int32) (k16 : (Int32) → (Int32) → (Int32) → (Int32) → (Nat → Int32) → (Nat → Int32) → (Nat → Int32) → (Nat → Int32) → Option ((Int32) × (Int32) × (Nat → Int32) × (Nat → Int32) × (Nat → Int32) × (Nat → Int32))) (x1 : Int32) (x2 : Int32) (p_size : Int32) (p_column : Int32) (p_sheet : Nat → Int32) (p_flats : Nat → Int32) (p_broken : Nat → Int32) (p_indents : Nat → Int32) : Option ((Int32) × (Int32) × (Nat → Int32) × (Nat → Int32) × (Nat → Int32) × (Nat → Int32)) :=
  nm (x2 + Int32.ofInt 1) fun x2_4 =>
  k16 x1 x2_4 p_size p_column p_sheet p_flats p_broken p_indents
noncomputable def lp_X3_layOut_16 (g_ins : Nat → Int32) (c_size : Int32) (c_text : Nat → Int32) (c_starts : Nat → Int32) (c_lengths : Nat → Int32) (c_firstComments : Nat → Int32) (c_commentStarts : Nat → Int32) (c_commentEnds : Nat → Int32) (t_size : Int32) (t_skipped : Int32) (t_cells : Nat → Int32) (t_hints : Nat → Int32) (k51 : (Int32) → (Int32) → (Nat → Int32) → (Nat → Int32) → (Nat → Int32) → (Nat → Int32) → Option ((Int32) × (Int32) × (Nat → Int32) × (Nat → Int32) × (Nat → Int32) × (Nat → Int32))) : Nat → (Int32) → (Int32) → (Int32) → (Int32) → (Nat → Int32) → (Nat → Int32) → (Nat → Int32) → (Nat → Int32) → Option ((Int32) × (Int32) × (Nat → Int32) × (Nat → Int32) × (Nat → Int32) × (Nat → Int32))
  | 0, _, _, _, _, _, _, _, _ => none
  | n + 1, x1, x2, p_size, p_column, p_sheet, p_flats, p_broken, p_indents =>
    if t_size ≤ x2 then (
      k51 p_size p_column p_sheet p_flats p_broken p_indents
    ) else (
      (f_X4_cell x2 4 t_cells).bind fun r3 =>
      if r3 ≤ 0 then (
        jn_X3_layOut_45 g_ins c_size c_text c_starts c_lengths c_firstComments c_commentStarts c_commentEnds t_size t_skipped t_cells t_hints (lp_X3_layOut_16 g_ins c_size c_text c_starts c_lengths c_firstComments c_commentStarts c_commentEnds t_size t_skipped t_cells t_hints k51 n) x1 x2 p_size p_column p_sheet p_flats p_broken p_indents
      ) else (
        (f_X3_layPart x2 x1 g_ins c_size c_text c_starts c_lengths c_firstComments c_commentStarts c_commentEnds t_cells t_hints p_flats p_size p_column p_sheet p_broken p_indents).bind fun r5 =>
        jn_X3_layOut_45 g_ins c_size c_text c_starts c_lengths c_firstComments c_commentStarts c_commentEnds t_size t_skipped t_cells t_hints (lp_X3_layOut_16 g_ins c_size c_text c_starts c_lengths c_firstComments c_commentStarts c_commentEnds t_size t_skipped t_cells t_hints k51 n) x1 x2 r5.1 r5.2.1 r5.2.2.1 p_flats r5.2.2.2.1 r5.2.2.2.2
      )
    )
noncomputable def f_X3_layOut (a1 : Int32) (g_ins : Nat → Int32) (c_size : Int32) (c_text : Nat → Int32) (c_starts : Nat → Int32) (c_lengths : Nat → Int32) (c_firstComments : Nat → Int32) (c_commentStarts : Nat → Int32) (c_commentEnds : Nat → Int32) (t_size : Int32) (t_skipped : Int32) (t_cells : Nat → Int32) (t_hints : Nat → Int32) (p_size : Int32) (p_column : Int32) (p_sheet : Nat → Int32) (p_flats : Nat → Int32) (p_broken : Nat → Int32) (p_indents : Nat → Int32) : Option ((Int32) × (Int32) × (Nat → Int32) × (Nat → Int32) × (Nat → Int32) × (Nat → Int32)) :=
  (f_X3_measure c_size c_text c_starts c_lengths c_firstComments c_commentStarts c_commentEnds t_size t_cells t_hints p_flats).bind fun r1 =>
  nm (0 : Int32) fun x2_2 =>
  lp_X3_layOut_16 g_ins c_size c_text c_starts c_lengths c_firstComments c_commentStarts c_commentEnds t_size t_skipped t_cells t_hints
    (fun p_size p_column p_sheet p_flats p_broken p_indents =>
    (f_X3_layEnd c_size c_text c_starts c_lengths c_firstComments c_commentStarts c_commentEnds t_skipped p_size p_column p_sheet).bind fun r6 =>
    some (r6.1, r6.2.1, r6.2.2, p_flats, p_broken, p_indents))
    FU a1 x2_2 0 0 p_sheet r1 p_broken p_indents
noncomputable def f_X6_thrown (m_thrown : Int32) : Option (Int32) :=
  some m_thrown
noncomputable def f_X6_fail (a1 : Int32) (m_thrown : Int32) : Option (Int32 × (Int32)) :=
  some (0, a1)
noncomputable def jn_X6_below_14   (s0 : Int32) : Option (Int32) :=
  (zc s0).bind fun v1 => some v1
noncomputable def jn_X6_below_13    : Option (Int32) :=
  jn_X6_below_14  0
noncomputable def f_X6_below (a0 : Int32) (a1 : Int32) : Option (Int32) :=
  if a0 < 0 then (
    jn_X6_below_13 
  ) else (
    if a1 ≤ a0 then (
      jn_X6_below_13 
    ) else (
      jn_X6_below_14  1
    )
  )
noncomputable def jn_X6_rule_72  (k38 : (Int32) → (Int32) → (Int32) → (Int32) → (Int32) → (Int32) → (Int32) → (Int32) → (Int32) → (Int32) → (Nat → Int32) → (Nat → Int32) → (Nat → Int32) → (Nat → Int32) → (Nat → Int32) → Option (Int32 × (Int32) × (Int32) × (Int32) × (Nat → Int32) × (Nat → Int32) × (Nat → Int32) × (Nat → Int32) × (Nat → Int32))) (x1 : Int32) (x2 : Int32) (x3 : Int32) (x4 : Int32) (x5 : Int32) (x7 : Int32) (s0 : Int32) (m_thrown : Int32) (m_rules : Int32) (m_tree : Int32) (m_head : Nat → Int32) (m_size : Nat → Int32) (m_symbol : Nat → Int32) (m_hint : Nat → Int32) (m_in : Nat → Int32) : Option (Int32 × (Int32) × (Int32) × (Int32) × (Nat → Int32) × (Nat → Int32) × (Nat → Int32) × (Nat → Int32) × (Nat → Int32)) :=
  nm s0 fun x6_4 =>
  nm (x5 + Int32.ofInt 1) fun x5_5 =>
  nm (x7 / 16) fun x7_6 =>
  k38 x1 x2 x3 x4 x5_5 x6_4 x7_6 m_thrown m_rules m_tree m_head m_size m_symbol m_hint m_in
noncomputable def jn_X6_rule_71  (k38 : (Int32) → (Int32) → (Int32) → (Int32) → (Int32) → (Int32) → (Int32) → (Int32) → (Int32) → (Int32) → (Nat → Int32) → (Nat → Int32) → (Nat → Int32) → (Nat → Int32) → (Nat → Int32) → Option (Int32 × (Int32) × (Int32) × (Int32) × (Nat → Int32) × (Nat → Int32) × (Nat → Int32) × (Nat → Int32) × (Nat → Int32))) (x1 : Int32) (x2 : Int32) (x3 : Int32) (x4 : Int32) (x5 : Int32) (x7 : Int32) (m_thrown : Int32) (m_rules : Int32) (m_tree : Int32) (m_head : Nat → Int32) (m_size : Nat → Int32) (m_symbol : Nat → Int32) (m_hint : Nat → Int32) (m_in : Nat → Int32) : Option (Int32 × (Int32) × (Int32) × (Int32) × (Nat → Int32) × (Nat → Int32) × (Nat → Int32) × (Nat → Int32) × (Nat → Int32)) :=
  jn_X6_rule_72  k38 x1 x2 x3 x4 x5 x7 0 m_thrown m_rules m_tree m_head m_size m_symbol m_hint m_in
noncomputable def lp_X6_rule_38  (k87 : (Int32) → (Int32) → (Int32) → (Int32) → (Int32) → (Int32) → (Int32) → (Int32) → (Int32) → (Nat → Int32) → (Nat → Int32) → (Nat → Int32) → (Nat → Int32) → (Nat → Int32) → Option (Int32 × (Int32) × (Int32) × (Int32) × (Nat → Int32) × (Nat → Int32) × (Nat → Int32) × (Nat → Int32) × (Nat → Int32))) : Nat → (Int32) → (Int32) → (Int32) → (Int32) → (Int32) → (Int32) → (Int32) → (Int32) → (Int32) → (Int32) → (Nat → Int32) → (Nat → Int32) → (Nat → Int32) → (Nat → Int32) → (Nat → Int32) → Option (Int32 × (Int32) × (Int32) × (Int32) × (Nat → Int32) × (Nat → Int32) × (Nat → Int32) × (Nat → Int32) × (Nat → Int32))
  | 0, _, _, _, _, _, _, _, _, _, _, _, _, _, _, _ => none
  | n + 1, x1, x2, x3, x4, x5, x6, x7, m_thrown, m_rules, m_tree, m_head, m_size, m_symbol, m_hint, m_in =>
    if x7 ≤ 0 then (
      k87 x1 x2 x3 x4 x5 x6 m_thrown m_rules m_tree m_head m_size m_symbol m_hint m_in
    ) else (
      if x6 = 0 then (
        jn_X6_rule_71  (lp_X6_rule_38  k87 n) x1 x2 x3 x4 x5 x7 m_thrown m_rules m_tree m_head m_size m_symbol m_hint m_in
      ) else (
        if (x7 - x7 / 16 * 16) < 1 then (
          jn_X6_rule_71  (lp_X6_rule_38  k87 n) x1 x2 x3 x4 x5 x7 m_thrown m_rules m_tree m_head m_size m_symbol m_hint m_in
        ) else (
          if 14 < (x7 - x7 / 16 * 16) then (
            jn_X6_rule_71  (lp_X6_rule_38  k87 n) x1 x2 x3 x4 x5 x7 m_thrown m_rules m_tree m_head m_size m_symbol m_hint m_in
          ) else (
            jn_X6_rule_72  (lp_X6_rule_38  k87 n) x1 x2 x3 x4 x5 x7 1 m_thrown m_rules m_tree m_head m_size m_symbol m_hint m_in
          )
        )
      )
    )
noncomputable def jn_X6_rule_118  (k93 : (Int32) → (Int32) → (Int32) → (Int32) → (Int32) → (Int32) → (Int32) → (Int32) → (Int32) → (Int32) → (Int32) → (Nat → Int32) → (Nat → Int32) → (Nat → Int32) → (Nat → Int32) → (Nat → Int32) → Option (Int32 × (Int32) × (Int32) × (Int32) × (Nat → Int32) × (Nat → Int32) × (Nat → Int32) × (Nat → Int32) × (Nat → Int32))) (x1 : Int32) (x2 : Int32) (x3 : Int32) (x4 : Int32) (x5 : Int32) (x7 : Int32) (x8 : Int32) (s0 : Int32) (m_thrown : Int32) (m_rules : Int32) (m_tree : Int32) (m_head : Nat → Int32) (m_size : Nat → Int32) (m_symbol : Nat → Int32) (m_hint : Nat → Int32) (m_in : Nat → Int32) : Option (Int32 × (Int32) × (Int32) × (Int32) × (Nat → Int32) × (Nat → Int32) × (Nat → Int32) × (Nat → Int32) × (Nat → Int32)) :=
  nm s0 fun x6_9 =>
  nm (x7 / 4) fun x7_10 =>
  nm (x8 + Int32.ofInt 1) fun x8_11 =>
  k93 x1 x2 x3 x4 x5 x6_9 x7_10 x8_11 m_thrown m_rules m_tree m_head m_size m_symbol m_hint m_in
noncomputable def jn_X6_rule_117  (k93 : (Int32) → (Int32) → (Int32) → (Int32) → (Int32) → (Int32) → (Int32) → (Int32) → (Int32) → (Int32) → (Int32) → (Nat → Int32) → (Nat → Int32) → (Nat → Int32) → (Nat → Int32) → (Nat → Int32) → Option (Int32 × (Int32) × (Int32) × (Int32) × (Nat → Int32) × (Nat → Int32) × (Nat → Int32) × (Nat → Int32) × (Nat → Int32))) (x1 : Int32) (x2 : Int32) (x3 : Int32) (x4 : Int32) (x5 : Int32) (x7 : Int32) (x8 : Int32) (m_thrown : Int32) (m_rules : Int32) (m_tree : Int32) (m_head : Nat → Int32) (m_size : Nat → Int32) (m_symbol : Nat → Int32) (m_hint : Nat → Int32) (m_in : Nat → Int32) : Option (Int32 × (Int32) × (Int32) × (Int32) × (Nat → Int32) × (Nat → Int32) × (Nat → Int32) × (Nat → Int32) × (Nat → Int32)) :=
  jn_X6_rule_118  k93 x1 x2 x3 x4 x5 x7 x8 0 m_thrown m_rules m_tree m_head m_size m_symbol m_hint m_in
noncomputable def lp_X6_rule_93  (k132 : (Int32) → (Int32) → (Int32) → (Int32) → (Int32) → (Int32) → (Int32) → (Int32) → (Int32) → (Int32) → (Nat → Int32) → (Nat → Int32) → (Nat → Int32) → (Nat → Int32) → (Nat → Int32) → Option (Int32 × (Int32) × (Int32) × (Int32) × (Nat → Int32) × (Nat → Int32) × (Nat → Int32) × (Nat → Int32) × (Nat → Int32))) : Nat → (Int32) → (Int32) → (Int32) → (Int32) → (Int32) → (Int32) → (Int32) → (Int32) → (Int32) → (Int32) → (Int32) → (Nat → Int32) → (Nat → Int32) → (Nat → Int32) → (Nat → Int32) → (Nat → Int32) → Option (Int32 × (Int32) × (Int32) × (Int32) × (Nat → Int32) × (Nat → Int32) × (Nat → Int32) × (Nat → Int32) × (Nat → Int32))
  | 0, _, _, _, _, _, _, _, _, _, _, _, _, _, _, _, _ => none
  | n + 1, x1, x2, x3, x4, x5, x6, x7, x8, m_thrown, m_rules, m_tree, m_head, m_size, m_symbol, m_hint, m_in =>
    if x5 ≤ x8 then (
      k132 x1 x2 x3 x4 x5 x6 x7 m_thrown m_rules m_tree m_head m_size m_symbol m_hint m_in
    ) else (
      if x6 = 0 then (
        jn_X6_rule_117  (lp_X6_rule_93  k132 n) x1 x2 x3 x4 x5 x7 x8 m_thrown m_rules m_tree m_head m_size m_symbol m_hint m_in
      ) else (
        if 3 ≤ (x7 - x7 / 4 * 4) then (
          jn_X6_rule_117  (lp_X6_rule_93  k132 n) x1 x2 x3 x4 x5 x7 x8 m_thrown m_rules m_tree m_head m_size m_symbol m_hint m_in
        ) else (
          jn_X6_rule_118  (lp_X6_rule_93  k132 n) x1 x2 x3 x4 x5 x7 x8 1 m_thrown m_rules m_tree m_head m_size m_symbol m_hint m_in
        )
      )
    )
noncomputable def jn_X6_rule_148   (m_thrown : Int32) (m_rules : Int32) (m_tree : Int32) (m_head : Nat → Int32) (m_size : Nat → Int32) (m_symbol : Nat → Int32) (m_hint : Nat → Int32) (m_in : Nat → Int32) : Option (Int32 × (Int32) × (Int32) × (Int32) × (Nat → Int32) × (Nat → Int32) × (Nat → Int32) × (Nat → Int32) × (Nat → Int32)) :=
  (f_X6_fail 1 m_thrown).bind fun r12 =>
  some (r12.1, r12.2, m_rules, m_tree, m_head, m_size, m_symbol, m_hint, m_in)
noncomputable def lp_X6_rule_181  (k242 : (Int32) → (Int32) → (Int32) → (Int32) → (Int32) → (Int32) → (Nat → Int32) → (Nat → Int32) → (Nat → Int32) → (Nat → Int32) → (Nat → Int32) → Option (Int32 × (Int32) × (Int32) × (Int32) × (Nat → Int32) × (Nat → Int32) × (Nat → Int32) × (Nat → Int32) × (Nat → Int32))) : Nat → (Int32) → (Int32) → (Int32) → (Int32) → (Int32) → (Int32) → (Int32) → (Int32) → (Int32) → (Nat → Int32) → (Nat → Int32) → (Nat → Int32) → (Nat → Int32) → (Nat → Int32) → Option (Int32 × (Int32) × (Int32) × (Int32) × (Nat → Int32) × (Nat → Int32) × (Nat → Int32) × (Nat → Int32) × (Nat → Int32))
  | 0, _, _, _, _, _, _, _, _, _, _, _, _, _, _ => none
  | n + 1, x1, x4, x5, x7, x8, x9, m_thrown, m_rules, m_tree, m_head, m_size, m_symbol, m_hint, m_in =>
    if x9 < 0 then (
      k242 x1 x4 x5 m_thrown m_rules m_tree m_head m_size m_symbol m_hint m_in
    ) else (
      (wrI m_symbol 100 ((5 * m_rules) + x9) (x8 - x8 / 16 * 16)).bind fun m_symbol_17 =>
      (wrI m_hint 100 ((5 * m_rules) + x9) (x7 - x7 / 4 * 4)).bind fun m_hint_18 =>
      nm (x8 / 16) fun x8_19 =>
      nm (x7 / 4) fun x7_20 =>
      nm (x9 + Int32.ofInt (-1)) fun x9_21 =>
      (lp_X6_rule_181  k242 n) x1 x4 x5 x7_20 x8_19 x9_21 m_thrown m_rules m_tree m_head m_size m_symbol_17 m_hint_18 m_in
    )
noncomputable def jn_X6_rule_33   (x1 : Int32) (x2 : Int32) (x3 : Int32) (x4 : Int32) (x5 : Int32) (s0 : Int32) (m_thrown : Int32) (m_rules : Int32) (m_tree : Int32) (m_head : Nat → Int32) (m_size : Nat → Int32) (m_symbol : Nat → Int32) (m_hint : Nat → Int32) (m_in : Nat → Int32) : Option (Int32 × (Int32) × (Int32) × (Int32) × (Nat → Int32) × (Nat → Int32) × (Nat → Int32) × (Nat → Int32) × (Nat → Int32)) :=
  nm s0 fun x6_2 =>
  nm x2 fun x7_3 =>
  lp_X6_rule_38 
    (fun x1 x2 x3 x4 x5 x6 m_thrown m_rules m_tree m_head m_size m_symbol m_hint m_in =>
    nm x3 fun x7_7 =>
    nm (1 : Int32) fun x8_8 =>
    lp_X6_rule_93 
      (fun x1 x2 x3 x4 x5 x6 x7 m_thrown m_rules m_tree m_head m_size m_symbol m_hint m_in =>
      if x6 = 0 then (
        jn_X6_rule_148  m_thrown m_rules m_tree m_head m_size m_symbol m_hint m_in
      ) else (
        if 5 < x5 then (
          jn_X6_rule_148  m_thrown m_rules m_tree m_head m_size m_symbol m_hint m_in
        ) else (
          if x7 = 0 then (
            if m_rules = 20 then (
              (f_X6_fail 2 m_thrown).bind fun r13 =>
              some (r13.1, r13.2, m_rules, m_tree, m_head, m_size, m_symbol, m_hint, m_in)
            ) else (
              nm x2 fun x8_14 =>
              nm x3 fun x7_15 =>
              nm (x5 - 1) fun x9_16 =>
              lp_X6_rule_181 
                (fun x1 x4 x5 m_thrown m_rules m_tree m_head m_size m_symbol m_hint m_in =>
                (wrI m_head 20 m_rules x1).bind fun m_head_22 =>
                (wrI m_size 20 m_rules x5).bind fun m_size_23 =>
                (wrI m_in 20 m_rules (vp_nar .boolean x4)).bind fun m_in_24 =>
                some (((m_rules + 1)) - 1, m_thrown, ((m_rules + 1)), 0, m_head_22, m_size_23, m_symbol, m_hint, m_in_24))
                FU x1 x4 x5 x7_15 x8_14 x9_16 m_thrown m_rules m_tree m_head m_size m_symbol m_hint m_in
            )
          ) else (
            jn_X6_rule_148  m_thrown m_rules m_tree m_head m_size m_symbol m_hint m_in
          )
        )
      ))
      FU x1 x2 x3 x4 x5 x6 x7_7 x8_8 m_thrown m_rules m_tree m_head m_size m_symbol m_hint m_in)
    FU x1 x2 x3 x4 x5 x6_2 x7_3 m_thrown m_rules m_tree m_head m_size m_symbol m_hint m_in
noncomputable def jn_X6_rule_32   (x1 : Int32) (x2 : Int32) (x3 : Int32) (x4 : Int32) (x5 : Int32) (m_thrown : Int32) (m_rules : Int32) (m_tree : Int32) (m_head : Nat → Int32) (m_size : Nat → Int32) (m_symbol : Nat → Int32) (m_hint : Nat → Int32) (m_in : Nat → Int32) : Option (Int32 × (Int32) × (Int32) × (Int32) × (Nat → Int32) × (Nat → Int32) × (Nat → Int32) × (Nat → Int32) × (Nat → Int32)) :=
  jn_X6_rule_33  x1 x2 x3 x4 x5 0 m_thrown m_rules m_tree m_head m_size m_symbol m_hint m_in
noncomputable def f_X6_rule (a1 : Int32) (a2 : Int32) (a3 : Int32) (a4 : Int32) (m_thrown : Int32) (m_rules : Int32) (m_tree : Int32) (m_head : Nat → Int32) (m_size : Nat → Int32) (m_symbol : Nat → Int32) (m_hint : Nat → Int32) (m_in : Nat → Int32) : Option (Int32 × (Int32) × (Int32) × (Int32) × (Nat → Int32) × (Nat → Int32) × (Nat → Int32) × (Nat → Int32) × (Nat → Int32)) :=
  nm (0 : Int32) fun x5_1 =>
  if a1 < 9 then (
    jn_X6_rule_32  a1 a2 a3 a4 x5_1 0 m_rules m_tree m_head m_size m_symbol m_hint m_in
  ) else (
    if 14 < a1 then (
      jn_X6_rule_32  a1 a2 a3 a4 x5_1 0 m_rules m_tree m_head m_size m_symbol m_hint m_in
    ) else (
      if a2 < 0 then (
        jn_X6_rule_32  a1 a2 a3 a4 x5_1 0 m_rules m_tree m_head m_size m_symbol m_hint m_in
      ) else (
        if a3 < 0 then (
          jn_X6_rule_32  a1 a2 a3 a4 x5_1 0 m_rules m_tree m_head m_size m_symbol m_hint m_in
        ) else (
          jn_X6_rule_33  a1 a2 a3 a4 x5_1 1 0 m_rules m_tree m_head m_size m_symbol m_hint m_in
        )
      )
    )
  )
noncomputable def jn_X6_write_16   (m_thrown : Int32) (m_length : Int32) (m_text : Nat → Int32) : Option (Int32 × (Int32) × (Int32) × (Nat → Int32)) :=
  (f_X6_fail 1 m_thrown).bind fun r1 =>
  some (r1.1, r1.2, m_length, m_text)
noncomputable def jn_X6_write_72  (k25 : (Int64) → (Int32) → (Int32) → (Int32) → (Int32) → (Nat → Int32) → Option (Int32 × (Int32) × (Int32) × (Nat → Int32))) (x1 : Int64) (x3 : Int32) (x4 : Int32) (m_thrown : Int32) (m_length : Int32) (m_text : Nat → Int32) : Option (Int32 × (Int32) × (Int32) × (Nat → Int32)) :=
  nm (x4 + Int32.ofInt 1) fun x4_4 =>
  k25 x1 x3 x4_4 m_thrown m_length m_text
noncomputable def jn_X6_write_66   (m_thrown : Int32) (m_length : Int32) (m_text : Nat → Int32) : Option (Int32 × (Int32) × (Int32) × (Nat → Int32)) :=
  (f_X6_fail 1 m_thrown).bind fun r5 =>
  some (r5.1, r5.2, m_length, m_text)
noncomputable def lp_X6_write_25  (k78 : (Int64) → (Int32) → (Int32) → (Int32) → (Nat → Int32) → Option (Int32 × (Int32) × (Int32) × (Nat → Int32))) : Nat → (Int64) → (Int32) → (Int32) → (Int32) → (Int32) → (Nat → Int32) → Option (Int32 × (Int32) × (Int32) × (Nat → Int32))
  | 0, _, _, _, _, _, _ => none
  | n + 1, x1, x3, x4, m_thrown, m_length, m_text =>
    if x3 ≤ x4 then (
      k78 x1 x3 m_thrown m_length m_text
    ) else (
      nm (((x1 >>> ((8 * x4).toInt64 &&& 63)) &&& 255).toInt32) fun x5_3 =>
      if x5_3 = 10 then (
        jn_X6_write_72  (lp_X6_write_25  k78 n) x1 x3 x4 m_thrown m_length m_text
      ) else (
        if x5_3 < 32 then (
          jn_X6_write_66  m_thrown m_length m_text
        ) else (
          if x5_3 ≤ 126 then (
            jn_X6_write_72  (lp_X6_write_25  k78 n) x1 x3 x4 m_thrown m_length m_text
          ) else (
            jn_X6_write_66  m_thrown m_length m_text
          )
        )
      )
    )
noncomputable def lp_X6_write_98  (k134 : (Int32) → (Int32) → (Int32) → (Nat → Int32) → Option (Int32 × (Int32) × (Int32) × (Nat → Int32))) : Nat → (Int64) → (Int32) → (Int32) → (Int32) → (Int32) → (Nat → Int32) → Option (Int32 × (Int32) × (Int32) × (Nat → Int32))
  | 0, _, _, _, _, _, _ => none
  | n + 1, x1, x3, x4, m_thrown, m_length, m_text =>
    if x3 ≤ x4 then (
      k134 x3 m_thrown m_length m_text
    ) else (
      (wrI m_text 80 (m_length + x4) (((x1 >>> ((8 * x4).toInt64 &&& 63)) &&& 255).toInt32)).bind fun m_text_7 =>
      nm (x4 + Int32.ofInt 1) fun x4_8 =>
      (lp_X6_write_98  k134 n) x1 x3 x4_8 m_thrown m_length m_text_7
    )
noncomputable def f_X6_write (a1 : Int64) (a3 : Int32) (m_thrown : Int32) (m_length : Int32) (m_text : Nat → Int32) : Option (Int32 × (Int32) × (Int32) × (Nat → Int32)) :=
  if a3 < 1 then (
    jn_X6_write_16  0 m_length m_text
  ) else (
    if a3 ≤ 8 then (
      nm (0 : Int32) fun x4_2 =>
      lp_X6_write_25 
        (fun x1 x3 m_thrown m_length m_text =>
        if (m_length + x3) ≤ 80 then (
          nm (0 : Int32) fun x4_6 =>
          lp_X6_write_98 
            (fun x3 m_thrown m_length m_text =>
            some ((m_length + x3), m_thrown, ((m_length + x3)), m_text))
            FU x1 x3 x4_6 m_thrown m_length m_text
        ) else (
          (f_X6_fail 2 m_thrown).bind fun r10 =>
          some (r10.1, r10.2, m_length, m_text)
        ))
        FU a1 a3 x4_2 0 m_length m_text
    ) else (
      jn_X6_write_16  0 m_length m_text
    )
  )
noncomputable def f_X6_erase (m_thrown : Int32) (m_length : Int32) : Option (Int32 × (Int32) × (Int32)) :=
  nm m_length fun x1_1 =>
  some (x1_1, 0, 0)
noncomputable def jn_X6_ground_80 (m_rules : Int32) (m_head : Nat → Int32) (m_size : Nat → Int32) (m_symbol : Nat → Int32) (k28 : (Int32) → (Int32) → (Int32) → (Int32) → (Int32) → Option (Int32)) (x1 : Int32) (x2 : Int32) (x3 : Int32) (x5 : Int32) (s0 : Int32) : Option (Int32) :=
  nm s0 fun x4_7 =>
  nm (x5 + Int32.ofInt 1) fun x5_8 =>
  k28 x1 x2 x3 x4_7 x5_8
noncomputable def jn_X6_ground_79 (m_rules : Int32) (m_head : Nat → Int32) (m_size : Nat → Int32) (m_symbol : Nat → Int32) (k28 : (Int32) → (Int32) → (Int32) → (Int32) → (Int32) → Option (Int32)) (x1 : Int32) (x2 : Int32) (x3 : Int32) (x5 : Int32) : Option (Int32) :=
  jn_X6_ground_80 m_rules m_head m_size m_symbol k28 x1 x2 x3 x5 0
noncomputable def jn_X6_ground_75 (m_rules : Int32) (m_head : Nat → Int32) (m_size : Nat → Int32) (m_symbol : Nat → Int32) (k28 : (Int32) → (Int32) → (Int32) → (Int32) → (Int32) → Option (Int32)) (x1 : Int32) (x2 : Int32) (x3 : Int32) (x5 : Int32) : Option (Int32) :=
  jn_X6_ground_80 m_rules m_head m_size m_symbol k28 x1 x2 x3 x5 1
noncomputable def lp_X6_ground_28 (m_rules : Int32) (m_head : Nat → Int32) (m_size : Nat → Int32) (m_symbol : Nat → Int32) (k88 : (Int32) → (Int32) → (Int32) → (Int32) → Option (Int32)) : Nat → (Int32) → (Int32) → (Int32) → (Int32) → (Int32) → Option (Int32)
  | 0, _, _, _, _, _ => none
  | n + 1, x1, x2, x3, x4, x5 =>
    (rd m_size 20 x3).bind fun v6 =>
    if ((5 * x3) + v6) ≤ x5 then (
      k88 x1 x2 x3 x4
    ) else (
      if x4 = 0 then (
        jn_X6_ground_79 m_rules m_head m_size m_symbol (lp_X6_ground_28 m_rules m_head m_size m_symbol k88 n) x1 x2 x3 x5
      ) else (
        (rd m_symbol 100 x5).bind fun v9 =>
        if v9 < 9 then (
          jn_X6_ground_75 m_rules m_head m_size m_symbol (lp_X6_ground_28 m_rules m_head m_size m_symbol k88 n) x1 x2 x3 x5
        ) else (
          (rd m_symbol 100 x5).bind fun v10 =>
          if ((x1 >>> (v10 &&& 31)) &&& 1) = 1 then (
            jn_X6_ground_75 m_rules m_head m_size m_symbol (lp_X6_ground_28 m_rules m_head m_size m_symbol k88 n) x1 x2 x3 x5
          ) else (
            jn_X6_ground_79 m_rules m_head m_size m_symbol (lp_X6_ground_28 m_rules m_head m_size m_symbol k88 n) x1 x2 x3 x5
          )
        )
      )
    )
noncomputable def jn_X6_ground_106 (m_rules : Int32) (m_head : Nat → Int32) (m_size : Nat → Int32) (m_symbol : Nat → Int32) (k12 : (Int32) → (Int32) → (Int32) → Option (Int32)) (x2 : Int32) (x3 : Int32) (s0 : Int32) (s1 : Int32) : Option (Int32) :=
  nm (s0 ||| s1) fun x1_11 =>
  nm (x3 + Int32.ofInt 1) fun x3_12 =>
  k12 x1_11 x2 x3_12
noncomputable def lp_X6_ground_12 (m_rules : Int32) (m_head : Nat → Int32) (m_size : Nat → Int32) (m_symbol : Nat → Int32) (k114 : (Int32) → (Int32) → Option (Int32)) : Nat → (Int32) → (Int32) → (Int32) → Option (Int32)
  | 0, _, _, _ => none
  | n + 1, x1, x2, x3 =>
    if m_rules ≤ x3 then (
      k114 x1 x2
    ) else (
      nm (1 : Int32) fun x4_4 =>
      nm (5 * x3) fun x5_5 =>
      lp_X6_ground_28 m_rules m_head m_size m_symbol
        (fun x1 x2 x3 x4 =>
        if x4 = 0 then (
          jn_X6_ground_106 m_rules m_head m_size m_symbol (lp_X6_ground_12 m_rules m_head m_size m_symbol k114 n) x2 x3 x1 0
        ) else (
          (rd m_head 20 x3).bind fun v13 =>
          jn_X6_ground_106 m_rules m_head m_size m_symbol (lp_X6_ground_12 m_rules m_head m_size m_symbol k114 n) x2 x3 x1 (1 <<< (v13 &&& 31))
        ))
        FU x1 x2 x3 x4_4 x5_5
    )
noncomputable def lp_X6_ground_4 (m_rules : Int32) (m_head : Nat → Int32) (m_size : Nat → Int32) (m_symbol : Nat → Int32) (k120 : (Int32) → Option (Int32)) : Nat → (Int32) → (Int32) → Option (Int32)
  | 0, _, _ => none
  | n + 1, x1, x2 =>
    if 6 ≤ x2 then (
      k120 x1
    ) else (
      nm (0 : Int32) fun x3_3 =>
      lp_X6_ground_12 m_rules m_head m_size m_symbol
        (fun x1 x2 =>
        nm (x2 + Int32.ofInt 1) fun x2_14 =>
        (lp_X6_ground_4 m_rules m_head m_size m_symbol k120 n) x1 x2_14)
        FU x1 x2 x3_3
    )
noncomputable def f_X6_ground (m_rules : Int32) (m_head : Nat → Int32) (m_size : Nat → Int32) (m_symbol : Nat → Int32) : Option (Int32) :=
  nm (0 : Int32) fun x1_1 =>
  nm (0 : Int32) fun x2_2 =>
  lp_X6_ground_4 m_rules m_head m_size m_symbol
    (fun x1 =>
    some x1)
    FU x1_1 x2_2
noncomputable def jn_X6_grounded_34 (m_rules : Int32) (m_head : Nat → Int32) (m_size : Nat → Int32) (m_symbol : Nat → Int32)  (s0 : Int32) (m_thrown : Int32) : Option (Int32 × (Int32)) :=
  (zc s0).bind fun v1 => some (v1, m_thrown)
noncomputable def jn_X6_grounded_33 (m_rules : Int32) (m_head : Nat → Int32) (m_size : Nat → Int32) (m_symbol : Nat → Int32)  (m_thrown : Int32) : Option (Int32 × (Int32)) :=
  jn_X6_grounded_34 m_rules m_head m_size m_symbol 0 m_thrown
noncomputable def f_X6_grounded (a1 : Int32) (m_rules : Int32) (m_head : Nat → Int32) (m_size : Nat → Int32) (m_symbol : Nat → Int32) (m_thrown : Int32) : Option (Int32 × (Int32)) :=
  if a1 < 9 then (
    jn_X6_grounded_33 m_rules m_head m_size m_symbol 0
  ) else (
    if 14 < a1 then (
      jn_X6_grounded_33 m_rules m_head m_size m_symbol 0
    ) else (
      (f_X6_ground m_rules m_head m_size m_symbol).bind fun r2 =>
      if ((r2 >>> (a1 &&& 31)) &&& 1) = 1 then (
        jn_X6_grounded_34 m_rules m_head m_size m_symbol 1 0
      ) else (
        jn_X6_grounded_33 m_rules m_head m_size m_symbol 0
      )
    )
  )
noncomputable def lp_X6_commentEnd_4 (m_length : Int32) (m_text : Nat → Int32) (k29 : (Int32) → Option (Int32)) : Nat → (Int32) → Option (Int32)
  | 0, _ => none
  | n + 1, x2 =>
    if m_length ≤ x2 then (
      k29 x2
    ) else (
      (rd m_text 80 x2).bind fun v2 =>
      if v2 = 125 then (
        k29 x2
      ) else (
        nm (x2 + Int32.ofInt 1) fun x2_3 =>
        (lp_X6_commentEnd_4 m_length m_text k29 n) x2_3
      )
    )
noncomputable def jn_X6_commentEnd_44 (m_length : Int32) (m_text : Nat → Int32)  (s0 : Int32) : Option (Int32) :=
  some s0
noncomputable def jn_X6_commentEnd_29 (m_length : Int32) (m_text : Nat → Int32)  (x2 : Int32) : Option (Int32) :=
  if m_length ≤ x2 then (
    jn_X6_commentEnd_44 m_length m_text ((-1))
  ) else (
    jn_X6_commentEnd_44 m_length m_text (x2 + 1)
  )
noncomputable def f_X6_commentEnd (a1 : Int32) (m_length : Int32) (m_text : Nat → Int32) : Option (Int32) :=
  nm (a1 + 1) fun x2_1 =>
  lp_X6_commentEnd_4 m_length m_text
    (fun x2 =>
    jn_X6_commentEnd_29 m_length m_text x2)
    FU x2_1
noncomputable def lp_X6_tokenEnd_4 (m_length : Int32) (m_text : Nat → Int32) (k62 : (Int32) → Option (Int32)) : Nat → (Int32) → (Int32) → Option (Int32)
  | 0, _, _ => none
  | n + 1, x1, x2 =>
    (rd m_text 80 x1).bind fun v2 =>
    if v2 < 97 then (
      k62 x2
    ) else (
      (rd m_text 80 x1).bind fun v3 =>
      if 104 < v3 then (
        k62 x2
      ) else (
        if m_length ≤ x2 then (
          k62 x2
        ) else (
          (rd m_text 80 x2).bind fun v4 =>
          if v4 < 48 then (
            k62 x2
          ) else (
            (rd m_text 80 x2).bind fun v5 =>
            if 57 < v5 then (
              k62 x2
            ) else (
              nm (x2 + Int32.ofInt 1) fun x2_6 =>
              (lp_X6_tokenEnd_4 m_length m_text k62 n) x1 x2_6
            )
          )
        )
      )
    )
noncomputable def jn_X6_tokenEnd_62 (m_length : Int32) (m_text : Nat → Int32)  (x2 : Int32) : Option (Int32) :=
  some x2
noncomputable def f_X6_tokenEnd (a1 : Int32) (m_length : Int32) (m_text : Nat → Int32) : Option (Int32) :=
  nm (a1 + 1) fun x2_1 =>
  lp_X6_tokenEnd_4 m_length m_text
    (fun x2 =>
    jn_X6_tokenEnd_62 m_length m_text x2)
    FU a1 x2_1
noncomputable def lp_X6_cutText_236 (m_length : Int32) (m_text : Nat → Int32) (k259 : (Int32) → (Int32) → (Int32) → (Nat → Int32) → (Nat → Int32) → (Nat → Int32) → (Nat → Int32) → (Nat → Int32) → (Nat → Int32) → (Nat → Int32) → Option (Int32 × (Int32) × (Int32) × (Nat → Int32) × (Nat → Int32) × (Nat → Int32) × (Nat → Int32) × (Nat → Int32) × (Nat → Int32) × (Nat → Int32))) : Nat → (Int32) → (Int32) → (Int32) → (Int32) → (Nat → Int32) → (Nat → Int32) → (Nat → Int32) → (Nat → Int32) → (Nat → Int32) → (Nat → Int32) → (Nat → Int32) → Option (Int32 × (Int32) × (Int32) × (Nat → Int32) × (Nat → Int32) × (Nat → Int32) × (Nat → Int32) × (Nat → Int32) × (Nat → Int32) × (Nat → Int32))
  | 0, _, _, _, _, _, _, _, _, _, _, _ => none
  | n + 1, x2, x3, m_tokens, m_comments, m_kept, m_tokenAt, m_tokenLength, m_sign, m_commentAt, m_commentLength, m_firstComment =>
    if x2 ≤ x3 then (
      k259 x2 m_tokens m_comments m_kept m_tokenAt m_tokenLength m_sign m_commentAt m_commentLength m_firstComment
    ) else (
      (rd m_text 80 x3).bind fun v11 =>
      (wrI m_kept 80 x3 v11).bind fun m_kept_12 =>
      nm (x3 + Int32.ofInt 1) fun x3_13 =>
      (lp_X6_cutText_236 m_length m_text k259 n) x2 x3_13 m_tokens m_comments m_kept_12 m_tokenAt m_tokenLength m_sign m_commentAt m_commentLength m_firstComment
    )
noncomputable def jn_X6_cutText_234 (m_length : Int32) (m_text : Nat → Int32) (k19 : (Int32) → (Int32) → (Int32) → (Nat → Int32) → (Nat → Int32) → (Nat → Int32) → (Nat → Int32) → (Nat → Int32) → (Nat → Int32) → (Nat → Int32) → Option (Int32 × (Int32) × (Int32) × (Nat → Int32) × (Nat → Int32) × (Nat → Int32) × (Nat → Int32) × (Nat → Int32) × (Nat → Int32) × (Nat → Int32))) (x1 : Int32) (x2 : Int32) (m_tokens : Int32) (m_comments : Int32) (m_kept : Nat → Int32) (m_tokenAt : Nat → Int32) (m_tokenLength : Nat → Int32) (m_sign : Nat → Int32) (m_commentAt : Nat → Int32) (m_commentLength : Nat → Int32) (m_firstComment : Nat → Int32) : Option (Int32 × (Int32) × (Int32) × (Nat → Int32) × (Nat → Int32) × (Nat → Int32) × (Nat → Int32) × (Nat → Int32) × (Nat → Int32) × (Nat → Int32)) :=
  nm x1 fun x3_10 =>
  lp_X6_cutText_236 m_length m_text
    (fun x2 m_tokens m_comments m_kept m_tokenAt m_tokenLength m_sign m_commentAt m_commentLength m_firstComment =>
    nm x2 fun x1_14 =>
    k19 x1_14 m_tokens m_comments m_kept m_tokenAt m_tokenLength m_sign m_commentAt m_commentLength m_firstComment)
    FU x2 x3_10 m_tokens m_comments m_kept m_tokenAt m_tokenLength m_sign m_commentAt m_commentLength m_firstComment
noncomputable def jn_X6_cutText_230 (m_length : Int32) (m_text : Nat → Int32) (k19 : (Int32) → (Int32) → (Int32) → (Nat → Int32) → (Nat → Int32) → (Nat → Int32) → (Nat → Int32) → (Nat → Int32) → (Nat → Int32) → (Nat → Int32) → Option (Int32 × (Int32) × (Int32) × (Nat → Int32) × (Nat → Int32) × (Nat → Int32) × (Nat → Int32) × (Nat → Int32) × (Nat → Int32) × (Nat → Int32))) (x1 : Int32) (m_tokens : Int32) (m_comments : Int32) (m_kept : Nat → Int32) (m_tokenAt : Nat → Int32) (m_tokenLength : Nat → Int32) (m_sign : Nat → Int32) (m_commentAt : Nat → Int32) (m_commentLength : Nat → Int32) (m_firstComment : Nat → Int32) : Option (Int32 × (Int32) × (Int32) × (Nat → Int32) × (Nat → Int32) × (Nat → Int32) × (Nat → Int32) × (Nat → Int32) × (Nat → Int32) × (Nat → Int32)) :=
  nm (x1 + 1) fun x2_9 =>
  jn_X6_cutText_234 m_length m_text k19 x1 x2_9 m_tokens m_comments m_kept m_tokenAt m_tokenLength m_sign m_commentAt m_commentLength m_firstComment
noncomputable def jn_X6_cutText_203 (m_length : Int32) (m_text : Nat → Int32) (k19 : (Int32) → (Int32) → (Int32) → (Nat → Int32) → (Nat → Int32) → (Nat → Int32) → (Nat → Int32) → (Nat → Int32) → (Nat → Int32) → (Nat → Int32) → Option (Int32 × (Int32) × (Int32) × (Nat → Int32) × (Nat → Int32) × (Nat → Int32) × (Nat → Int32) × (Nat → Int32) × (Nat → Int32) × (Nat → Int32))) (x1 : Int32) (x2 : Int32) (s1 : Int32) (s2 : Int32) (m_tokens : Int32) (m_comments : Int32) (m_kept : Nat → Int32) (m_tokenAt : Nat → Int32) (m_tokenLength : Nat → Int32) (m_sign : Nat → Int32) (m_commentAt : Nat → Int32) (m_commentLength : Nat → Int32) (m_firstComment : Nat → Int32) : Option (Int32 × (Int32) × (Int32) × (Nat → Int32) × (Nat → Int32) × (Nat → Int32) × (Nat → Int32) × (Nat → Int32) × (Nat → Int32) × (Nat → Int32)) :=
  (wrI m_sign 17 s1 s2).bind fun m_sign_22 =>
  (wrI m_firstComment 18 ((m_tokens + 1)) m_comments).bind fun m_firstComment_24 =>
  jn_X6_cutText_234 m_length m_text k19 x1 x2 ((m_tokens + 1)) m_comments m_kept m_tokenAt m_tokenLength m_sign_22 m_commentAt m_commentLength m_firstComment_24
noncomputable def jn_X6_cutText_202 (m_length : Int32) (m_text : Nat → Int32) (k19 : (Int32) → (Int32) → (Int32) → (Nat → Int32) → (Nat → Int32) → (Nat → Int32) → (Nat → Int32) → (Nat → Int32) → (Nat → Int32) → (Nat → Int32) → Option (Int32 × (Int32) × (Int32) × (Nat → Int32) × (Nat → Int32) × (Nat → Int32) × (Nat → Int32) × (Nat → Int32) × (Nat → Int32) × (Nat → Int32))) (x1 : Int32) (x2 : Int32) (s1 : Int32) (m_tokens : Int32) (m_comments : Int32) (m_kept : Nat → Int32) (m_tokenAt : Nat → Int32) (m_tokenLength : Nat → Int32) (m_sign : Nat → Int32) (m_commentAt : Nat → Int32) (m_commentLength : Nat → Int32) (m_firstComment : Nat → Int32) : Option (Int32 × (Int32) × (Int32) × (Nat → Int32) × (Nat → Int32) × (Nat → Int32) × (Nat → Int32) × (Nat → Int32) × (Nat → Int32) × (Nat → Int32)) :=
  jn_X6_cutText_203 m_length m_text k19 x1 x2 s1 0 m_tokens m_comments m_kept m_tokenAt m_tokenLength m_sign m_commentAt m_commentLength m_firstComment
noncomputable def jn_X6_cutText_59 (m_length : Int32) (m_text : Nat → Int32) (k19 : (Int32) → (Int32) → (Int32) → (Nat → Int32) → (Nat → Int32) → (Nat → Int32) → (Nat → Int32) → (Nat → Int32) → (Nat → Int32) → (Nat → Int32) → Option (Int32 × (Int32) × (Int32) × (Nat → Int32) × (Nat → Int32) × (Nat → Int32) × (Nat → Int32) × (Nat → Int32) × (Nat → Int32) × (Nat → Int32))) (x1 : Int32) (s0 : Int32) (m_tokens : Int32) (m_comments : Int32) (m_kept : Nat → Int32) (m_tokenAt : Nat → Int32) (m_tokenLength : Nat → Int32) (m_sign : Nat → Int32) (m_commentAt : Nat → Int32) (m_commentLength : Nat → Int32) (m_firstComment : Nat → Int32) : Option (Int32 × (Int32) × (Int32) × (Nat → Int32) × (Nat → Int32) × (Nat → Int32) × (Nat → Int32) × (Nat → Int32) × (Nat → Int32) × (Nat → Int32)) :=
  nm s0 fun x2_7 =>
  if x2_7 ≤ 0 then (
    (rd m_text 80 x1).bind fun v8 =>
    if v8 = 32 then (
      jn_X6_cutText_230 m_length m_text k19 x1 m_tokens m_comments m_kept m_tokenAt m_tokenLength m_sign m_commentAt m_commentLength m_firstComment
    ) else (
      (rd m_text 80 x1).bind fun v15 =>
      if v15 = 10 then (
        jn_X6_cutText_230 m_length m_text k19 x1 m_tokens m_comments m_kept m_tokenAt m_tokenLength m_sign m_commentAt m_commentLength m_firstComment
      ) else (
        if m_tokens = 16 then (
          (zc 0).bind fun v16 => some (v16, m_tokens, m_comments, m_kept, m_tokenAt, m_tokenLength, m_sign, m_commentAt, m_commentLength, m_firstComment)
        ) else (
          (f_X6_tokenEnd x1 m_length m_text).bind fun r17 =>
          nm r17 fun x2_18 =>
          (wrI m_tokenAt 17 m_tokens x1).bind fun m_tokenAt_19 =>
          (wrI m_tokenLength 17 m_tokens (x2_18 - x1)).bind fun m_tokenLength_20 =>
          (rd m_text 80 x1).bind fun v21 =>
          if v21 < 97 then (
            jn_X6_cutText_202 m_length m_text k19 x1 x2_18 m_tokens m_tokens m_comments m_kept m_tokenAt_19 m_tokenLength_20 m_sign m_commentAt m_commentLength m_firstComment
          ) else (
            (rd m_text 80 x1).bind fun v25 =>
            if 104 < v25 then (
              jn_X6_cutText_202 m_length m_text k19 x1 x2_18 m_tokens m_tokens m_comments m_kept m_tokenAt_19 m_tokenLength_20 m_sign m_commentAt m_commentLength m_firstComment
            ) else (
              (rd m_text 80 x1).bind fun v26 =>
              jn_X6_cutText_203 m_length m_text k19 x1 x2_18 m_tokens (v26 - 96) m_tokens m_comments m_kept m_tokenAt_19 m_tokenLength_20 m_sign m_commentAt m_commentLength m_firstComment
            )
          )
        )
      )
    )
  ) else (
    (wrI m_commentAt 41 m_comments x1).bind fun m_commentAt_27 =>
    (wrI m_commentLength 41 m_comments (x2_7 - x1)).bind fun m_commentLength_28 =>
    jn_X6_cutText_234 m_length m_text k19 x1 x2_7 m_tokens ((m_comments + 1)) m_kept m_tokenAt m_tokenLength m_sign m_commentAt_27 m_commentLength_28 m_firstComment
  )
noncomputable def lp_X6_cutText_19 (m_length : Int32) (m_text : Nat → Int32) (k264 : (Int32) → (Int32) → (Nat → Int32) → (Nat → Int32) → (Nat → Int32) → (Nat → Int32) → (Nat → Int32) → (Nat → Int32) → (Nat → Int32) → Option (Int32 × (Int32) × (Int32) × (Nat → Int32) × (Nat → Int32) × (Nat → Int32) × (Nat → Int32) × (Nat → Int32) × (Nat → Int32) × (Nat → Int32))) : Nat → (Int32) → (Int32) → (Int32) → (Nat → Int32) → (Nat → Int32) → (Nat → Int32) → (Nat → Int32) → (Nat → Int32) → (Nat → Int32) → (Nat → Int32) → Option (Int32 × (Int32) × (Int32) × (Nat → Int32) × (Nat → Int32) × (Nat → Int32) × (Nat → Int32) × (Nat → Int32) × (Nat → Int32) × (Nat → Int32))
  | 0, _, _, _, _, _, _, _, _, _, _ => none
  | n + 1, x1, m_tokens, m_comments, m_kept, m_tokenAt, m_tokenLength, m_sign, m_commentAt, m_commentLength, m_firstComment =>
    if m_length ≤ x1 then (
      k264 m_tokens m_comments m_kept m_tokenAt m_tokenLength m_sign m_commentAt m_commentLength m_firstComment
    ) else (
      (rd m_text 80 x1).bind fun v3 =>
      (wrI m_kept 80 x1 v3).bind fun m_kept_4 =>
      (rd m_text 80 x1).bind fun v5 =>
      if v5 = 123 then (
        (f_X6_commentEnd x1 m_length m_text).bind fun r6 =>
        jn_X6_cutText_59 m_length m_text (lp_X6_cutText_19 m_length m_text k264 n) x1 r6 m_tokens m_comments m_kept_4 m_tokenAt m_tokenLength m_sign m_commentAt m_commentLength m_firstComment
      ) else (
        jn_X6_cutText_59 m_length m_text (lp_X6_cutText_19 m_length m_text k264 n) x1 ((-1)) m_tokens m_comments m_kept_4 m_tokenAt m_tokenLength m_sign m_commentAt m_commentLength m_firstComment
      )
    )
noncomputable def f_X6_cutText (m_length : Int32) (m_text : Nat → Int32) (m_tokens : Int32) (m_comments : Int32) (m_kept : Nat → Int32) (m_tokenAt : Nat → Int32) (m_tokenLength : Nat → Int32) (m_sign : Nat → Int32) (m_commentAt : Nat → Int32) (m_commentLength : Nat → Int32) (m_firstComment : Nat → Int32) : Option (Int32 × (Int32) × (Int32) × (Nat → Int32) × (Nat → Int32) × (Nat → Int32) × (Nat → Int32) × (Nat → Int32) × (Nat → Int32) × (Nat → Int32)) :=
  (wrI m_firstComment 18 0 0).bind fun m_firstComment_1 =>
  nm (0 : Int32) fun x1_2 =>
  lp_X6_cutText_19 m_length m_text
    (fun m_tokens m_comments m_kept m_tokenAt m_tokenLength m_sign m_commentAt m_commentLength m_firstComment =>
    (wrI m_firstComment 18 (m_tokens + 1) m_comments).bind fun m_firstComment_30 =>
    (zc 1).bind fun v31 => some (v31, m_tokens, m_comments, m_kept, m_tokenAt, m_tokenLength, m_sign, m_commentAt, m_commentLength, m_firstComment_30))
    FU x1_2 0 0 m_kept m_tokenAt m_tokenLength m_sign m_commentAt m_commentLength m_firstComment_1
noncomputable def jn_X6_sum_25   (s0 : Int64) : Option (Int64) :=
  some s0
noncomputable def jn_X6_sum_16    : Option (Int64) :=
  jn_X6_sum_25  1152921504606846976
noncomputable def f_X6_sum (a0 : Int64) (a2 : Int64) : Option (Int64) :=
  if 0 ≤ (lg_cmp a0 1152921504606846976) then (
    jn_X6_sum_16 
  ) else (
    if (lg_cmp a2 1152921504606846976) < 0 then (
      jn_X6_sum_25  (a0 + a2)
    ) else (
      jn_X6_sum_16 
    )
  )
noncomputable def jn_X6_price_65 (m_sign : Nat → Int32) (m_best : Nat → Int64)  (s0 : Int64) (s1 : Int64) : Option (Int64) :=
  some (s0 + s1)
noncomputable def f_X6_price (a1 : Int32) (a2 : Int32) (a3 : Int32) (m_sign : Nat → Int32) (m_best : Nat → Int64) : Option (Int64) :=
  if a1 ≤ 8 then (
    if a2 = a3 then (
      some 16777216
    ) else (
      (rd m_sign 17 (a3 - 1)).bind fun v1 =>
      if v1 = a1 then (
        jn_X6_price_65 m_sign m_best (16777216 * (((a3 - 1) - a2).toInt64)) 0
      ) else (
        jn_X6_price_65 m_sign m_best (16777216 * (((a3 - 1) - a2).toInt64)) 16777216
      )
    )
  ) else (
    (rd m_best 1734 (((289 * (a1 - 9)) + (17 * a2)) + a3)).bind fun v2 =>
    some v2
  )
noncomputable def jn_X6_fill_27 (m_tokens : Int32) (m_size : Nat → Int32) (m_symbol : Nat → Int32) (m_sign : Nat → Int32) (m_best : Nat → Int64) (k2 : (Int32) → (Int32) → (Int32) → (Nat → Int64) → Option ((Nat → Int64))) (x1 : Int32) (x2 : Int32) (x3 : Int32) (s1 : Int32) (s2 : Int64) (m_row : Nat → Int64) : Option ((Nat → Int64)) :=
  (wrL m_row 102 s1 s2).bind fun m_row_2 =>
  nm (x3 + Int32.ofInt 1) fun x3_3 =>
  k2 x1 x2 x3_3 m_row_2
noncomputable def lp_X6_fill_2 (m_tokens : Int32) (m_size : Nat → Int32) (m_symbol : Nat → Int32) (m_sign : Nat → Int32) (m_best : Nat → Int64) (k34 : (Int32) → (Int32) → (Nat → Int64) → Option ((Nat → Int64))) : Nat → (Int32) → (Int32) → (Int32) → (Nat → Int64) → Option ((Nat → Int64))
  | 0, _, _, _, _ => none
  | n + 1, x1, x2, x3, m_row =>
    if m_tokens < x3 then (
      k34 x1 x2 m_row
    ) else (
      if x3 = x2 then (
        jn_X6_fill_27 m_tokens m_size m_symbol m_sign m_best (lp_X6_fill_2 m_tokens m_size m_symbol m_sign m_best k34 n) x1 x2 x3 x3 0 m_row
      ) else (
        jn_X6_fill_27 m_tokens m_size m_symbol m_sign m_best (lp_X6_fill_2 m_tokens m_size m_symbol m_sign m_best k34 n) x1 x2 x3 x3 1152921504606846976 m_row
      )
    )
noncomputable def jn_X6_fill_131 (m_tokens : Int32) (m_size : Nat → Int32) (m_symbol : Nat → Int32) (m_sign : Nat → Int32) (m_best : Nat → Int64) (k80 : (Int32) → (Int32) → (Int32) → (Int32) → (Int32) → (Int64) → (Int32) → (Nat → Int64) → Option ((Nat → Int64))) (x1 : Int32) (x2 : Int32) (x3 : Int32) (x4 : Int32) (x5 : Int32) (x8 : Int32) (s0 : Int64) (m_row : Nat → Int64) : Option ((Nat → Int64)) :=
  nm s0 fun x6_15 =>
  nm (x8 + Int32.ofInt 1) fun x8_16 =>
  k80 x1 x2 x3 x4 x5 x6_15 x8_16 m_row
noncomputable def lp_X6_fill_80 (m_tokens : Int32) (m_size : Nat → Int32) (m_symbol : Nat → Int32) (m_sign : Nat → Int32) (m_best : Nat → Int64) (k139 : (Int32) → (Int32) → (Int32) → (Int32) → (Int32) → (Int64) → (Nat → Int64) → Option ((Nat → Int64))) : Nat → (Int32) → (Int32) → (Int32) → (Int32) → (Int32) → (Int64) → (Int32) → (Nat → Int64) → Option ((Nat → Int64))
  | 0, _, _, _, _, _, _, _, _ => none
  | n + 1, x1, x2, x3, x4, x5, x6, x8, m_row =>
    if x5 < x8 then (
      k139 x1 x2 x3 x4 x5 x6 m_row
    ) else (
      (rd m_row 102 ((17 * (x3 - 1)) + x8)).bind fun v11 =>
      (f_X6_price x4 x8 x5 m_sign m_best).bind fun r12 =>
      (f_X6_sum v11 r12).bind fun r13 =>
      nm r13 fun x9_14 =>
      if 0 ≤ (lg_cmp x9_14 x6) then (
        jn_X6_fill_131 m_tokens m_size m_symbol m_sign m_best (lp_X6_fill_80 m_tokens m_size m_symbol m_sign m_best k139 n) x1 x2 x3 x4 x5 x8 x6 m_row
      ) else (
        jn_X6_fill_131 m_tokens m_size m_symbol m_sign m_best (lp_X6_fill_80 m_tokens m_size m_symbol m_sign m_best k139 n) x1 x2 x3 x4 x5 x8 x9_14 m_row
      )
    )
noncomputable def lp_X6_fill_63 (m_tokens : Int32) (m_size : Nat → Int32) (m_symbol : Nat → Int32) (m_sign : Nat → Int32) (m_best : Nat → Int64) (k159 : (Int32) → (Int32) → (Int32) → (Nat → Int64) → Option ((Nat → Int64))) : Nat → (Int32) → (Int32) → (Int32) → (Int32) → (Int32) → (Nat → Int64) → Option ((Nat → Int64))
  | 0, _, _, _, _, _, _ => none
  | n + 1, x1, x2, x3, x4, x5, m_row =>
    if m_tokens < x5 then (
      k159 x1 x2 x3 m_row
    ) else (
      nm (1152921504606846976 : Int64) fun x6_9 =>
      nm x2 fun x8_10 =>
      lp_X6_fill_80 m_tokens m_size m_symbol m_sign m_best
        (fun x1 x2 x3 x4 x5 x6 m_row =>
        (wrL m_row 102 ((17 * x3) + x5) x6).bind fun m_row_17 =>
        nm (x5 + Int32.ofInt 1) fun x5_18 =>
        (lp_X6_fill_63 m_tokens m_size m_symbol m_sign m_best k159 n) x1 x2 x3 x4 x5_18 m_row_17)
        FU x1 x2 x3 x4 x5 x6_9 x8_10 m_row
    )
noncomputable def lp_X6_fill_36 (m_tokens : Int32) (m_size : Nat → Int32) (m_symbol : Nat → Int32) (m_sign : Nat → Int32) (m_best : Nat → Int64) (k165 : (Nat → Int64) → Option ((Nat → Int64))) : Nat → (Int32) → (Int32) → (Int32) → (Nat → Int64) → Option ((Nat → Int64))
  | 0, _, _, _, _ => none
  | n + 1, x1, x2, x3, m_row =>
    (rd m_size 20 x1).bind fun v5 =>
    if v5 < x3 then (
      k165 m_row
    ) else (
      (rd m_symbol 100 (((5 * x1) + x3) - 1)).bind fun v6 =>
      nm v6 fun x4_7 =>
      nm x2 fun x5_8 =>
      lp_X6_fill_63 m_tokens m_size m_symbol m_sign m_best
        (fun x1 x2 x3 m_row =>
        nm (x3 + Int32.ofInt 1) fun x3_19 =>
        (lp_X6_fill_36 m_tokens m_size m_symbol m_sign m_best k165 n) x1 x2 x3_19 m_row)
        FU x1 x2 x3 x4_7 x5_8 m_row
    )
noncomputable def f_X6_fill (a1 : Int32) (a2 : Int32) (m_tokens : Int32) (m_size : Nat → Int32) (m_symbol : Nat → Int32) (m_sign : Nat → Int32) (m_best : Nat → Int64) (m_row : Nat → Int64) : Option ((Nat → Int64)) :=
  nm a2 fun x3_1 =>
  lp_X6_fill_2 m_tokens m_size m_symbol m_sign m_best
    (fun x1 x2 m_row =>
    nm (1 : Int32) fun x3_4 =>
    lp_X6_fill_36 m_tokens m_size m_symbol m_sign m_best
      (fun m_row =>
      some m_row)
      FU x1 x2 x3_4 m_row)
    FU a1 a2 x3_1 m_row
noncomputable def lp_X6_prices_2 (m_rules : Int32) (m_tokens : Int32) (m_head : Nat → Int32) (m_size : Nat → Int32) (m_symbol : Nat → Int32) (m_sign : Nat → Int32) (k24 : (Nat → Int64) → (Nat → Int64) → Option ((Nat → Int64) × (Nat → Int64))) : Nat → (Int32) → (Nat → Int64) → (Nat → Int64) → Option ((Nat → Int64) × (Nat → Int64))
  | 0, _, _, _ => none
  | n + 1, x1, m_best, m_row =>
    if 1734 ≤ x1 then (
      k24 m_best m_row
    ) else (
      (wrL m_best 1734 x1 1152921504606846976).bind fun m_best_2 =>
      nm (x1 + Int32.ofInt 1) fun x1_3 =>
      (lp_X6_prices_2 m_rules m_tokens m_head m_size m_symbol m_sign k24 n) x1_3 m_best_2 m_row
    )
noncomputable def jn_X6_prices_169 (m_rules : Int32) (m_tokens : Int32) (m_head : Nat → Int32) (m_size : Nat → Int32) (m_symbol : Nat → Int32) (m_sign : Nat → Int32) (k60 : (Int32) → (Int32) → (Int32) → (Int32) → (Nat → Int64) → (Nat → Int64) → Option ((Nat → Int64) × (Nat → Int64))) (x1 : Int32) (x2 : Int32) (x3 : Int32) (x4 : Int32) (s1 : Int32) (s2 : Int64) (m_best : Nat → Int64) (m_row : Nat → Int64) : Option ((Nat → Int64) × (Nat → Int64)) :=
  (wrL m_best 1734 s1 s2).bind fun m_best_20 =>
  nm (x4 + Int32.ofInt 1) fun x4_21 =>
  k60 x1 x2 x3 x4_21 m_best_20 m_row
noncomputable def jn_X6_prices_137 (m_rules : Int32) (m_tokens : Int32) (m_head : Nat → Int32) (m_size : Nat → Int32) (m_symbol : Nat → Int32) (m_sign : Nat → Int32) (k60 : (Int32) → (Int32) → (Int32) → (Int32) → (Nat → Int64) → (Nat → Int64) → Option ((Nat → Int64) × (Nat → Int64))) (x1 : Int32) (x3 : Int32) (x4 : Int32) (x5 : Int32) (x6 : Int64) (s0 : Int32) (m_best : Nat → Int64) (m_row : Nat → Int64) : Option ((Nat → Int64) × (Nat → Int64)) :=
  nm s0 fun x2_17 =>
  (rd m_best 1734 x5).bind fun v18 =>
  if 0 ≤ (lg_cmp x6 v18) then (
    (rd m_best 1734 x5).bind fun v19 =>
    jn_X6_prices_169 m_rules m_tokens m_head m_size m_symbol m_sign k60 x1 x2_17 x3 x4 x5 v19 m_best m_row
  ) else (
    jn_X6_prices_169 m_rules m_tokens m_head m_size m_symbol m_sign k60 x1 x2_17 x3 x4 x5 x6 m_best m_row
  )
noncomputable def jn_X6_prices_132 (m_rules : Int32) (m_tokens : Int32) (m_head : Nat → Int32) (m_size : Nat → Int32) (m_symbol : Nat → Int32) (m_sign : Nat → Int32) (k60 : (Int32) → (Int32) → (Int32) → (Int32) → (Nat → Int64) → (Nat → Int64) → Option ((Nat → Int64) × (Nat → Int64))) (x1 : Int32) (x3 : Int32) (x4 : Int32) (x5 : Int32) (x6 : Int64) (m_best : Nat → Int64) (m_row : Nat → Int64) : Option ((Nat → Int64) × (Nat → Int64)) :=
  jn_X6_prices_137 m_rules m_tokens m_head m_size m_symbol m_sign k60 x1 x3 x4 x5 x6 1 m_best m_row
noncomputable def lp_X6_prices_60 (m_rules : Int32) (m_tokens : Int32) (m_head : Nat → Int32) (m_size : Nat → Int32) (m_symbol : Nat → Int32) (m_sign : Nat → Int32) (k176 : (Int32) → (Int32) → (Int32) → (Nat → Int64) → (Nat → Int64) → Option ((Nat → Int64) × (Nat → Int64))) : Nat → (Int32) → (Int32) → (Int32) → (Int32) → (Nat → Int64) → (Nat → Int64) → Option ((Nat → Int64) × (Nat → Int64))
  | 0, _, _, _, _, _, _ => none
  | n + 1, x1, x2, x3, x4, m_best, m_row =>
    if m_tokens < x4 then (
      k176 x1 x2 x3 m_best m_row
    ) else (
      (rd m_head 20 x3).bind fun v10 =>
      nm (((289 * (v10 - 9)) + (17 * x1)) + x4) fun x5_11 =>
      (rd m_size 20 x3).bind fun v12 =>
      (rd m_row 102 ((17 * v12) + x4)).bind fun v13 =>
      (f_X6_sum v13 1).bind fun r14 =>
      nm r14 fun x6_15 =>
      if x2 = 0 then (
        (rd m_best 1734 x5_11).bind fun v16 =>
        if 0 ≤ (lg_cmp x6_15 v16) then (
          jn_X6_prices_137 m_rules m_tokens m_head m_size m_symbol m_sign (lp_X6_prices_60 m_rules m_tokens m_head m_size m_symbol m_sign k176 n) x1 x3 x4 x5_11 x6_15 0 m_best m_row
        ) else (
          jn_X6_prices_132 m_rules m_tokens m_head m_size m_symbol m_sign (lp_X6_prices_60 m_rules m_tokens m_head m_size m_symbol m_sign k176 n) x1 x3 x4 x5_11 x6_15 m_best m_row
        )
      ) else (
        jn_X6_prices_132 m_rules m_tokens m_head m_size m_symbol m_sign (lp_X6_prices_60 m_rules m_tokens m_head m_size m_symbol m_sign k176 n) x1 x3 x4 x5_11 x6_15 m_best m_row
      )
    )
noncomputable def lp_X6_prices_43 (m_rules : Int32) (m_tokens : Int32) (m_head : Nat → Int32) (m_size : Nat → Int32) (m_symbol : Nat → Int32) (m_sign : Nat → Int32) (k182 : (Int32) → (Int32) → (Nat → Int64) → (Nat → Int64) → Option ((Nat → Int64) × (Nat → Int64))) : Nat → (Int32) → (Int32) → (Int32) → (Nat → Int64) → (Nat → Int64) → Option ((Nat → Int64) × (Nat → Int64))
  | 0, _, _, _, _, _ => none
  | n + 1, x1, x2, x3, m_best, m_row =>
    if m_rules ≤ x3 then (
      k182 x1 x2 m_best m_row
    ) else (
      (f_X6_fill x3 x1 m_tokens m_size m_symbol m_sign m_best m_row).bind fun r8 =>
      nm x1 fun x4_9 =>
      lp_X6_prices_60 m_rules m_tokens m_head m_size m_symbol m_sign
        (fun x1 x2 x3 m_best m_row =>
        nm (x3 + Int32.ofInt 1) fun x3_22 =>
        (lp_X6_prices_43 m_rules m_tokens m_head m_size m_symbol m_sign k182 n) x1 x2 x3_22 m_best m_row)
        FU x1 x2 x3 x4_9 m_best r8
    )
noncomputable def lp_X6_prices_35 (m_rules : Int32) (m_tokens : Int32) (m_head : Nat → Int32) (m_size : Nat → Int32) (m_symbol : Nat → Int32) (m_sign : Nat → Int32) (k185 : (Int32) → (Nat → Int64) → (Nat → Int64) → Option ((Nat → Int64) × (Nat → Int64))) : Nat → (Int32) → (Int32) → (Nat → Int64) → (Nat → Int64) → Option ((Nat → Int64) × (Nat → Int64))
  | 0, _, _, _, _ => none
  | n + 1, x1, x2, m_best, m_row =>
    if x2 = 0 then (
      k185 x1 m_best m_row
    ) else (
      nm (0 : Int32) fun x2_6 =>
      nm (0 : Int32) fun x3_7 =>
      lp_X6_prices_43 m_rules m_tokens m_head m_size m_symbol m_sign
        (fun x1 x2 m_best m_row =>
        (lp_X6_prices_35 m_rules m_tokens m_head m_size m_symbol m_sign k185 n) x1 x2 m_best m_row)
        FU x1 x2_6 x3_7 m_best m_row
    )
noncomputable def lp_X6_prices_29 (m_rules : Int32) (m_tokens : Int32) (m_head : Nat → Int32) (m_size : Nat → Int32) (m_symbol : Nat → Int32) (m_sign : Nat → Int32) (k191 : (Nat → Int64) → (Nat → Int64) → Option ((Nat → Int64) × (Nat → Int64))) : Nat → (Int32) → (Nat → Int64) → (Nat → Int64) → Option ((Nat → Int64) × (Nat → Int64))
  | 0, _, _, _ => none
  | n + 1, x1, m_best, m_row =>
    if x1 < 0 then (
      k191 m_best m_row
    ) else (
      nm (1 : Int32) fun x2_5 =>
      lp_X6_prices_35 m_rules m_tokens m_head m_size m_symbol m_sign
        (fun x1 m_best m_row =>
        nm (x1 + Int32.ofInt (-1)) fun x1_23 =>
        (lp_X6_prices_29 m_rules m_tokens m_head m_size m_symbol m_sign k191 n) x1_23 m_best m_row)
        FU x1 x2_5 m_best m_row
    )
noncomputable def f_X6_prices (m_rules : Int32) (m_tokens : Int32) (m_head : Nat → Int32) (m_size : Nat → Int32) (m_symbol : Nat → Int32) (m_sign : Nat → Int32) (m_best : Nat → Int64) (m_row : Nat → Int64) : Option ((Nat → Int64) × (Nat → Int64)) :=
  nm (0 : Int32) fun x1_1 =>
  lp_X6_prices_2 m_rules m_tokens m_head m_size m_symbol m_sign
    (fun m_best m_row =>
    nm m_tokens fun x1_4 =>
    lp_X6_prices_29 m_rules m_tokens m_head m_size m_symbol m_sign
      (fun m_best m_row =>
      some (m_best, m_row))
      FU x1_4 m_best m_row)
    FU x1_1 m_best m_row
noncomputable def f_X6_push (a1 : Int32) (a2 : Int32) (a3 : Int32) (a4 : Int32) (a5 : Int32) (m_open : Int32) (m_waiting : Nat → Int32) : Option ((Int32) × (Nat → Int32)) :=
  (wrI m_waiting 4000 (5 * m_open) a1).bind fun m_waiting_1 =>
  (wrI m_waiting_1 4000 ((5 * m_open) + 1) a2).bind fun m_waiting_2 =>
  (wrI m_waiting_2 4000 ((5 * m_open) + 2) a3).bind fun m_waiting_3 =>
  (wrI m_waiting_3 4000 ((5 * m_open) + 3) a4).bind fun m_waiting_4 =>
  (wrI m_waiting_4 4000 ((5 * m_open) + 4) a5).bind fun m_waiting_5 =>
  some (((m_open + 1)), m_waiting_5)
noncomputable def lp_X6_choose_115 (m_rules : Int32) (m_tokens : Int32) (m_head : Nat → Int32) (m_size : Nat → Int32) (m_symbol : Nat → Int32) (m_sign : Nat → Int32) (m_best : Nat → Int64) (k188 : (Int32) → (Int32) → (Int32) → (Nat → Int64) → (Nat → Int32) → Option (Int32 × (Nat → Int64) × (Nat → Int32))) : Nat → (Int32) → (Int32) → (Int32) → (Nat → Int64) → (Nat → Int32) → Option (Int32 × (Nat → Int64) × (Nat → Int32))
  | 0, _, _, _, _, _ => none
  | n + 1, x6, x7, x8, m_row, m_cut =>
    (rd m_row 102 ((17 * (x7 - 1)) + x8)).bind fun v15 =>
    (rd m_symbol 100 (((5 * x6) + x7) - 1)).bind fun v16 =>
    (rd m_cut 6 x7).bind fun v17 =>
    (f_X6_price v16 x8 v17 m_sign m_best).bind fun r18 =>
    (f_X6_sum v15 r18).bind fun r19 =>
    (rd m_cut 6 x7).bind fun v20 =>
    (rd m_row 102 ((17 * x7) + v20)).bind fun v21 =>
    if (lg_cmp r19 v21) = 0 then (
      k188 x6 x7 x8 m_row m_cut
    ) else (
      nm (x8 + Int32.ofInt (-1)) fun x8_22 =>
      (lp_X6_choose_115 m_rules m_tokens m_head m_size m_symbol m_sign m_best k188 n) x6 x7 x8_22 m_row m_cut
    )
noncomputable def lp_X6_choose_101 (m_rules : Int32) (m_tokens : Int32) (m_head : Nat → Int32) (m_size : Nat → Int32) (m_symbol : Nat → Int32) (m_sign : Nat → Int32) (m_best : Nat → Int64) (k205 : (Int32) → (Nat → Int64) → (Nat → Int32) → Option (Int32 × (Nat → Int64) × (Nat → Int32))) : Nat → (Int32) → (Int32) → (Nat → Int64) → (Nat → Int32) → Option (Int32 × (Nat → Int64) × (Nat → Int32))
  | 0, _, _, _, _ => none
  | n + 1, x6, x7, m_row, m_cut =>
    if x7 ≤ 0 then (
      k205 x6 m_row m_cut
    ) else (
      (rd m_cut 6 x7).bind fun v13 =>
      nm v13 fun x8_14 =>
      lp_X6_choose_115 m_rules m_tokens m_head m_size m_symbol m_sign m_best
        (fun x6 x7 x8 m_row m_cut =>
        (wrI m_cut 6 (x7 - 1) x8).bind fun m_cut_23 =>
        nm (x7 + Int32.ofInt (-1)) fun x7_24 =>
        (lp_X6_choose_101 m_rules m_tokens m_head m_size m_symbol m_sign m_best k205 n) x6 x7_24 m_row m_cut_23)
        FU x6 x7 x8_14 m_row m_cut
    )
noncomputable def jn_X6_choose_208 (m_rules : Int32) (m_tokens : Int32) (m_head : Nat → Int32) (m_size : Nat → Int32) (m_symbol : Nat → Int32) (m_sign : Nat → Int32) (m_best : Nat → Int64) (k25 : (Int32) → (Int32) → (Int32) → (Int64) → (Int32) → (Nat → Int64) → (Nat → Int32) → Option (Int32 × (Nat → Int64) × (Nat → Int32))) (x1 : Int32) (x2 : Int32) (x3 : Int32) (x4 : Int64) (x6 : Int32) (m_row : Nat → Int64) (m_cut : Nat → Int32) : Option (Int32 × (Nat → Int64) × (Nat → Int32)) :=
  nm (x6 + Int32.ofInt 1) fun x6_25 =>
  k25 x1 x2 x3 x4 x6_25 m_row m_cut
noncomputable def lp_X6_choose_25 (m_rules : Int32) (m_tokens : Int32) (m_head : Nat → Int32) (m_size : Nat → Int32) (m_symbol : Nat → Int32) (m_sign : Nat → Int32) (m_best : Nat → Int64) (k214 : (Nat → Int64) → (Nat → Int32) → Option (Int32 × (Nat → Int64) × (Nat → Int32))) : Nat → (Int32) → (Int32) → (Int32) → (Int64) → (Int32) → (Nat → Int64) → (Nat → Int32) → Option (Int32 × (Nat → Int64) × (Nat → Int32))
  | 0, _, _, _, _, _, _, _ => none
  | n + 1, x1, x2, x3, x4, x6, m_row, m_cut =>
    if m_rules ≤ x6 then (
      k214 m_row m_cut
    ) else (
      (rd m_head 20 x6).bind fun v4 =>
      if v4 = x1 then (
        (f_X6_fill x6 x2 m_tokens m_size m_symbol m_sign m_best m_row).bind fun r5 =>
        (rd m_size 20 x6).bind fun v6 =>
        (rd r5 102 ((17 * v6) + x3)).bind fun v7 =>
        (f_X6_sum v7 1).bind fun r8 =>
        if (lg_cmp r8 x4) = 0 then (
          (rd m_size 20 x6).bind fun v9 =>
          (wrI m_cut 6 v9 x3).bind fun m_cut_10 =>
          (rd m_size 20 x6).bind fun v11 =>
          nm v11 fun x7_12 =>
          lp_X6_choose_101 m_rules m_tokens m_head m_size m_symbol m_sign m_best
            (fun x6 m_row m_cut =>
            some (x6, m_row, m_cut))
            FU x6 x7_12 r5 m_cut_10
        ) else (
          jn_X6_choose_208 m_rules m_tokens m_head m_size m_symbol m_sign m_best (lp_X6_choose_25 m_rules m_tokens m_head m_size m_symbol m_sign m_best k214 n) x1 x2 x3 x4 x6 r5 m_cut
        )
      ) else (
        jn_X6_choose_208 m_rules m_tokens m_head m_size m_symbol m_sign m_best (lp_X6_choose_25 m_rules m_tokens m_head m_size m_symbol m_sign m_best k214 n) x1 x2 x3 x4 x6 m_row m_cut
      )
    )
noncomputable def f_X6_choose (a1 : Int32) (a2 : Int32) (a3 : Int32) (m_rules : Int32) (m_tokens : Int32) (m_head : Nat → Int32) (m_size : Nat → Int32) (m_symbol : Nat → Int32) (m_sign : Nat → Int32) (m_best : Nat → Int64) (m_row : Nat → Int64) (m_cut : Nat → Int32) : Option (Int32 × (Nat → Int64) × (Nat → Int32)) :=
  (rd m_best 1734 (((289 * (a1 - 9)) + (17 * a2)) + a3)).bind fun v1 =>
  nm v1 fun x4_2 =>
  nm (0 : Int32) fun x6_3 =>
  lp_X6_choose_25 m_rules m_tokens m_head m_size m_symbol m_sign m_best
    (fun m_row m_cut =>
    some ((-1), m_row, m_cut))
    FU a1 a2 a3 x4_2 x6_3 m_row m_cut
noncomputable def lp_X6_grow_280 (m_rules : Int32) (m_tokens : Int32) (m_end : Int32) (m_head : Nat → Int32) (m_size : Nat → Int32) (m_symbol : Nat → Int32) (m_sign : Nat → Int32) (m_best : Nat → Int64) (k330 : (Int32) → (Int32) → (Nat → Int64) → (Nat → Int32) → (Nat → Int32) → (Nat → Int32) → (Nat → Int32) → (Nat → Int32) → (Nat → Int32) → (Nat → Int32) → (Nat → Int32) → (Nat → Int32) → (Nat → Int32) → Option (Int32 × (Int32) × (Int32) × (Nat → Int64) × (Nat → Int32) × (Nat → Int32) × (Nat → Int32) × (Nat → Int32) × (Nat → Int32) × (Nat → Int32) × (Nat → Int32) × (Nat → Int32) × (Nat → Int32) × (Nat → Int32))) : Nat → (Int32) → (Int32) → (Int32) → (Int32) → (Nat → Int64) → (Nat → Int32) → (Nat → Int32) → (Nat → Int32) → (Nat → Int32) → (Nat → Int32) → (Nat → Int32) → (Nat → Int32) → (Nat → Int32) → (Nat → Int32) → (Nat → Int32) → Option (Int32 × (Int32) × (Int32) × (Nat → Int64) × (Nat → Int32) × (Nat → Int32) × (Nat → Int32) × (Nat → Int32) × (Nat → Int32) × (Nat → Int32) × (Nat → Int32) × (Nat → Int32) × (Nat → Int32) × (Nat → Int32))
  | 0, _, _, _, _, _, _, _, _, _, _, _, _, _, _, _ => none
  | n + 1, x3, x4, m_parts, m_open, m_row, m_cut, m_ruleOf, m_symbolOf, m_parent, m_place, m_from, m_to, m_cost, m_deep, m_waiting =>
    if x4 < 0 then (
      k330 m_parts m_open m_row m_cut m_ruleOf m_symbolOf m_parent m_place m_from m_to m_cost m_deep m_waiting
    ) else (
      (rd m_ruleOf 150 x3).bind fun v33 =>
      (rd m_symbol 100 ((5 * v33) + x4)).bind fun v34 =>
      (rd m_cut 6 x4).bind fun v35 =>
      (rd m_cut 6 (x4 + 1)).bind fun v36 =>
      (f_X6_push v34 v35 v36 x3 x4 m_open m_waiting).bind fun r37 =>
      nm (x4 + Int32.ofInt (-1)) fun x4_38 =>
      (lp_X6_grow_280 m_rules m_tokens m_end m_head m_size m_symbol m_sign m_best k330 n) x3 x4_38 m_parts r37.1 m_row m_cut m_ruleOf m_symbolOf m_parent m_place m_from m_to m_cost m_deep r37.2
    )
noncomputable def jn_X6_grow_278 (m_rules : Int32) (m_tokens : Int32) (m_end : Int32) (m_head : Nat → Int32) (m_size : Nat → Int32) (m_symbol : Nat → Int32) (m_sign : Nat → Int32) (m_best : Nat → Int64) (k23 : (Int32) → (Int32) → (Nat → Int64) → (Nat → Int32) → (Nat → Int32) → (Nat → Int32) → (Nat → Int32) → (Nat → Int32) → (Nat → Int32) → (Nat → Int32) → (Nat → Int32) → (Nat → Int32) → (Nat → Int32) → Option (Int32 × (Int32) × (Int32) × (Nat → Int64) × (Nat → Int32) × (Nat → Int32) × (Nat → Int32) × (Nat → Int32) × (Nat → Int32) × (Nat → Int32) × (Nat → Int32) × (Nat → Int32) × (Nat → Int32) × (Nat → Int32))) (x3 : Int32) (s0 : Int32) (m_parts : Int32) (m_open : Int32) (m_row : Nat → Int64) (m_cut : Nat → Int32) (m_ruleOf : Nat → Int32) (m_symbolOf : Nat → Int32) (m_parent : Nat → Int32) (m_place : Nat → Int32) (m_from : Nat → Int32) (m_to : Nat → Int32) (m_cost : Nat → Int32) (m_deep : Nat → Int32) (m_waiting : Nat → Int32) : Option (Int32 × (Int32) × (Int32) × (Nat → Int64) × (Nat → Int32) × (Nat → Int32) × (Nat → Int32) × (Nat → Int32) × (Nat → Int32) × (Nat → Int32) × (Nat → Int32) × (Nat → Int32) × (Nat → Int32) × (Nat → Int32)) :=
  nm s0 fun x4_32 =>
  lp_X6_grow_280 m_rules m_tokens m_end m_head m_size m_symbol m_sign m_best
    (fun m_parts m_open m_row m_cut m_ruleOf m_symbolOf m_parent m_place m_from m_to m_cost m_deep m_waiting =>
    k23 m_parts m_open m_row m_cut m_ruleOf m_symbolOf m_parent m_place m_from m_to m_cost m_deep m_waiting)
    FU x3 x4_32 m_parts m_open m_row m_cut m_ruleOf m_symbolOf m_parent m_place m_from m_to m_cost m_deep m_waiting
noncomputable def jn_X6_grow_244 (m_rules : Int32) (m_tokens : Int32) (m_end : Int32) (m_head : Nat → Int32) (m_size : Nat → Int32) (m_symbol : Nat → Int32) (m_sign : Nat → Int32) (m_best : Nat → Int64) (k23 : (Int32) → (Int32) → (Nat → Int64) → (Nat → Int32) → (Nat → Int32) → (Nat → Int32) → (Nat → Int32) → (Nat → Int32) → (Nat → Int32) → (Nat → Int32) → (Nat → Int32) → (Nat → Int32) → (Nat → Int32) → Option (Int32 × (Int32) × (Int32) × (Nat → Int64) × (Nat → Int32) × (Nat → Int32) × (Nat → Int32) × (Nat → Int32) × (Nat → Int32) × (Nat → Int32) × (Nat → Int32) × (Nat → Int32) × (Nat → Int32) × (Nat → Int32))) (x2 : Int32) (x3 : Int32) (s1 : Int32) (s2 : Int32) (m_parts : Int32) (m_open : Int32) (m_row : Nat → Int64) (m_cut : Nat → Int32) (m_ruleOf : Nat → Int32) (m_symbolOf : Nat → Int32) (m_parent : Nat → Int32) (m_place : Nat → Int32) (m_from : Nat → Int32) (m_to : Nat → Int32) (m_cost : Nat → Int32) (m_deep : Nat → Int32) (m_waiting : Nat → Int32) : Option (Int32 × (Int32) × (Int32) × (Nat → Int64) × (Nat → Int32) × (Nat → Int32) × (Nat → Int32) × (Nat → Int32) × (Nat → Int32) × (Nat → Int32) × (Nat → Int32) × (Nat → Int32) × (Nat → Int32) × (Nat → Int32)) :=
  (wrI m_ruleOf 150 s1 s2).bind fun m_ruleOf_28 =>
  if 9 ≤ x2 then (
    (rd m_ruleOf_28 150 x3).bind fun v30 =>
    (rd m_size 20 v30).bind fun v31 =>
    jn_X6_grow_278 m_rules m_tokens m_end m_head m_size m_symbol m_sign m_best k23 x3 (v31 - 1) ((m_parts + 1)) m_open m_row m_cut m_ruleOf_28 m_symbolOf m_parent m_place m_from m_to m_cost m_deep m_waiting
  ) else (
    jn_X6_grow_278 m_rules m_tokens m_end m_head m_size m_symbol m_sign m_best k23 x3 ((-1)) ((m_parts + 1)) m_open m_row m_cut m_ruleOf_28 m_symbolOf m_parent m_place m_from m_to m_cost m_deep m_waiting
  )
noncomputable def jn_X6_grow_212 (m_rules : Int32) (m_tokens : Int32) (m_end : Int32) (m_head : Nat → Int32) (m_size : Nat → Int32) (m_symbol : Nat → Int32) (m_sign : Nat → Int32) (m_best : Nat → Int64) (k23 : (Int32) → (Int32) → (Nat → Int64) → (Nat → Int32) → (Nat → Int32) → (Nat → Int32) → (Nat → Int32) → (Nat → Int32) → (Nat → Int32) → (Nat → Int32) → (Nat → Int32) → (Nat → Int32) → (Nat → Int32) → Option (Int32 × (Int32) × (Int32) × (Nat → Int64) × (Nat → Int32) × (Nat → Int32) × (Nat → Int32) × (Nat → Int32) × (Nat → Int32) × (Nat → Int32) × (Nat → Int32) × (Nat → Int32) × (Nat → Int32) × (Nat → Int32))) (x2 : Int32) (x3 : Int32) (m_parts : Int32) (m_open : Int32) (m_row : Nat → Int64) (m_cut : Nat → Int32) (m_ruleOf : Nat → Int32) (m_symbolOf : Nat → Int32) (m_parent : Nat → Int32) (m_place : Nat → Int32) (m_from : Nat → Int32) (m_to : Nat → Int32) (m_cost : Nat → Int32) (m_deep : Nat → Int32) (m_waiting : Nat → Int32) : Option (Int32 × (Int32) × (Int32) × (Nat → Int64) × (Nat → Int32) × (Nat → Int32) × (Nat → Int32) × (Nat → Int32) × (Nat → Int32) × (Nat → Int32) × (Nat → Int32) × (Nat → Int32) × (Nat → Int32) × (Nat → Int32)) :=
  if 9 ≤ x2 then (
    (rd m_from 150 x3).bind fun v25 =>
    (rd m_to 150 x3).bind fun v26 =>
    (f_X6_choose x2 v25 v26 m_rules m_tokens m_head m_size m_symbol m_sign m_best m_row m_cut).bind fun r27 =>
    jn_X6_grow_244 m_rules m_tokens m_end m_head m_size m_symbol m_sign m_best k23 x2 x3 x3 r27.1 m_parts m_open r27.2.1 r27.2.2 m_ruleOf m_symbolOf m_parent m_place m_from m_to m_cost m_deep m_waiting
  ) else (
    jn_X6_grow_244 m_rules m_tokens m_end m_head m_size m_symbol m_sign m_best k23 x2 x3 x3 ((-1)) m_parts m_open m_row m_cut m_ruleOf m_symbolOf m_parent m_place m_from m_to m_cost m_deep m_waiting
  )
noncomputable def jn_X6_grow_192 (m_rules : Int32) (m_tokens : Int32) (m_end : Int32) (m_head : Nat → Int32) (m_size : Nat → Int32) (m_symbol : Nat → Int32) (m_sign : Nat → Int32) (m_best : Nat → Int64) (k23 : (Int32) → (Int32) → (Nat → Int64) → (Nat → Int32) → (Nat → Int32) → (Nat → Int32) → (Nat → Int32) → (Nat → Int32) → (Nat → Int32) → (Nat → Int32) → (Nat → Int32) → (Nat → Int32) → (Nat → Int32) → Option (Int32 × (Int32) × (Int32) × (Nat → Int64) × (Nat → Int32) × (Nat → Int32) × (Nat → Int32) × (Nat → Int32) × (Nat → Int32) × (Nat → Int32) × (Nat → Int32) × (Nat → Int32) × (Nat → Int32) × (Nat → Int32))) (x2 : Int32) (x3 : Int32) (s1 : Int32) (s2 : Int32) (m_parts : Int32) (m_open : Int32) (m_row : Nat → Int64) (m_cut : Nat → Int32) (m_ruleOf : Nat → Int32) (m_symbolOf : Nat → Int32) (m_parent : Nat → Int32) (m_place : Nat → Int32) (m_from : Nat → Int32) (m_to : Nat → Int32) (m_cost : Nat → Int32) (m_deep : Nat → Int32) (m_waiting : Nat → Int32) : Option (Int32 × (Int32) × (Int32) × (Nat → Int64) × (Nat → Int32) × (Nat → Int32) × (Nat → Int32) × (Nat → Int32) × (Nat → Int32) × (Nat → Int32) × (Nat → Int32) × (Nat → Int32) × (Nat → Int32) × (Nat → Int32)) :=
  (wrI m_deep 150 s1 s2).bind fun m_deep_24 =>
  if x2 ≤ 8 then (
    jn_X6_grow_212 m_rules m_tokens m_end m_head m_size m_symbol m_sign m_best k23 x2 x3 m_parts m_open m_row m_cut m_ruleOf m_symbolOf m_parent m_place m_from m_to m_cost m_deep_24 m_waiting
  ) else (
    (rd m_deep_24 150 x3).bind fun v39 =>
    if v39 ≤ 36 then (
      jn_X6_grow_212 m_rules m_tokens m_end m_head m_size m_symbol m_sign m_best k23 x2 x3 m_parts m_open m_row m_cut m_ruleOf m_symbolOf m_parent m_place m_from m_to m_cost m_deep_24 m_waiting
    ) else (
      (zc 0).bind fun v40 => some (v40, m_parts, m_open, m_row, m_cut, m_ruleOf, m_symbolOf, m_parent, m_place, m_from, m_to, m_cost, m_deep_24, m_waiting)
    )
  )
noncomputable def lp_X6_grow_23 (m_rules : Int32) (m_tokens : Int32) (m_end : Int32) (m_head : Nat → Int32) (m_size : Nat → Int32) (m_symbol : Nat → Int32) (m_sign : Nat → Int32) (m_best : Nat → Int64) (k333 : (Int32) → (Int32) → (Nat → Int64) → (Nat → Int32) → (Nat → Int32) → (Nat → Int32) → (Nat → Int32) → (Nat → Int32) → (Nat → Int32) → (Nat → Int32) → (Nat → Int32) → (Nat → Int32) → (Nat → Int32) → Option (Int32 × (Int32) × (Int32) × (Nat → Int64) × (Nat → Int32) × (Nat → Int32) × (Nat → Int32) × (Nat → Int32) × (Nat → Int32) × (Nat → Int32) × (Nat → Int32) × (Nat → Int32) × (Nat → Int32) × (Nat → Int32))) : Nat → (Int32) → (Int32) → (Nat → Int64) → (Nat → Int32) → (Nat → Int32) → (Nat → Int32) → (Nat → Int32) → (Nat → Int32) → (Nat → Int32) → (Nat → Int32) → (Nat → Int32) → (Nat → Int32) → (Nat → Int32) → Option (Int32 × (Int32) × (Int32) × (Nat → Int64) × (Nat → Int32) × (Nat → Int32) × (Nat → Int32) × (Nat → Int32) × (Nat → Int32) × (Nat → Int32) × (Nat → Int32) × (Nat → Int32) × (Nat → Int32) × (Nat → Int32))
  | 0, _, _, _, _, _, _, _, _, _, _, _, _, _ => none
  | n + 1, m_parts, m_open, m_row, m_cut, m_ruleOf, m_symbolOf, m_parent, m_place, m_from, m_to, m_cost, m_deep, m_waiting =>
    if m_open ≤ 0 then (
      k333 m_parts m_open m_row m_cut m_ruleOf m_symbolOf m_parent m_place m_from m_to m_cost m_deep m_waiting
    ) else (
      if m_parts = 150 then (
        (zc 0).bind fun v2 => some (v2, m_parts, m_open, m_row, m_cut, m_ruleOf, m_symbolOf, m_parent, m_place, m_from, m_to, m_cost, m_deep, m_waiting)
      ) else (
        nm (5 * ((m_open - 1))) fun x1_4 =>
        (rd m_waiting 4000 x1_4).bind fun v5 =>
        nm v5 fun x2_6 =>
        nm m_parts fun x3_7 =>
        (wrI m_symbolOf 150 x3_7 x2_6).bind fun m_symbolOf_8 =>
        (rd m_waiting 4000 (x1_4 + 1)).bind fun v9 =>
        (wrI m_from 150 x3_7 v9).bind fun m_from_10 =>
        (rd m_waiting 4000 (x1_4 + 2)).bind fun v11 =>
        (wrI m_to 150 x3_7 v11).bind fun m_to_12 =>
        (rd m_waiting 4000 (x1_4 + 3)).bind fun v13 =>
        (wrI m_parent 150 x3_7 v13).bind fun m_parent_14 =>
        (rd m_waiting 4000 (x1_4 + 4)).bind fun v15 =>
        (wrI m_place 150 x3_7 v15).bind fun m_place_16 =>
        (rd m_from_10 150 x3_7).bind fun v17 =>
        (rd m_to_12 150 x3_7).bind fun v18 =>
        (f_X6_price x2_6 v17 v18 m_sign m_best).bind fun r19 =>
        (wrI m_cost 150 x3_7 ((r19 >>> ((24 : Int32).toInt64 &&& 63)).toInt32)).bind fun m_cost_20 =>
        (rd m_parent_14 150 x3_7).bind fun v21 =>
        if 0 ≤ v21 then (
          (rd m_parent_14 150 x3_7).bind fun v22 =>
          (rd m_deep 150 v22).bind fun v23 =>
          jn_X6_grow_192 m_rules m_tokens m_end m_head m_size m_symbol m_sign m_best (lp_X6_grow_23 m_rules m_tokens m_end m_head m_size m_symbol m_sign m_best k333 n) x2_6 x3_7 x3_7 (v23 + 1) m_parts ((m_open - 1)) m_row m_cut m_ruleOf m_symbolOf_8 m_parent_14 m_place_16 m_from_10 m_to_12 m_cost_20 m_deep m_waiting
        ) else (
          jn_X6_grow_192 m_rules m_tokens m_end m_head m_size m_symbol m_sign m_best (lp_X6_grow_23 m_rules m_tokens m_end m_head m_size m_symbol m_sign m_best k333 n) x2_6 x3_7 x3_7 0 m_parts ((m_open - 1)) m_row m_cut m_ruleOf m_symbolOf_8 m_parent_14 m_place_16 m_from_10 m_to_12 m_cost_20 m_deep m_waiting
        )
      )
    )
noncomputable def f_X6_grow (m_rules : Int32) (m_tokens : Int32) (m_end : Int32) (m_head : Nat → Int32) (m_size : Nat → Int32) (m_symbol : Nat → Int32) (m_sign : Nat → Int32) (m_best : Nat → Int64) (m_parts : Int32) (m_open : Int32) (m_row : Nat → Int64) (m_cut : Nat → Int32) (m_ruleOf : Nat → Int32) (m_symbolOf : Nat → Int32) (m_parent : Nat → Int32) (m_place : Nat → Int32) (m_from : Nat → Int32) (m_to : Nat → Int32) (m_cost : Nat → Int32) (m_deep : Nat → Int32) (m_waiting : Nat → Int32) : Option (Int32 × (Int32) × (Int32) × (Nat → Int64) × (Nat → Int32) × (Nat → Int32) × (Nat → Int32) × (Nat → Int32) × (Nat → Int32) × (Nat → Int32) × (Nat → Int32) × (Nat → Int32) × (Nat → Int32) × (Nat → Int32)) :=
  (f_X6_push 9 0 m_end ((-1)) 0 0 m_waiting).bind fun r1 =>
  lp_X6_grow_23 m_rules m_tokens m_end m_head m_size m_symbol m_sign m_best
    (fun m_parts m_open m_row m_cut m_ruleOf m_symbolOf m_parent m_place m_from m_to m_cost m_deep m_waiting =>
    (zc 1).bind fun v41 => some (v41, m_parts, m_open, m_row, m_cut, m_ruleOf, m_symbolOf, m_parent, m_place, m_from, m_to, m_cost, m_deep, m_waiting))
    FU 0 r1.1 m_row m_cut m_ruleOf m_symbolOf m_parent m_place m_from m_to m_cost m_deep r1.2
noncomputable def jn_X6_repair_121 (m_rules : Int32) (m_length : Int32) (m_head : Nat → Int32) (m_size : Nat → Int32) (m_symbol : Nat → Int32) (m_text : Nat → Int32) (k52 : (Int32) → (Int32) → (Int32) → (Int32) → (Int32) → (Int32) → (Int32) → (Int32) → (Int32) → (Int32) → (Nat → Int32) → (Nat → Int32) → (Nat → Int32) → (Nat → Int32) → (Nat → Int32) → (Nat → Int32) → (Nat → Int32) → (Nat → Int64) → (Nat → Int64) → (Nat → Int32) → (Nat → Int32) → (Nat → Int32) → (Nat → Int32) → (Nat → Int32) → (Nat → Int32) → (Nat → Int32) → (Nat → Int32) → (Nat → Int32) → (Nat → Int32) → Option (Int32 × (Int32) × (Int32) × (Int32) × (Int32) × (Int32) × (Int32) × (Int32) × (Int32) × (Int32) × (Nat → Int32) × (Nat → Int32) × (Nat → Int32) × (Nat → Int32) × (Nat → Int32) × (Nat → Int32) × (Nat → Int32) × (Nat → Int64) × (Nat → Int64) × (Nat → Int32) × (Nat → Int32) × (Nat → Int32) × (Nat → Int32) × (Nat → Int32) × (Nat → Int32) × (Nat → Int32) × (Nat → Int32) × (Nat → Int32) × (Nat → Int32))) (x1 : Int32) (s1 : Int32) (m_thrown : Int32) (m_tree : Int32) (m_tokens : Int32) (m_comments : Int32) (m_parts : Int32) (m_end : Int32) (m_open : Int32) (m_repaired : Int32) (m_paid : Int32) (m_kept : Nat → Int32) (m_tokenAt : Nat → Int32) (m_tokenLength : Nat → Int32) (m_sign : Nat → Int32) (m_commentAt : Nat → Int32) (m_commentLength : Nat → Int32) (m_firstComment : Nat → Int32) (m_best : Nat → Int64) (m_row : Nat → Int64) (m_cut : Nat → Int32) (m_ruleOf : Nat → Int32) (m_symbolOf : Nat → Int32) (m_parent : Nat → Int32) (m_place : Nat → Int32) (m_from : Nat → Int32) (m_to : Nat → Int32) (m_cost : Nat → Int32) (m_deep : Nat → Int32) (m_waiting : Nat → Int32) : Option (Int32 × (Int32) × (Int32) × (Int32) × (Int32) × (Int32) × (Int32) × (Int32) × (Int32) × (Int32) × (Nat → Int32) × (Nat → Int32) × (Nat → Int32) × (Nat → Int32) × (Nat → Int32) × (Nat → Int32) × (Nat → Int32) × (Nat → Int64) × (Nat → Int64) × (Nat → Int32) × (Nat → Int32) × (Nat → Int32) × (Nat → Int32) × (Nat → Int32) × (Nat → Int32) × (Nat → Int32) × (Nat → Int32) × (Nat → Int32) × (Nat → Int32)) :=
  nm (x1 + Int32.ofInt 1) fun x1_11 =>
  k52 x1_11 m_thrown m_tree m_tokens m_comments m_parts s1 m_open m_repaired m_paid m_kept m_tokenAt m_tokenLength m_sign m_commentAt m_commentLength m_firstComment m_best m_row m_cut m_ruleOf m_symbolOf m_parent m_place m_from m_to m_cost m_deep m_waiting
noncomputable def lp_X6_repair_52 (m_rules : Int32) (m_length : Int32) (m_head : Nat → Int32) (m_size : Nat → Int32) (m_symbol : Nat → Int32) (m_text : Nat → Int32) (k130 : (Int32) → (Int32) → (Int32) → (Int32) → (Int32) → (Int32) → (Int32) → (Int32) → (Int32) → (Nat → Int32) → (Nat → Int32) → (Nat → Int32) → (Nat → Int32) → (Nat → Int32) → (Nat → Int32) → (Nat → Int32) → (Nat → Int64) → (Nat → Int64) → (Nat → Int32) → (Nat → Int32) → (Nat → Int32) → (Nat → Int32) → (Nat → Int32) → (Nat → Int32) → (Nat → Int32) → (Nat → Int32) → (Nat → Int32) → (Nat → Int32) → Option (Int32 × (Int32) × (Int32) × (Int32) × (Int32) × (Int32) × (Int32) × (Int32) × (Int32) × (Int32) × (Nat → Int32) × (Nat → Int32) × (Nat → Int32) × (Nat → Int32) × (Nat → Int32) × (Nat → Int32) × (Nat → Int32) × (Nat → Int64) × (Nat → Int64) × (Nat → Int32) × (Nat → Int32) × (Nat → Int32) × (Nat → Int32) × (Nat → Int32) × (Nat → Int32) × (Nat → Int32) × (Nat → Int32) × (Nat → Int32) × (Nat → Int32))) : Nat → (Int32) → (Int32) → (Int32) → (Int32) → (Int32) → (Int32) → (Int32) → (Int32) → (Int32) → (Int32) → (Nat → Int32) → (Nat → Int32) → (Nat → Int32) → (Nat → Int32) → (Nat → Int32) → (Nat → Int32) → (Nat → Int32) → (Nat → Int64) → (Nat → Int64) → (Nat → Int32) → (Nat → Int32) → (Nat → Int32) → (Nat → Int32) → (Nat → Int32) → (Nat → Int32) → (Nat → Int32) → (Nat → Int32) → (Nat → Int32) → (Nat → Int32) → Option (Int32 × (Int32) × (Int32) × (Int32) × (Int32) × (Int32) × (Int32) × (Int32) × (Int32) × (Int32) × (Nat → Int32) × (Nat → Int32) × (Nat → Int32) × (Nat → Int32) × (Nat → Int32) × (Nat → Int32) × (Nat → Int32) × (Nat → Int64) × (Nat → Int64) × (Nat → Int32) × (Nat → Int32) × (Nat → Int32) × (Nat → Int32) × (Nat → Int32) × (Nat → Int32) × (Nat → Int32) × (Nat → Int32) × (Nat → Int32) × (Nat → Int32))
  | 0, _, _, _, _, _, _, _, _, _, _, _, _, _, _, _, _, _, _, _, _, _, _, _, _, _, _, _, _, _ => none
  | n + 1, x1, m_thrown, m_tree, m_tokens, m_comments, m_parts, m_end, m_open, m_repaired, m_paid, m_kept, m_tokenAt, m_tokenLength, m_sign, m_commentAt, m_commentLength, m_firstComment, m_best, m_row, m_cut, m_ruleOf, m_symbolOf, m_parent, m_place, m_from, m_to, m_cost, m_deep, m_waiting =>
    if m_tokens < x1 then (
      k130 m_thrown m_tree m_tokens m_comments m_parts m_end m_open m_repaired m_paid m_kept m_tokenAt m_tokenLength m_sign m_commentAt m_commentLength m_firstComment m_best m_row m_cut m_ruleOf m_symbolOf m_parent m_place m_from m_to m_cost m_deep m_waiting
    ) else (
      (rd m_best 1734 m_end).bind fun v7 =>
      nm (v7 + (16777216 * ((m_tokens - m_end).toInt64))) fun x2_8 =>
      (rd m_best 1734 x1).bind fun v9 =>
      nm (v9 + (16777216 * ((m_tokens - x1).toInt64))) fun x4_10 =>
      if 0 < (lg_cmp x4_10 x2_8) then (
        jn_X6_repair_121 m_rules m_length m_head m_size m_symbol m_text (lp_X6_repair_52 m_rules m_length m_head m_size m_symbol m_text k130 n) x1 m_end m_thrown m_tree m_tokens m_comments m_parts m_end m_open m_repaired m_paid m_kept m_tokenAt m_tokenLength m_sign m_commentAt m_commentLength m_firstComment m_best m_row m_cut m_ruleOf m_symbolOf m_parent m_place m_from m_to m_cost m_deep m_waiting
      ) else (
        jn_X6_repair_121 m_rules m_length m_head m_size m_symbol m_text (lp_X6_repair_52 m_rules m_length m_head m_size m_symbol m_text k130 n) x1 x1 m_thrown m_tree m_tokens m_comments m_parts m_end m_open m_repaired m_paid m_kept m_tokenAt m_tokenLength m_sign m_commentAt m_commentLength m_firstComment m_best m_row m_cut m_ruleOf m_symbolOf m_parent m_place m_from m_to m_cost m_deep m_waiting
      )
    )
noncomputable def f_X6_repair (m_rules : Int32) (m_length : Int32) (m_head : Nat → Int32) (m_size : Nat → Int32) (m_symbol : Nat → Int32) (m_text : Nat → Int32) (m_thrown : Int32) (m_tree : Int32) (m_tokens : Int32) (m_comments : Int32) (m_parts : Int32) (m_end : Int32) (m_open : Int32) (m_repaired : Int32) (m_paid : Int32) (m_kept : Nat → Int32) (m_tokenAt : Nat → Int32) (m_tokenLength : Nat → Int32) (m_sign : Nat → Int32) (m_commentAt : Nat → Int32) (m_commentLength : Nat → Int32) (m_firstComment : Nat → Int32) (m_best : Nat → Int64) (m_row : Nat → Int64) (m_cut : Nat → Int32) (m_ruleOf : Nat → Int32) (m_symbolOf : Nat → Int32) (m_parent : Nat → Int32) (m_place : Nat → Int32) (m_from : Nat → Int32) (m_to : Nat → Int32) (m_cost : Nat → Int32) (m_deep : Nat → Int32) (m_waiting : Nat → Int32) : Option (Int32 × (Int32) × (Int32) × (Int32) × (Int32) × (Int32) × (Int32) × (Int32) × (Int32) × (Int32) × (Nat → Int32) × (Nat → Int32) × (Nat → Int32) × (Nat → Int32) × (Nat → Int32) × (Nat → Int32) × (Nat → Int32) × (Nat → Int64) × (Nat → Int64) × (Nat → Int32) × (Nat → Int32) × (Nat → Int32) × (Nat → Int32) × (Nat → Int32) × (Nat → Int32) × (Nat → Int32) × (Nat → Int32) × (Nat → Int32) × (Nat → Int32)) :=
  (f_X6_ground m_rules m_head m_size m_symbol).bind fun r1 =>
  if ((r1 >>> (9 &&& 31)) &&& 1) = 0 then (
    (f_X6_fail 1 0).bind fun r2 =>
    some (r2.1, r2.2, 0, m_tokens, m_comments, m_parts, m_end, m_open, m_repaired, m_paid, m_kept, m_tokenAt, m_tokenLength, m_sign, m_commentAt, m_commentLength, m_firstComment, m_best, m_row, m_cut, m_ruleOf, m_symbolOf, m_parent, m_place, m_from, m_to, m_cost, m_deep, m_waiting)
  ) else (
    (f_X6_cutText m_length m_text m_tokens m_comments m_kept m_tokenAt m_tokenLength m_sign m_commentAt m_commentLength m_firstComment).bind fun r3 =>
    if r3.1 = 0 then (
      (f_X6_fail 2 0).bind fun r4 =>
      some (r4.1, r4.2, 0, r3.2.1, r3.2.2.1, m_parts, m_end, m_open, m_repaired, m_paid, r3.2.2.2.1, r3.2.2.2.2.1, r3.2.2.2.2.2.1, r3.2.2.2.2.2.2.1, r3.2.2.2.2.2.2.2.1, r3.2.2.2.2.2.2.2.2.1, r3.2.2.2.2.2.2.2.2.2, m_best, m_row, m_cut, m_ruleOf, m_symbolOf, m_parent, m_place, m_from, m_to, m_cost, m_deep, m_waiting)
    ) else (
      (f_X6_prices m_rules r3.2.1 m_head m_size m_symbol r3.2.2.2.2.2.2.1 m_best m_row).bind fun r5 =>
      nm (1 : Int32) fun x1_6 =>
      lp_X6_repair_52 m_rules m_length m_head m_size m_symbol m_text
        (fun m_thrown m_tree m_tokens m_comments m_parts m_end m_open m_repaired m_paid m_kept m_tokenAt m_tokenLength m_sign m_commentAt m_commentLength m_firstComment m_best m_row m_cut m_ruleOf m_symbolOf m_parent m_place m_from m_to m_cost m_deep m_waiting =>
        (f_X6_grow m_rules m_tokens m_end m_head m_size m_symbol m_sign m_best m_parts m_open m_row m_cut m_ruleOf m_symbolOf m_parent m_place m_from m_to m_cost m_deep m_waiting).bind fun r12 =>
        if r12.1 = 0 then (
          (f_X6_fail 2 m_thrown).bind fun r13 =>
          some (r13.1, r13.2, m_tree, m_tokens, m_comments, r12.2.1, m_end, r12.2.2.1, m_repaired, m_paid, m_kept, m_tokenAt, m_tokenLength, m_sign, m_commentAt, m_commentLength, m_firstComment, m_best, r12.2.2.2.1, r12.2.2.2.2.1, r12.2.2.2.2.2.1, r12.2.2.2.2.2.2.1, r12.2.2.2.2.2.2.2.1, r12.2.2.2.2.2.2.2.2.1, r12.2.2.2.2.2.2.2.2.2.1, r12.2.2.2.2.2.2.2.2.2.2.1, r12.2.2.2.2.2.2.2.2.2.2.2.1, r12.2.2.2.2.2.2.2.2.2.2.2.2.1, r12.2.2.2.2.2.2.2.2.2.2.2.2.2)
        ) else (
          (rd r12.2.2.2.2.2.2.2.2.2.2.2.1 150 0).bind fun v14 =>
          nm ((v14 + m_tokens) - m_end) fun x1_15 =>
          some (x1_15, m_thrown, 1, m_tokens, m_comments, r12.2.1, m_end, r12.2.2.1, ((m_repaired + 1)), ((m_paid + x1_15)), m_kept, m_tokenAt, m_tokenLength, m_sign, m_commentAt, m_commentLength, m_firstComment, m_best, r12.2.2.2.1, r12.2.2.2.2.1, r12.2.2.2.2.2.1, r12.2.2.2.2.2.2.1, r12.2.2.2.2.2.2.2.1, r12.2.2.2.2.2.2.2.2.1, r12.2.2.2.2.2.2.2.2.2.1, r12.2.2.2.2.2.2.2.2.2.2.1, r12.2.2.2.2.2.2.2.2.2.2.2.1, r12.2.2.2.2.2.2.2.2.2.2.2.2.1, r12.2.2.2.2.2.2.2.2.2.2.2.2.2)
        ))
        FU x1_6 0 0 r3.2.1 r3.2.2.1 m_parts 0 m_open m_repaired m_paid r3.2.2.2.1 r3.2.2.2.2.1 r3.2.2.2.2.2.1 r3.2.2.2.2.2.2.1 r3.2.2.2.2.2.2.2.1 r3.2.2.2.2.2.2.2.2.1 r3.2.2.2.2.2.2.2.2.2 r5.1 r5.2 m_cut m_ruleOf m_symbolOf m_parent m_place m_from m_to m_cost m_deep m_waiting
    )
  )
noncomputable def f_X6_put (a1 : Int32) (m_column : Int32) (m_printed : Int32) (m_print : Nat → Int32) : Option ((Int32) × (Int32) × (Nat → Int32)) :=
  (wrI m_print 6000 m_printed a1).bind fun m_print_1 =>
  some (((m_column + 1)), ((m_printed + 1)), m_print_1)
noncomputable def lp_X6_putTokens_63 (m_kept : Nat → Int32) (m_tokenAt : Nat → Int32) (m_tokenLength : Nat → Int32) (m_commentAt : Nat → Int32) (m_commentLength : Nat → Int32) (m_firstComment : Nat → Int32) (k100 : (Int32) → (Int32) → (Int32) → (Int32) → (Int32) → (Int32) → (Nat → Int32) → Option ((Int32) × (Int32) × (Nat → Int32))) : Nat → (Int32) → (Int32) → (Int32) → (Int32) → (Int32) → (Int32) → (Int32) → (Nat → Int32) → Option ((Int32) × (Int32) × (Nat → Int32))
  | 0, _, _, _, _, _, _, _, _ => none
  | n + 1, x2, x5, x6, x7, x8, m_column, m_printed, m_print =>
    (rd m_commentLength 41 x7).bind fun v8 =>
    if v8 ≤ x8 then (
      k100 x2 x5 x6 x7 m_column m_printed m_print
    ) else (
      (rd m_commentAt 41 x7).bind fun v9 =>
      (rd m_kept 80 (v9 + x8)).bind fun v10 =>
      (f_X6_put v10 m_column m_printed m_print).bind fun r11 =>
      nm (x8 + Int32.ofInt 1) fun x8_12 =>
      (lp_X6_putTokens_63 m_kept m_tokenAt m_tokenLength m_commentAt m_commentLength m_firstComment k100 n) x2 x5 x6 x7 x8_12 r11.1 r11.2.1 r11.2.2
    )
noncomputable def jn_X6_putTokens_60 (m_kept : Nat → Int32) (m_tokenAt : Nat → Int32) (m_tokenLength : Nat → Int32) (m_commentAt : Nat → Int32) (m_commentLength : Nat → Int32) (m_firstComment : Nat → Int32) (k35 : (Int32) → (Int32) → (Int32) → (Int32) → (Int32) → (Int32) → (Int32) → (Nat → Int32) → Option ((Int32) × (Int32) × (Nat → Int32))) (x2 : Int32) (x5 : Int32) (x6 : Int32) (x7 : Int32) (m_column : Int32) (m_printed : Int32) (m_print : Nat → Int32) : Option ((Int32) × (Int32) × (Nat → Int32)) :=
  nm (0 : Int32) fun x8_7 =>
  lp_X6_putTokens_63 m_kept m_tokenAt m_tokenLength m_commentAt m_commentLength m_firstComment
    (fun x2 x5 x6 x7 m_column m_printed m_print =>
    nm (1 : Int32) fun x4_13 =>
    nm (x7 + Int32.ofInt 1) fun x7_14 =>
    k35 x2 x4_13 x5 x6 x7_14 m_column m_printed m_print)
    FU x2 x5 x6 x7 x8_7 m_column m_printed m_print
noncomputable def lp_X6_putTokens_35 (m_kept : Nat → Int32) (m_tokenAt : Nat → Int32) (m_tokenLength : Nat → Int32) (m_commentAt : Nat → Int32) (m_commentLength : Nat → Int32) (m_firstComment : Nat → Int32) (k109 : (Int32) → (Int32) → (Int32) → (Int32) → (Int32) → (Int32) → (Nat → Int32) → Option ((Int32) × (Int32) × (Nat → Int32))) : Nat → (Int32) → (Int32) → (Int32) → (Int32) → (Int32) → (Int32) → (Int32) → (Nat → Int32) → Option ((Int32) × (Int32) × (Nat → Int32))
  | 0, _, _, _, _, _, _, _, _ => none
  | n + 1, x2, x4, x5, x6, x7, m_column, m_printed, m_print =>
    (rd m_firstComment 18 (x6 + 1)).bind fun v6 =>
    if v6 ≤ x7 then (
      k109 x2 x4 x5 x6 m_column m_printed m_print
    ) else (
      if x4 = 0 then (
        jn_X6_putTokens_60 m_kept m_tokenAt m_tokenLength m_commentAt m_commentLength m_firstComment (lp_X6_putTokens_35 m_kept m_tokenAt m_tokenLength m_commentAt m_commentLength m_firstComment k109 n) x2 x5 x6 x7 m_column m_printed m_print
      ) else (
        (f_X6_put 32 m_column m_printed m_print).bind fun r15 =>
        jn_X6_putTokens_60 m_kept m_tokenAt m_tokenLength m_commentAt m_commentLength m_firstComment (lp_X6_putTokens_35 m_kept m_tokenAt m_tokenLength m_commentAt m_commentLength m_firstComment k109 n) x2 x5 x6 x7 r15.1 r15.2.1 r15.2.2
      )
    )
noncomputable def jn_X6_putTokens_169 (m_kept : Nat → Int32) (m_tokenAt : Nat → Int32) (m_tokenLength : Nat → Int32) (m_commentAt : Nat → Int32) (m_commentLength : Nat → Int32) (m_firstComment : Nat → Int32) (k19 : (Int32) → (Int32) → (Int32) → (Int32) → (Int32) → (Int32) → (Nat → Int32) → Option ((Int32) × (Int32) × (Nat → Int32))) (x2 : Int32) (x4 : Int32) (x5 : Int32) (x6 : Int32) (m_column : Int32) (m_printed : Int32) (m_print : Nat → Int32) : Option ((Int32) × (Int32) × (Nat → Int32)) :=
  nm (x6 + Int32.ofInt 1) fun x6_16 =>
  k19 x2 x4 x5 x6_16 m_column m_printed m_print
noncomputable def lp_X6_putTokens_129 (m_kept : Nat → Int32) (m_tokenAt : Nat → Int32) (m_tokenLength : Nat → Int32) (m_commentAt : Nat → Int32) (m_commentLength : Nat → Int32) (m_firstComment : Nat → Int32) (k166 : (Int32) → (Int32) → (Int32) → (Int32) → (Int32) → (Nat → Int32) → Option ((Int32) × (Int32) × (Nat → Int32))) : Nat → (Int32) → (Int32) → (Int32) → (Int32) → (Int32) → (Int32) → (Nat → Int32) → Option ((Int32) × (Int32) × (Nat → Int32))
  | 0, _, _, _, _, _, _, _ => none
  | n + 1, x2, x5, x6, x7, m_column, m_printed, m_print =>
    (rd m_tokenLength 17 x6).bind fun v18 =>
    if v18 ≤ x7 then (
      k166 x2 x5 x6 m_column m_printed m_print
    ) else (
      (rd m_tokenAt 17 x6).bind fun v19 =>
      (rd m_kept 80 (v19 + x7)).bind fun v20 =>
      (f_X6_put v20 m_column m_printed m_print).bind fun r21 =>
      nm (x7 + Int32.ofInt 1) fun x7_22 =>
      (lp_X6_putTokens_129 m_kept m_tokenAt m_tokenLength m_commentAt m_commentLength m_firstComment k166 n) x2 x5 x6 x7_22 r21.1 r21.2.1 r21.2.2
    )
noncomputable def jn_X6_putTokens_126 (m_kept : Nat → Int32) (m_tokenAt : Nat → Int32) (m_tokenLength : Nat → Int32) (m_commentAt : Nat → Int32) (m_commentLength : Nat → Int32) (m_firstComment : Nat → Int32) (k19 : (Int32) → (Int32) → (Int32) → (Int32) → (Int32) → (Int32) → (Nat → Int32) → Option ((Int32) × (Int32) × (Nat → Int32))) (x2 : Int32) (x5 : Int32) (x6 : Int32) (m_column : Int32) (m_printed : Int32) (m_print : Nat → Int32) : Option ((Int32) × (Int32) × (Nat → Int32)) :=
  nm (0 : Int32) fun x7_17 =>
  lp_X6_putTokens_129 m_kept m_tokenAt m_tokenLength m_commentAt m_commentLength m_firstComment
    (fun x2 x5 x6 m_column m_printed m_print =>
    nm (1 : Int32) fun x4_23 =>
    jn_X6_putTokens_169 m_kept m_tokenAt m_tokenLength m_commentAt m_commentLength m_firstComment k19 x2 x4_23 x5 x6 m_column m_printed m_print)
    FU x2 x5 x6 x7_17 m_column m_printed m_print
noncomputable def lp_X6_putTokens_19 (m_kept : Nat → Int32) (m_tokenAt : Nat → Int32) (m_tokenLength : Nat → Int32) (m_commentAt : Nat → Int32) (m_commentLength : Nat → Int32) (m_firstComment : Nat → Int32) (k175 : (Int32) → (Int32) → (Nat → Int32) → Option ((Int32) × (Int32) × (Nat → Int32))) : Nat → (Int32) → (Int32) → (Int32) → (Int32) → (Int32) → (Int32) → (Nat → Int32) → Option ((Int32) × (Int32) × (Nat → Int32))
  | 0, _, _, _, _, _, _, _ => none
  | n + 1, x2, x4, x5, x6, m_column, m_printed, m_print =>
    if x5 ≤ x6 then (
      k175 m_column m_printed m_print
    ) else (
      (rd m_firstComment 18 x6).bind fun v4 =>
      nm v4 fun x7_5 =>
      lp_X6_putTokens_35 m_kept m_tokenAt m_tokenLength m_commentAt m_commentLength m_firstComment
        (fun x2 x4 x5 x6 m_column m_printed m_print =>
        if x2 ≤ x6 then (
          jn_X6_putTokens_169 m_kept m_tokenAt m_tokenLength m_commentAt m_commentLength m_firstComment (lp_X6_putTokens_19 m_kept m_tokenAt m_tokenLength m_commentAt m_commentLength m_firstComment k175 n) x2 x4 x5 x6 m_column m_printed m_print
        ) else (
          if x4 = 0 then (
            jn_X6_putTokens_126 m_kept m_tokenAt m_tokenLength m_commentAt m_commentLength m_firstComment (lp_X6_putTokens_19 m_kept m_tokenAt m_tokenLength m_commentAt m_commentLength m_firstComment k175 n) x2 x5 x6 m_column m_printed m_print
          ) else (
            (f_X6_put 32 m_column m_printed m_print).bind fun r24 =>
            jn_X6_putTokens_126 m_kept m_tokenAt m_tokenLength m_commentAt m_commentLength m_firstComment (lp_X6_putTokens_19 m_kept m_tokenAt m_tokenLength m_commentAt m_commentLength m_firstComment k175 n) x2 x5 x6 r24.1 r24.2.1 r24.2.2
          )
        ))
        FU x2 x4 x5 x6 x7_5 m_column m_printed m_print
    )
noncomputable def jn_X6_putTokens_14 (m_kept : Nat → Int32) (m_tokenAt : Nat → Int32) (m_tokenLength : Nat → Int32) (m_commentAt : Nat → Int32) (m_commentLength : Nat → Int32) (m_firstComment : Nat → Int32)  (x1 : Int32) (x2 : Int32) (x4 : Int32) (s0 : Int32) (m_column : Int32) (m_printed : Int32) (m_print : Nat → Int32) : Option ((Int32) × (Int32) × (Nat → Int32)) :=
  nm s0 fun x5_2 =>
  nm x1 fun x6_3 =>
  lp_X6_putTokens_19 m_kept m_tokenAt m_tokenLength m_commentAt m_commentLength m_firstComment
    (fun m_column m_printed m_print =>
    some (m_column, m_printed, m_print))
    FU x2 x4 x5_2 x6_3 m_column m_printed m_print
noncomputable def f_X6_putTokens (a1 : Int32) (a2 : Int32) (a3 : Int32) (m_kept : Nat → Int32) (m_tokenAt : Nat → Int32) (m_tokenLength : Nat → Int32) (m_commentAt : Nat → Int32) (m_commentLength : Nat → Int32) (m_firstComment : Nat → Int32) (m_column : Int32) (m_printed : Int32) (m_print : Nat → Int32) : Option ((Int32) × (Int32) × (Nat → Int32)) :=
  nm (0 : Int32) fun x4_1 =>
  if a3 = 0 then (
    jn_X6_putTokens_14 m_kept m_tokenAt m_tokenLength m_commentAt m_commentLength m_firstComment a1 a2 x4_1 a2 m_column m_printed m_print
  ) else (
    jn_X6_putTokens_14 m_kept m_tokenAt m_tokenLength m_commentAt m_commentLength m_firstComment a1 a2 x4_1 (a2 + 1) m_column m_printed m_print
  )
noncomputable def lp_X6_width_20 (m_tokenLength : Nat → Int32) (m_commentLength : Nat → Int32) (m_firstComment : Nat → Int32) (k52 : (Int32) → (Int32) → (Int32) → Option (Int32)) : Nat → (Int32) → (Int32) → (Int32) → (Int32) → Option (Int32)
  | 0, _, _, _, _ => none
  | n + 1, x2, x3, x4, x5 =>
    (rd m_firstComment 18 (x4 + 1)).bind fun v5 =>
    if v5 ≤ x5 then (
      k52 x2 x3 x4
    ) else (
      (rd m_commentLength 41 x5).bind fun v6 =>
      nm (x3 + (v6 + 1)) fun x3_7 =>
      nm (x5 + Int32.ofInt 1) fun x5_8 =>
      (lp_X6_width_20 m_tokenLength m_commentLength m_firstComment k52 n) x2 x3_7 x4 x5_8
    )
noncomputable def lp_X6_width_5 (m_tokenLength : Nat → Int32) (m_commentLength : Nat → Int32) (m_firstComment : Nat → Int32) (k70 : (Int32) → Option (Int32)) : Nat → (Int32) → (Int32) → (Int32) → Option (Int32)
  | 0, _, _, _ => none
  | n + 1, x2, x3, x4 =>
    if x2 ≤ x4 then (
      k70 x3
    ) else (
      (rd m_firstComment 18 x4).bind fun v3 =>
      nm v3 fun x5_4 =>
      lp_X6_width_20 m_tokenLength m_commentLength m_firstComment
        (fun x2 x3 x4 =>
        (rd m_tokenLength 17 x4).bind fun v9 =>
        nm (x3 + (v9 + 1)) fun x3_10 =>
        nm (x4 + Int32.ofInt 1) fun x4_11 =>
        (lp_X6_width_5 m_tokenLength m_commentLength m_firstComment k70 n) x2 x3_10 x4_11)
        FU x2 x3 x4 x5_4
    )
noncomputable def jn_X6_width_81 (m_tokenLength : Nat → Int32) (m_commentLength : Nat → Int32) (m_firstComment : Nat → Int32)  (s0 : Int32) : Option (Int32) :=
  some s0
noncomputable def f_X6_width (a1 : Int32) (a2 : Int32) (m_tokenLength : Nat → Int32) (m_commentLength : Nat → Int32) (m_firstComment : Nat → Int32) : Option (Int32) :=
  nm (0 : Int32) fun x3_1 =>
  nm a1 fun x4_2 =>
  lp_X6_width_5 m_tokenLength m_commentLength m_firstComment
    (fun x3 =>
    if x3 = 0 then (
      jn_X6_width_81 m_tokenLength m_commentLength m_firstComment 0
    ) else (
      jn_X6_width_81 m_tokenLength m_commentLength m_firstComment (x3 - 1)
    ))
    FU a2 x3_1 x4_2
noncomputable def f_X6_hintOf (a1 : Int32) (m_hint : Nat → Int32) (m_ruleOf : Nat → Int32) (m_parent : Nat → Int32) (m_place : Nat → Int32) : Option (Int32) :=
  (rd m_parent 150 a1).bind fun v1 =>
  (rd m_ruleOf 150 v1).bind fun v2 =>
  (rd m_place 150 a1).bind fun v3 =>
  (rd m_hint 100 ((5 * v2) + v3)).bind fun v4 =>
  some v4
noncomputable def jn_X6_digit_17   (s0 : Int32) : Option (Int32) :=
  (zc s0).bind fun v1 => some v1
noncomputable def jn_X6_digit_16    : Option (Int32) :=
  jn_X6_digit_17  0
noncomputable def f_X6_digit (a0 : Int32) : Option (Int32) :=
  if a0 < 48 then (
    jn_X6_digit_16 
  ) else (
    if 57 < a0 then (
      jn_X6_digit_16 
    ) else (
      jn_X6_digit_17  1
    )
  )
noncomputable def jn_X6_measure_270 (m_parts : Int32) (m_hint : Nat → Int32) (m_kept : Nat → Int32) (m_tokenAt : Nat → Int32) (m_tokenLength : Nat → Int32) (m_commentLength : Nat → Int32) (m_firstComment : Nat → Int32) (m_ruleOf : Nat → Int32) (m_symbolOf : Nat → Int32) (m_parent : Nat → Int32) (m_place : Nat → Int32) (m_from : Nat → Int32) (m_to : Nat → Int32) (k142 : (Int32) → (Int32) → (Nat → Int32) → (Nat → Int32) → (Nat → Int32) → (Nat → Int32) → Option ((Nat → Int32) × (Nat → Int32) × (Nat → Int32) × (Nat → Int32))) (x1 : Int32) (x2 : Int32) (m_wide : Nat → Int32) (m_begins : Nat → Int32) (m_started : Nat → Int32) (m_broken : Nat → Int32) : Option ((Nat → Int32) × (Nat → Int32) × (Nat → Int32) × (Nat → Int32)) :=
  nm (x2 + Int32.ofInt 1) fun x2_11 =>
  k142 x1 x2_11 m_wide m_begins m_started m_broken
noncomputable def jn_X6_measure_267 (m_parts : Int32) (m_hint : Nat → Int32) (m_kept : Nat → Int32) (m_tokenAt : Nat → Int32) (m_tokenLength : Nat → Int32) (m_commentLength : Nat → Int32) (m_firstComment : Nat → Int32) (m_ruleOf : Nat → Int32) (m_symbolOf : Nat → Int32) (m_parent : Nat → Int32) (m_place : Nat → Int32) (m_from : Nat → Int32) (m_to : Nat → Int32) (k142 : (Int32) → (Int32) → (Nat → Int32) → (Nat → Int32) → (Nat → Int32) → (Nat → Int32) → Option ((Nat → Int32) × (Nat → Int32) × (Nat → Int32) × (Nat → Int32))) (x1 : Int32) (x2 : Int32) (s1 : Int32) (s2 : Int32) (s3 : Int32) (s4 : Int32) (m_wide : Nat → Int32) (m_begins : Nat → Int32) (m_started : Nat → Int32) (m_broken : Nat → Int32) : Option ((Nat → Int32) × (Nat → Int32) × (Nat → Int32) × (Nat → Int32)) :=
  (wrI m_wide 150 s1 (s2 + (s3 + s4))).bind fun m_wide_19 =>
  jn_X6_measure_270 m_parts m_hint m_kept m_tokenAt m_tokenLength m_commentLength m_firstComment m_ruleOf m_symbolOf m_parent m_place m_from m_to k142 x1 x2 m_wide_19 m_begins m_started m_broken
noncomputable def jn_X6_measure_244 (m_parts : Int32) (m_hint : Nat → Int32) (m_kept : Nat → Int32) (m_tokenAt : Nat → Int32) (m_tokenLength : Nat → Int32) (m_commentLength : Nat → Int32) (m_firstComment : Nat → Int32) (m_ruleOf : Nat → Int32) (m_symbolOf : Nat → Int32) (m_parent : Nat → Int32) (m_place : Nat → Int32) (m_from : Nat → Int32) (m_to : Nat → Int32) (k142 : (Int32) → (Int32) → (Nat → Int32) → (Nat → Int32) → (Nat → Int32) → (Nat → Int32) → Option ((Nat → Int32) × (Nat → Int32) × (Nat → Int32) × (Nat → Int32))) (x1 : Int32) (x2 : Int32) (x3 : Int32) (s1 : Int32) (s2 : Int32) (m_wide : Nat → Int32) (m_begins : Nat → Int32) (m_started : Nat → Int32) (m_broken : Nat → Int32) : Option ((Nat → Int32) × (Nat → Int32) × (Nat → Int32) × (Nat → Int32)) :=
  (wrI m_begins 150 s1 s2).bind fun m_begins_16 =>
  (rd m_wide 150 x1).bind fun v17 =>
  (rd m_wide 150 x2).bind fun v18 =>
  if x3 = 0 then (
    jn_X6_measure_267 m_parts m_hint m_kept m_tokenAt m_tokenLength m_commentLength m_firstComment m_ruleOf m_symbolOf m_parent m_place m_from m_to k142 x1 x2 x1 v17 v18 0 m_wide m_begins_16 m_started m_broken
  ) else (
    jn_X6_measure_267 m_parts m_hint m_kept m_tokenAt m_tokenLength m_commentLength m_firstComment m_ruleOf m_symbolOf m_parent m_place m_from m_to k142 x1 x2 x1 v17 v18 1 m_wide m_begins_16 m_started m_broken
  )
noncomputable def jn_X6_measure_214 (m_parts : Int32) (m_hint : Nat → Int32) (m_kept : Nat → Int32) (m_tokenAt : Nat → Int32) (m_tokenLength : Nat → Int32) (m_commentLength : Nat → Int32) (m_firstComment : Nat → Int32) (m_ruleOf : Nat → Int32) (m_symbolOf : Nat → Int32) (m_parent : Nat → Int32) (m_place : Nat → Int32) (m_from : Nat → Int32) (m_to : Nat → Int32) (k142 : (Int32) → (Int32) → (Nat → Int32) → (Nat → Int32) → (Nat → Int32) → (Nat → Int32) → Option ((Nat → Int32) × (Nat → Int32) × (Nat → Int32) × (Nat → Int32))) (x1 : Int32) (x2 : Int32) (s0 : Int32) (m_wide : Nat → Int32) (m_begins : Nat → Int32) (m_started : Nat → Int32) (m_broken : Nat → Int32) : Option ((Nat → Int32) × (Nat → Int32) × (Nat → Int32) × (Nat → Int32)) :=
  nm s0 fun x3_13 =>
  (rd m_wide 150 x1).bind fun v14 =>
  if v14 = 0 then (
    (rd m_begins 150 x2).bind fun v15 =>
    jn_X6_measure_244 m_parts m_hint m_kept m_tokenAt m_tokenLength m_commentLength m_firstComment m_ruleOf m_symbolOf m_parent m_place m_from m_to k142 x1 x2 x3_13 x1 v15 m_wide m_begins m_started m_broken
  ) else (
    (rd m_begins 150 x1).bind fun v20 =>
    jn_X6_measure_244 m_parts m_hint m_kept m_tokenAt m_tokenLength m_commentLength m_firstComment m_ruleOf m_symbolOf m_parent m_place m_from m_to k142 x1 x2 x3_13 x1 v20 m_wide m_begins m_started m_broken
  )
noncomputable def jn_X6_measure_213 (m_parts : Int32) (m_hint : Nat → Int32) (m_kept : Nat → Int32) (m_tokenAt : Nat → Int32) (m_tokenLength : Nat → Int32) (m_commentLength : Nat → Int32) (m_firstComment : Nat → Int32) (m_ruleOf : Nat → Int32) (m_symbolOf : Nat → Int32) (m_parent : Nat → Int32) (m_place : Nat → Int32) (m_from : Nat → Int32) (m_to : Nat → Int32) (k142 : (Int32) → (Int32) → (Nat → Int32) → (Nat → Int32) → (Nat → Int32) → (Nat → Int32) → Option ((Nat → Int32) × (Nat → Int32) × (Nat → Int32) × (Nat → Int32))) (x1 : Int32) (x2 : Int32) (m_wide : Nat → Int32) (m_begins : Nat → Int32) (m_started : Nat → Int32) (m_broken : Nat → Int32) : Option ((Nat → Int32) × (Nat → Int32) × (Nat → Int32) × (Nat → Int32)) :=
  jn_X6_measure_214 m_parts m_hint m_kept m_tokenAt m_tokenLength m_commentLength m_firstComment m_ruleOf m_symbolOf m_parent m_place m_from m_to k142 x1 x2 0 m_wide m_begins m_started m_broken
noncomputable def jn_X6_measure_209 (m_parts : Int32) (m_hint : Nat → Int32) (m_kept : Nat → Int32) (m_tokenAt : Nat → Int32) (m_tokenLength : Nat → Int32) (m_commentLength : Nat → Int32) (m_firstComment : Nat → Int32) (m_ruleOf : Nat → Int32) (m_symbolOf : Nat → Int32) (m_parent : Nat → Int32) (m_place : Nat → Int32) (m_from : Nat → Int32) (m_to : Nat → Int32) (k142 : (Int32) → (Int32) → (Nat → Int32) → (Nat → Int32) → (Nat → Int32) → (Nat → Int32) → Option ((Nat → Int32) × (Nat → Int32) × (Nat → Int32) × (Nat → Int32))) (x1 : Int32) (x2 : Int32) (m_wide : Nat → Int32) (m_begins : Nat → Int32) (m_started : Nat → Int32) (m_broken : Nat → Int32) : Option ((Nat → Int32) × (Nat → Int32) × (Nat → Int32) × (Nat → Int32)) :=
  jn_X6_measure_214 m_parts m_hint m_kept m_tokenAt m_tokenLength m_commentLength m_firstComment m_ruleOf m_symbolOf m_parent m_place m_from m_to k142 x1 x2 1 m_wide m_begins m_started m_broken
noncomputable def lp_X6_measure_142 (m_parts : Int32) (m_hint : Nat → Int32) (m_kept : Nat → Int32) (m_tokenAt : Nat → Int32) (m_tokenLength : Nat → Int32) (m_commentLength : Nat → Int32) (m_firstComment : Nat → Int32) (m_ruleOf : Nat → Int32) (m_symbolOf : Nat → Int32) (m_parent : Nat → Int32) (m_place : Nat → Int32) (m_from : Nat → Int32) (m_to : Nat → Int32) (k276 : (Int32) → (Nat → Int32) → (Nat → Int32) → (Nat → Int32) → (Nat → Int32) → Option ((Nat → Int32) × (Nat → Int32) × (Nat → Int32) × (Nat → Int32))) : Nat → (Int32) → (Int32) → (Nat → Int32) → (Nat → Int32) → (Nat → Int32) → (Nat → Int32) → Option ((Nat → Int32) × (Nat → Int32) × (Nat → Int32) × (Nat → Int32))
  | 0, _, _, _, _, _, _ => none
  | n + 1, x1, x2, m_wide, m_begins, m_started, m_broken =>
    if m_parts ≤ x2 then (
      k276 x1 m_wide m_begins m_started m_broken
    ) else (
      (rd m_symbolOf 150 x1).bind fun v8 =>
      if v8 ≤ 8 then (
        k276 x1 m_wide m_begins m_started m_broken
      ) else (
        (rd m_parent 150 x2).bind fun v9 =>
        if v9 = x1 then (
          (rd m_wide 150 x2).bind fun v10 =>
          if v10 ≤ 0 then (
            jn_X6_measure_270 m_parts m_hint m_kept m_tokenAt m_tokenLength m_commentLength m_firstComment m_ruleOf m_symbolOf m_parent m_place m_from m_to (lp_X6_measure_142 m_parts m_hint m_kept m_tokenAt m_tokenLength m_commentLength m_firstComment m_ruleOf m_symbolOf m_parent m_place m_from m_to k276 n) x1 x2 m_wide m_begins m_started m_broken
          ) else (
            (rd m_wide 150 x1).bind fun v12 =>
            if v12 ≤ 0 then (
              jn_X6_measure_213 m_parts m_hint m_kept m_tokenAt m_tokenLength m_commentLength m_firstComment m_ruleOf m_symbolOf m_parent m_place m_from m_to (lp_X6_measure_142 m_parts m_hint m_kept m_tokenAt m_tokenLength m_commentLength m_firstComment m_ruleOf m_symbolOf m_parent m_place m_from m_to k276 n) x1 x2 m_wide m_begins m_started m_broken
            ) else (
              (f_X6_hintOf x2 m_hint m_ruleOf m_parent m_place).bind fun r21 =>
              if 0 < r21 then (
                jn_X6_measure_209 m_parts m_hint m_kept m_tokenAt m_tokenLength m_commentLength m_firstComment m_ruleOf m_symbolOf m_parent m_place m_from m_to (lp_X6_measure_142 m_parts m_hint m_kept m_tokenAt m_tokenLength m_commentLength m_firstComment m_ruleOf m_symbolOf m_parent m_place m_from m_to k276 n) x1 x2 m_wide m_begins m_started m_broken
              ) else (
                (rd m_begins 150 x2).bind fun v22 =>
                (f_X6_digit v22).bind fun r23 =>
                if r23 = 0 then (
                  jn_X6_measure_213 m_parts m_hint m_kept m_tokenAt m_tokenLength m_commentLength m_firstComment m_ruleOf m_symbolOf m_parent m_place m_from m_to (lp_X6_measure_142 m_parts m_hint m_kept m_tokenAt m_tokenLength m_commentLength m_firstComment m_ruleOf m_symbolOf m_parent m_place m_from m_to k276 n) x1 x2 m_wide m_begins m_started m_broken
                ) else (
                  jn_X6_measure_209 m_parts m_hint m_kept m_tokenAt m_tokenLength m_commentLength m_firstComment m_ruleOf m_symbolOf m_parent m_place m_from m_to (lp_X6_measure_142 m_parts m_hint m_kept m_tokenAt m_tokenLength m_commentLength m_firstComment m_ruleOf m_symbolOf m_parent m_place m_from m_to k276 n) x1 x2 m_wide m_begins m_started m_broken
                )
              )
            )
          )
        ) else (
          jn_X6_measure_270 m_parts m_hint m_kept m_tokenAt m_tokenLength m_commentLength m_firstComment m_ruleOf m_symbolOf m_parent m_place m_from m_to (lp_X6_measure_142 m_parts m_hint m_kept m_tokenAt m_tokenLength m_commentLength m_firstComment m_ruleOf m_symbolOf m_parent m_place m_from m_to k276 n) x1 x2 m_wide m_begins m_started m_broken
        )
      )
    )
noncomputable def jn_X6_measure_276 (m_parts : Int32) (m_hint : Nat → Int32) (m_kept : Nat → Int32) (m_tokenAt : Nat → Int32) (m_tokenLength : Nat → Int32) (m_commentLength : Nat → Int32) (m_firstComment : Nat → Int32) (m_ruleOf : Nat → Int32) (m_symbolOf : Nat → Int32) (m_parent : Nat → Int32) (m_place : Nat → Int32) (m_from : Nat → Int32) (m_to : Nat → Int32) (k7 : (Int32) → (Nat → Int32) → (Nat → Int32) → (Nat → Int32) → (Nat → Int32) → Option ((Nat → Int32) × (Nat → Int32) × (Nat → Int32) × (Nat → Int32))) (x1 : Int32) (m_wide : Nat → Int32) (m_begins : Nat → Int32) (m_started : Nat → Int32) (m_broken : Nat → Int32) : Option ((Nat → Int32) × (Nat → Int32) × (Nat → Int32) × (Nat → Int32)) :=
  nm (x1 + Int32.ofInt (-1)) fun x1_24 =>
  k7 x1_24 m_wide m_begins m_started m_broken
noncomputable def jn_X6_measure_138 (m_parts : Int32) (m_hint : Nat → Int32) (m_kept : Nat → Int32) (m_tokenAt : Nat → Int32) (m_tokenLength : Nat → Int32) (m_commentLength : Nat → Int32) (m_firstComment : Nat → Int32) (m_ruleOf : Nat → Int32) (m_symbolOf : Nat → Int32) (m_parent : Nat → Int32) (m_place : Nat → Int32) (m_from : Nat → Int32) (m_to : Nat → Int32) (k7 : (Int32) → (Nat → Int32) → (Nat → Int32) → (Nat → Int32) → (Nat → Int32) → Option ((Nat → Int32) × (Nat → Int32) × (Nat → Int32) × (Nat → Int32))) (x1 : Int32) (m_wide : Nat → Int32) (m_begins : Nat → Int32) (m_started : Nat → Int32) (m_broken : Nat → Int32) : Option ((Nat → Int32) × (Nat → Int32) × (Nat → Int32) × (Nat → Int32)) :=
  nm (x1 + 1) fun x2_7 =>
  lp_X6_measure_142 m_parts m_hint m_kept m_tokenAt m_tokenLength m_commentLength m_firstComment m_ruleOf m_symbolOf m_parent m_place m_from m_to
    (fun x1 m_wide m_begins m_started m_broken =>
    jn_X6_measure_276 m_parts m_hint m_kept m_tokenAt m_tokenLength m_commentLength m_firstComment m_ruleOf m_symbolOf m_parent m_place m_from m_to k7 x1 m_wide m_begins m_started m_broken)
    FU x1 x2_7 m_wide m_begins m_started m_broken
noncomputable def jn_X6_measure_120 (m_parts : Int32) (m_hint : Nat → Int32) (m_kept : Nat → Int32) (m_tokenAt : Nat → Int32) (m_tokenLength : Nat → Int32) (m_commentLength : Nat → Int32) (m_firstComment : Nat → Int32) (m_ruleOf : Nat → Int32) (m_symbolOf : Nat → Int32) (m_parent : Nat → Int32) (m_place : Nat → Int32) (m_from : Nat → Int32) (m_to : Nat → Int32) (k7 : (Int32) → (Nat → Int32) → (Nat → Int32) → (Nat → Int32) → (Nat → Int32) → Option ((Nat → Int32) × (Nat → Int32) × (Nat → Int32) × (Nat → Int32))) (x1 : Int32) (x2 : Int32) (s1 : Int32) (s2 : Int32) (m_wide : Nat → Int32) (m_begins : Nat → Int32) (m_started : Nat → Int32) (m_broken : Nat → Int32) : Option ((Nat → Int32) × (Nat → Int32) × (Nat → Int32) × (Nat → Int32)) :=
  (wrI m_begins 150 s1 s2).bind fun m_begins_34 =>
  (rd m_to 150 x1).bind fun v35 =>
  (f_X6_width x2 v35 m_tokenLength m_commentLength m_firstComment).bind fun r36 =>
  (wrI m_wide 150 x1 r36).bind fun m_wide_37 =>
  jn_X6_measure_138 m_parts m_hint m_kept m_tokenAt m_tokenLength m_commentLength m_firstComment m_ruleOf m_symbolOf m_parent m_place m_from m_to k7 x1 m_wide_37 m_begins_34 m_started m_broken
noncomputable def jn_X6_measure_94 (m_parts : Int32) (m_hint : Nat → Int32) (m_kept : Nat → Int32) (m_tokenAt : Nat → Int32) (m_tokenLength : Nat → Int32) (m_commentLength : Nat → Int32) (m_firstComment : Nat → Int32) (m_ruleOf : Nat → Int32) (m_symbolOf : Nat → Int32) (m_parent : Nat → Int32) (m_place : Nat → Int32) (m_from : Nat → Int32) (m_to : Nat → Int32) (k7 : (Int32) → (Nat → Int32) → (Nat → Int32) → (Nat → Int32) → (Nat → Int32) → Option ((Nat → Int32) × (Nat → Int32) × (Nat → Int32) × (Nat → Int32))) (x1 : Int32) (x2 : Int32) (s0 : Int32) (m_wide : Nat → Int32) (m_begins : Nat → Int32) (m_started : Nat → Int32) (m_broken : Nat → Int32) : Option ((Nat → Int32) × (Nat → Int32) × (Nat → Int32) × (Nat → Int32)) :=
  nm s0 fun x3_31 =>
  if x3_31 = 0 then (
    (rd m_tokenAt 17 x2).bind fun v32 =>
    (rd m_kept 80 v32).bind fun v33 =>
    jn_X6_measure_120 m_parts m_hint m_kept m_tokenAt m_tokenLength m_commentLength m_firstComment m_ruleOf m_symbolOf m_parent m_place m_from m_to k7 x1 x2 x1 v33 m_wide m_begins m_started m_broken
  ) else (
    jn_X6_measure_120 m_parts m_hint m_kept m_tokenAt m_tokenLength m_commentLength m_firstComment m_ruleOf m_symbolOf m_parent m_place m_from m_to k7 x1 x2 x1 123 m_wide m_begins m_started m_broken
  )
noncomputable def lp_X6_measure_7 (m_parts : Int32) (m_hint : Nat → Int32) (m_kept : Nat → Int32) (m_tokenAt : Nat → Int32) (m_tokenLength : Nat → Int32) (m_commentLength : Nat → Int32) (m_firstComment : Nat → Int32) (m_ruleOf : Nat → Int32) (m_symbolOf : Nat → Int32) (m_parent : Nat → Int32) (m_place : Nat → Int32) (m_from : Nat → Int32) (m_to : Nat → Int32) (k282 : (Nat → Int32) → (Nat → Int32) → (Nat → Int32) → (Nat → Int32) → Option ((Nat → Int32) × (Nat → Int32) × (Nat → Int32) × (Nat → Int32))) : Nat → (Int32) → (Nat → Int32) → (Nat → Int32) → (Nat → Int32) → (Nat → Int32) → Option ((Nat → Int32) × (Nat → Int32) × (Nat → Int32) × (Nat → Int32))
  | 0, _, _, _, _, _ => none
  | n + 1, x1, m_wide, m_begins, m_started, m_broken =>
    if x1 < 0 then (
      k282 m_wide m_begins m_started m_broken
    ) else (
      (wrI m_started 150 x1 (vp_nar .boolean 0)).bind fun m_started_2 =>
      (wrI m_broken 150 x1 (vp_nar .boolean 0)).bind fun m_broken_3 =>
      (wrI m_begins 150 x1 ((-1))).bind fun m_begins_4 =>
      (wrI m_wide 150 x1 0).bind fun m_wide_5 =>
      (rd m_symbolOf 150 x1).bind fun v6 =>
      if 9 ≤ v6 then (
        jn_X6_measure_138 m_parts m_hint m_kept m_tokenAt m_tokenLength m_commentLength m_firstComment m_ruleOf m_symbolOf m_parent m_place m_from m_to (lp_X6_measure_7 m_parts m_hint m_kept m_tokenAt m_tokenLength m_commentLength m_firstComment m_ruleOf m_symbolOf m_parent m_place m_from m_to k282 n) x1 m_wide_5 m_begins_4 m_started_2 m_broken_3
      ) else (
        (rd m_to 150 x1).bind fun v25 =>
        (rd m_from 150 x1).bind fun v26 =>
        if v25 ≤ v26 then (
          jn_X6_measure_138 m_parts m_hint m_kept m_tokenAt m_tokenLength m_commentLength m_firstComment m_ruleOf m_symbolOf m_parent m_place m_from m_to (lp_X6_measure_7 m_parts m_hint m_kept m_tokenAt m_tokenLength m_commentLength m_firstComment m_ruleOf m_symbolOf m_parent m_place m_from m_to k282 n) x1 m_wide_5 m_begins_4 m_started_2 m_broken_3
        ) else (
          (rd m_from 150 x1).bind fun v27 =>
          nm v27 fun x2_28 =>
          (rd m_firstComment 18 x2_28).bind fun v29 =>
          (rd m_firstComment 18 (x2_28 + 1)).bind fun v30 =>
          if v30 ≤ v29 then (
            jn_X6_measure_94 m_parts m_hint m_kept m_tokenAt m_tokenLength m_commentLength m_firstComment m_ruleOf m_symbolOf m_parent m_place m_from m_to (lp_X6_measure_7 m_parts m_hint m_kept m_tokenAt m_tokenLength m_commentLength m_firstComment m_ruleOf m_symbolOf m_parent m_place m_from m_to k282 n) x1 x2_28 0 m_wide_5 m_begins_4 m_started_2 m_broken_3
          ) else (
            jn_X6_measure_94 m_parts m_hint m_kept m_tokenAt m_tokenLength m_commentLength m_firstComment m_ruleOf m_symbolOf m_parent m_place m_from m_to (lp_X6_measure_7 m_parts m_hint m_kept m_tokenAt m_tokenLength m_commentLength m_firstComment m_ruleOf m_symbolOf m_parent m_place m_from m_to k282 n) x1 x2_28 1 m_wide_5 m_begins_4 m_started_2 m_broken_3
          )
        )
      )
    )
noncomputable def f_X6_measure (m_parts : Int32) (m_hint : Nat → Int32) (m_kept : Nat → Int32) (m_tokenAt : Nat → Int32) (m_tokenLength : Nat → Int32) (m_commentLength : Nat → Int32) (m_firstComment : Nat → Int32) (m_ruleOf : Nat → Int32) (m_symbolOf : Nat → Int32) (m_parent : Nat → Int32) (m_place : Nat → Int32) (m_from : Nat → Int32) (m_to : Nat → Int32) (m_wide : Nat → Int32) (m_begins : Nat → Int32) (m_started : Nat → Int32) (m_broken : Nat → Int32) : Option ((Nat → Int32) × (Nat → Int32) × (Nat → Int32) × (Nat → Int32)) :=
  nm (m_parts - 1) fun x1_1 =>
  lp_X6_measure_7 m_parts m_hint m_kept m_tokenAt m_tokenLength m_commentLength m_firstComment m_ruleOf m_symbolOf m_parent m_place m_from m_to
    (fun m_wide m_begins m_started m_broken =>
    some (m_wide, m_begins, m_started, m_broken))
    FU x1_1 m_wide m_begins m_started m_broken
noncomputable def lp_X6_joint_2 (m_parent : Nat → Int32) (m_started : Nat → Int32) (k35 : (Int32) → Option (Int32)) : Nat → (Int32) → Option (Int32)
  | 0, _ => none
  | n + 1, x2 =>
    (rd m_parent 150 x2).bind fun v2 =>
    if v2 < 0 then (
      k35 x2
    ) else (
      (rd m_parent 150 x2).bind fun v3 =>
      (rd m_started 150 v3).bind fun v4 =>
      if v4 = 0 then (
        (rd m_parent 150 x2).bind fun v5 =>
        nm v5 fun x2_6 =>
        (lp_X6_joint_2 m_parent m_started k35 n) x2_6
      ) else (
        k35 x2
      )
    )
noncomputable def jn_X6_joint_35 (m_parent : Nat → Int32) (m_started : Nat → Int32)  (x2 : Int32) : Option (Int32) :=
  some x2
noncomputable def f_X6_joint (a1 : Int32) (m_parent : Nat → Int32) (m_started : Nat → Int32) : Option (Int32) :=
  nm a1 fun x2_1 =>
  lp_X6_joint_2 m_parent m_started
    (fun x2 =>
    jn_X6_joint_35 m_parent m_started x2)
    FU x2_1
noncomputable def jn_X6_between_150 (m_hint : Nat → Int32) (m_in : Nat → Int32) (m_ruleOf : Nat → Int32) (m_parent : Nat → Int32) (m_place : Nat → Int32) (m_begins : Nat → Int32) (m_broken : Nat → Int32)  (m_column : Int32) (m_printed : Int32) (m_print : Nat → Int32) : Option ((Int32) × (Int32) × (Nat → Int32)) :=
  some (m_column, m_printed, m_print)
noncomputable def jn_X6_between_144 (m_hint : Nat → Int32) (m_in : Nat → Int32) (m_ruleOf : Nat → Int32) (m_parent : Nat → Int32) (m_place : Nat → Int32) (m_begins : Nat → Int32) (m_broken : Nat → Int32)  (m_column : Int32) (m_printed : Int32) (m_print : Nat → Int32) : Option ((Int32) × (Int32) × (Nat → Int32)) :=
  (f_X6_put 32 m_column m_printed m_print).bind fun r6 =>
  jn_X6_between_150 m_hint m_in m_ruleOf m_parent m_place m_begins m_broken r6.1 r6.2.1 r6.2.2
noncomputable def jn_X6_between_128 (m_hint : Nat → Int32) (m_in : Nat → Int32) (m_ruleOf : Nat → Int32) (m_parent : Nat → Int32) (m_place : Nat → Int32) (m_begins : Nat → Int32) (m_broken : Nat → Int32)  (x1 : Int32) (x3 : Int32) (m_column : Int32) (m_printed : Int32) (m_print : Nat → Int32) : Option ((Int32) × (Int32) × (Nat → Int32)) :=
  if 0 < x3 then (
    jn_X6_between_144 m_hint m_in m_ruleOf m_parent m_place m_begins m_broken m_column m_printed m_print
  ) else (
    (rd m_begins 150 x1).bind fun v7 =>
    (f_X6_digit v7).bind fun r8 =>
    if r8 = 0 then (
      jn_X6_between_150 m_hint m_in m_ruleOf m_parent m_place m_begins m_broken m_column m_printed m_print
    ) else (
      jn_X6_between_144 m_hint m_in m_ruleOf m_parent m_place m_begins m_broken m_column m_printed m_print
    )
  )
noncomputable def jn_X6_between_81 (m_hint : Nat → Int32) (m_in : Nat → Int32) (m_ruleOf : Nat → Int32) (m_parent : Nat → Int32) (m_place : Nat → Int32) (m_begins : Nat → Int32) (m_broken : Nat → Int32) (k44 : (Int32) → (Int32) → (Int32) → (Int32) → (Nat → Int32) → Option ((Int32) × (Int32) × (Nat → Int32))) (x5 : Int32) (s0 : Int32) (s1 : Int32) (m_column : Int32) (m_printed : Int32) (m_print : Nat → Int32) : Option ((Int32) × (Int32) × (Nat → Int32)) :=
  nm (s0 + s1) fun x4_13 =>
  (rd m_parent 150 x5).bind fun v14 =>
  nm v14 fun x5_15 =>
  k44 x4_13 x5_15 m_column m_printed m_print
noncomputable def jn_X6_between_80 (m_hint : Nat → Int32) (m_in : Nat → Int32) (m_ruleOf : Nat → Int32) (m_parent : Nat → Int32) (m_place : Nat → Int32) (m_begins : Nat → Int32) (m_broken : Nat → Int32) (k44 : (Int32) → (Int32) → (Int32) → (Int32) → (Nat → Int32) → Option ((Int32) × (Int32) × (Nat → Int32))) (x5 : Int32) (s0 : Int32) (m_column : Int32) (m_printed : Int32) (m_print : Nat → Int32) : Option ((Int32) × (Int32) × (Nat → Int32)) :=
  jn_X6_between_81 m_hint m_in m_ruleOf m_parent m_place m_begins m_broken k44 x5 s0 0 m_column m_printed m_print
noncomputable def lp_X6_between_44 (m_hint : Nat → Int32) (m_in : Nat → Int32) (m_ruleOf : Nat → Int32) (m_parent : Nat → Int32) (m_place : Nat → Int32) (m_begins : Nat → Int32) (m_broken : Nat → Int32) (k96 : (Int32) → (Int32) → (Int32) → (Nat → Int32) → Option ((Int32) × (Int32) × (Nat → Int32))) : Nat → (Int32) → (Int32) → (Int32) → (Int32) → (Nat → Int32) → Option ((Int32) × (Int32) × (Nat → Int32))
  | 0, _, _, _, _, _ => none
  | n + 1, x4, x5, m_column, m_printed, m_print =>
    if x5 < 0 then (
      k96 x4 m_column m_printed m_print
    ) else (
      (rd m_broken 150 x5).bind fun v12 =>
      if v12 = 0 then (
        jn_X6_between_80 m_hint m_in m_ruleOf m_parent m_place m_begins m_broken (lp_X6_between_44 m_hint m_in m_ruleOf m_parent m_place m_begins m_broken k96 n) x5 x4 m_column m_printed m_print
      ) else (
        (rd m_ruleOf 150 x5).bind fun v16 =>
        (rd m_in 20 v16).bind fun v17 =>
        if v17 = 0 then (
          jn_X6_between_80 m_hint m_in m_ruleOf m_parent m_place m_begins m_broken (lp_X6_between_44 m_hint m_in m_ruleOf m_parent m_place m_begins m_broken k96 n) x5 x4 m_column m_printed m_print
        ) else (
          jn_X6_between_81 m_hint m_in m_ruleOf m_parent m_place m_begins m_broken (lp_X6_between_44 m_hint m_in m_ruleOf m_parent m_place m_begins m_broken k96 n) x5 x4 1 m_column m_printed m_print
        )
      )
    )
noncomputable def lp_X6_between_104 (m_hint : Nat → Int32) (m_in : Nat → Int32) (m_ruleOf : Nat → Int32) (m_parent : Nat → Int32) (m_place : Nat → Int32) (m_begins : Nat → Int32) (m_broken : Nat → Int32) (k125 : (Int32) → (Int32) → (Nat → Int32) → Option ((Int32) × (Int32) × (Nat → Int32))) : Nat → (Int32) → (Int32) → (Int32) → (Int32) → (Nat → Int32) → Option ((Int32) × (Int32) × (Nat → Int32))
  | 0, _, _, _, _, _ => none
  | n + 1, x4, x5, m_column, m_printed, m_print =>
    if (2 * x4) ≤ x5 then (
      k125 m_column m_printed m_print
    ) else (
      (f_X6_put 32 m_column m_printed m_print).bind fun r19 =>
      nm (x5 + Int32.ofInt 1) fun x5_20 =>
      (lp_X6_between_104 m_hint m_in m_ruleOf m_parent m_place m_begins m_broken k125 n) x4 x5_20 r19.1 r19.2.1 r19.2.2
    )
noncomputable def f_X6_between (a1 : Int32) (m_hint : Nat → Int32) (m_in : Nat → Int32) (m_ruleOf : Nat → Int32) (m_parent : Nat → Int32) (m_place : Nat → Int32) (m_begins : Nat → Int32) (m_broken : Nat → Int32) (m_column : Int32) (m_printed : Int32) (m_print : Nat → Int32) : Option ((Int32) × (Int32) × (Nat → Int32)) :=
  (rd m_parent 150 a1).bind fun v1 =>
  nm v1 fun x2_2 =>
  if 0 ≤ x2_2 then (
    (f_X6_hintOf a1 m_hint m_ruleOf m_parent m_place).bind fun r3 =>
    nm r3 fun x3_4 =>
    if x3_4 = 2 then (
      (rd m_broken 150 x2_2).bind fun v5 =>
      if v5 = 0 then (
        jn_X6_between_128 m_hint m_in m_ruleOf m_parent m_place m_begins m_broken a1 x3_4 m_column m_printed m_print
      ) else (
        (f_X6_put 10 m_column m_printed m_print).bind fun r9 =>
        nm (0 : Int32) fun x4_10 =>
        nm x2_2 fun x5_11 =>
        lp_X6_between_44 m_hint m_in m_ruleOf m_parent m_place m_begins m_broken
          (fun x4 m_column m_printed m_print =>
          nm (0 : Int32) fun x5_18 =>
          lp_X6_between_104 m_hint m_in m_ruleOf m_parent m_place m_begins m_broken
            (fun m_column m_printed m_print =>
            jn_X6_between_150 m_hint m_in m_ruleOf m_parent m_place m_begins m_broken m_column m_printed m_print)
            FU x4 x5_18 0 m_printed m_print)
          FU x4_10 x5_11 r9.1 r9.2.1 r9.2.2
      )
    ) else (
      jn_X6_between_128 m_hint m_in m_ruleOf m_parent m_place m_begins m_broken a1 x3_4 m_column m_printed m_print
    )
  ) else (
    some (m_column, m_printed, m_print)
  )
noncomputable def lp_X6_start_85 (m_column : Int32) (m_parent : Nat → Int32) (m_wide : Nat → Int32) (k109 : (Int32) → (Int32) → (Int32) → (Nat → Int32) → (Nat → Int32) → Option ((Nat → Int32) × (Nat → Int32))) : Nat → (Int32) → (Int32) → (Int32) → (Int32) → (Nat → Int32) → (Nat → Int32) → Option ((Nat → Int32) × (Nat → Int32))
  | 0, _, _, _, _, _, _ => none
  | n + 1, x2, x3, x4, x6, m_started, m_broken =>
    (rd m_parent 150 x6).bind fun v7 =>
    if v7 = x4 then (
      k109 x2 x3 x6 m_started m_broken
    ) else (
      (rd m_parent 150 x6).bind fun v8 =>
      nm v8 fun x6_9 =>
      (lp_X6_start_85 m_column m_parent m_wide k109 n) x2 x3 x4 x6_9 m_started m_broken
    )
noncomputable def jn_X6_start_81 (m_column : Int32) (m_parent : Nat → Int32) (m_wide : Nat → Int32) (k3 : (Int32) → (Int32) → (Int32) → (Nat → Int32) → (Nat → Int32) → Option ((Nat → Int32) × (Nat → Int32))) (x2 : Int32) (x3 : Int32) (x4 : Int32) (s1 : Int32) (s2 : Int32) (m_started : Nat → Int32) (m_broken : Nat → Int32) : Option ((Nat → Int32) × (Nat → Int32)) :=
  (wrI m_broken 150 s1 (vp_nar .boolean s2)).bind fun m_broken_5 =>
  nm x2 fun x6_6 =>
  lp_X6_start_85 m_column m_parent m_wide
    (fun x2 x3 x6 m_started m_broken =>
    nm x6 fun x4_10 =>
    k3 x2 x3 x4_10 m_started m_broken)
    FU x2 x3 x4 x6_6 m_started m_broken_5
noncomputable def jn_X6_start_80 (m_column : Int32) (m_parent : Nat → Int32) (m_wide : Nat → Int32) (k3 : (Int32) → (Int32) → (Int32) → (Nat → Int32) → (Nat → Int32) → Option ((Nat → Int32) × (Nat → Int32))) (x2 : Int32) (x3 : Int32) (x4 : Int32) (s1 : Int32) (m_started : Nat → Int32) (m_broken : Nat → Int32) : Option ((Nat → Int32) × (Nat → Int32)) :=
  jn_X6_start_81 m_column m_parent m_wide k3 x2 x3 x4 s1 0 m_started m_broken
noncomputable def jn_X6_start_39 (m_column : Int32) (m_parent : Nat → Int32) (m_wide : Nat → Int32) (k3 : (Int32) → (Int32) → (Int32) → (Nat → Int32) → (Nat → Int32) → Option ((Nat → Int32) × (Nat → Int32))) (x2 : Int32) (x3 : Int32) (x4 : Int32) (s0 : Int32) (m_started : Nat → Int32) (m_broken : Nat → Int32) : Option ((Nat → Int32) × (Nat → Int32)) :=
  nm s0 fun x5_3 =>
  (wrI m_started 150 x4 (vp_nar .boolean 1)).bind fun m_started_4 =>
  if x5_3 = 0 then (
    jn_X6_start_80 m_column m_parent m_wide k3 x2 x3 x4 x4 m_started_4 m_broken
  ) else (
    (rd m_wide 150 x4).bind fun v11 =>
    if v11 ≤ (x3 - m_column) then (
      jn_X6_start_80 m_column m_parent m_wide k3 x2 x3 x4 x4 m_started_4 m_broken
    ) else (
      jn_X6_start_81 m_column m_parent m_wide k3 x2 x3 x4 x4 1 m_started_4 m_broken
    )
  )
noncomputable def jn_X6_start_34 (m_column : Int32) (m_parent : Nat → Int32) (m_wide : Nat → Int32) (k3 : (Int32) → (Int32) → (Int32) → (Nat → Int32) → (Nat → Int32) → Option ((Nat → Int32) × (Nat → Int32))) (x2 : Int32) (x3 : Int32) (x4 : Int32) (m_started : Nat → Int32) (m_broken : Nat → Int32) : Option ((Nat → Int32) × (Nat → Int32)) :=
  jn_X6_start_39 m_column m_parent m_wide k3 x2 x3 x4 1 m_started m_broken
noncomputable def lp_X6_start_3 (m_column : Int32) (m_parent : Nat → Int32) (m_wide : Nat → Int32) (k116 : (Nat → Int32) → (Nat → Int32) → Option ((Nat → Int32) × (Nat → Int32))) : Nat → (Int32) → (Int32) → (Int32) → (Nat → Int32) → (Nat → Int32) → Option ((Nat → Int32) × (Nat → Int32))
  | 0, _, _, _, _, _ => none
  | n + 1, x2, x3, x4, m_started, m_broken =>
    if x4 = x2 then (
      k116 m_started m_broken
    ) else (
      (rd m_parent 150 x4).bind fun v2 =>
      if v2 < 0 then (
        jn_X6_start_34 m_column m_parent m_wide (lp_X6_start_3 m_column m_parent m_wide k116 n) x2 x3 x4 m_started m_broken
      ) else (
        (rd m_parent 150 x4).bind fun v12 =>
        (rd m_broken 150 v12).bind fun v13 =>
        if v13 = 0 then (
          jn_X6_start_39 m_column m_parent m_wide (lp_X6_start_3 m_column m_parent m_wide k116 n) x2 x3 x4 0 m_started m_broken
        ) else (
          jn_X6_start_34 m_column m_parent m_wide (lp_X6_start_3 m_column m_parent m_wide k116 n) x2 x3 x4 m_started m_broken
        )
      )
    )
noncomputable def f_X6_start (a1 : Int32) (a2 : Int32) (a3 : Int32) (m_column : Int32) (m_parent : Nat → Int32) (m_wide : Nat → Int32) (m_started : Nat → Int32) (m_broken : Nat → Int32) : Option ((Nat → Int32) × (Nat → Int32)) :=
  nm a1 fun x4_1 =>
  lp_X6_start_3 m_column m_parent m_wide
    (fun m_started m_broken =>
    some (m_started, m_broken))
    FU a2 a3 x4_1 m_started m_broken
noncomputable def jn_X6_print_16 (m_tree : Int32) (m_tokens : Int32) (m_parts : Int32) (m_end : Int32) (m_hint : Nat → Int32) (m_in : Nat → Int32) (m_kept : Nat → Int32) (m_tokenAt : Nat → Int32) (m_tokenLength : Nat → Int32) (m_commentAt : Nat → Int32) (m_commentLength : Nat → Int32) (m_firstComment : Nat → Int32) (m_ruleOf : Nat → Int32) (m_symbolOf : Nat → Int32) (m_parent : Nat → Int32) (m_place : Nat → Int32) (m_from : Nat → Int32) (m_to : Nat → Int32)  (m_thrown : Int32) (m_column : Int32) (m_printed : Int32) (m_wide : Nat → Int32) (m_begins : Nat → Int32) (m_started : Nat → Int32) (m_broken : Nat → Int32) (m_print : Nat → Int32) : Option (Int32 × (Int32) × (Int32) × (Int32) × (Nat → Int32) × (Nat → Int32) × (Nat → Int32) × (Nat → Int32) × (Nat → Int32)) :=
  (f_X6_fail 1 m_thrown).bind fun r1 =>
  some (r1.1, r1.2, m_column, m_printed, m_wide, m_begins, m_started, m_broken, m_print)
noncomputable def jn_X6_print_114 (m_tree : Int32) (m_tokens : Int32) (m_parts : Int32) (m_end : Int32) (m_hint : Nat → Int32) (m_in : Nat → Int32) (m_kept : Nat → Int32) (m_tokenAt : Nat → Int32) (m_tokenLength : Nat → Int32) (m_commentAt : Nat → Int32) (m_commentLength : Nat → Int32) (m_firstComment : Nat → Int32) (m_ruleOf : Nat → Int32) (m_symbolOf : Nat → Int32) (m_parent : Nat → Int32) (m_place : Nat → Int32) (m_from : Nat → Int32) (m_to : Nat → Int32) (k51 : (Int32) → (Int32) → (Int32) → (Int32) → (Int32) → (Nat → Int32) → (Nat → Int32) → (Nat → Int32) → (Nat → Int32) → (Nat → Int32) → Option (Int32 × (Int32) × (Int32) × (Int32) × (Nat → Int32) × (Nat → Int32) × (Nat → Int32) × (Nat → Int32) × (Nat → Int32))) (x1 : Int32) (x2 : Int32) (m_thrown : Int32) (m_column : Int32) (m_printed : Int32) (m_wide : Nat → Int32) (m_begins : Nat → Int32) (m_started : Nat → Int32) (m_broken : Nat → Int32) (m_print : Nat → Int32) : Option (Int32 × (Int32) × (Int32) × (Int32) × (Nat → Int32) × (Nat → Int32) × (Nat → Int32) × (Nat → Int32) × (Nat → Int32)) :=
  nm (x2 + Int32.ofInt 1) fun x2_6 =>
  k51 x1 x2_6 m_thrown m_column m_printed m_wide m_begins m_started m_broken m_print
noncomputable def lp_X6_print_51 (m_tree : Int32) (m_tokens : Int32) (m_parts : Int32) (m_end : Int32) (m_hint : Nat → Int32) (m_in : Nat → Int32) (m_kept : Nat → Int32) (m_tokenAt : Nat → Int32) (m_tokenLength : Nat → Int32) (m_commentAt : Nat → Int32) (m_commentLength : Nat → Int32) (m_firstComment : Nat → Int32) (m_ruleOf : Nat → Int32) (m_symbolOf : Nat → Int32) (m_parent : Nat → Int32) (m_place : Nat → Int32) (m_from : Nat → Int32) (m_to : Nat → Int32) (k120 : (Int32) → (Int32) → (Int32) → (Nat → Int32) → (Nat → Int32) → (Nat → Int32) → (Nat → Int32) → (Nat → Int32) → Option (Int32 × (Int32) × (Int32) × (Int32) × (Nat → Int32) × (Nat → Int32) × (Nat → Int32) × (Nat → Int32) × (Nat → Int32))) : Nat → (Int32) → (Int32) → (Int32) → (Int32) → (Int32) → (Nat → Int32) → (Nat → Int32) → (Nat → Int32) → (Nat → Int32) → (Nat → Int32) → Option (Int32 × (Int32) × (Int32) × (Int32) × (Nat → Int32) × (Nat → Int32) × (Nat → Int32) × (Nat → Int32) × (Nat → Int32))
  | 0, _, _, _, _, _, _, _, _, _, _ => none
  | n + 1, x1, x2, m_thrown, m_column, m_printed, m_wide, m_begins, m_started, m_broken, m_print =>
    if m_parts ≤ x2 then (
      k120 m_thrown m_column m_printed m_wide m_begins m_started m_broken m_print
    ) else (
      (rd m_symbolOf 150 x2).bind fun v5 =>
      if 9 ≤ v5 then (
        jn_X6_print_114 m_tree m_tokens m_parts m_end m_hint m_in m_kept m_tokenAt m_tokenLength m_commentAt m_commentLength m_firstComment m_ruleOf m_symbolOf m_parent m_place m_from m_to (lp_X6_print_51 m_tree m_tokens m_parts m_end m_hint m_in m_kept m_tokenAt m_tokenLength m_commentAt m_commentLength m_firstComment m_ruleOf m_symbolOf m_parent m_place m_from m_to k120 n) x1 x2 m_thrown m_column m_printed m_wide m_begins m_started m_broken m_print
      ) else (
        (rd m_wide 150 x2).bind fun v7 =>
        if v7 ≤ 0 then (
          jn_X6_print_114 m_tree m_tokens m_parts m_end m_hint m_in m_kept m_tokenAt m_tokenLength m_commentAt m_commentLength m_firstComment m_ruleOf m_symbolOf m_parent m_place m_from m_to (lp_X6_print_51 m_tree m_tokens m_parts m_end m_hint m_in m_kept m_tokenAt m_tokenLength m_commentAt m_commentLength m_firstComment m_ruleOf m_symbolOf m_parent m_place m_from m_to k120 n) x1 x2 m_thrown m_column m_printed m_wide m_begins m_started m_broken m_print
        ) else (
          (f_X6_joint x2 m_parent m_started).bind fun r8 =>
          nm r8 fun x3_9 =>
          (f_X6_between x3_9 m_hint m_in m_ruleOf m_parent m_place m_begins m_broken m_column m_printed m_print).bind fun r10 =>
          (f_X6_start x3_9 x2 x1 r10.1 m_parent m_wide m_started m_broken).bind fun r11 =>
          (rd m_from 150 x2).bind fun v12 =>
          (rd m_to 150 x2).bind fun v13 =>
          (f_X6_putTokens v12 v13 0 m_kept m_tokenAt m_tokenLength m_commentAt m_commentLength m_firstComment r10.1 r10.2.1 r10.2.2).bind fun r14 =>
          jn_X6_print_114 m_tree m_tokens m_parts m_end m_hint m_in m_kept m_tokenAt m_tokenLength m_commentAt m_commentLength m_firstComment m_ruleOf m_symbolOf m_parent m_place m_from m_to (lp_X6_print_51 m_tree m_tokens m_parts m_end m_hint m_in m_kept m_tokenAt m_tokenLength m_commentAt m_commentLength m_firstComment m_ruleOf m_symbolOf m_parent m_place m_from m_to k120 n) x1 x2 m_thrown r14.1 r14.2.1 m_wide m_begins r11.1 r11.2 r14.2.2
        )
      )
    )
noncomputable def jn_X6_print_177 (m_tree : Int32) (m_tokens : Int32) (m_parts : Int32) (m_end : Int32) (m_hint : Nat → Int32) (m_in : Nat → Int32) (m_kept : Nat → Int32) (m_tokenAt : Nat → Int32) (m_tokenLength : Nat → Int32) (m_commentAt : Nat → Int32) (m_commentLength : Nat → Int32) (m_firstComment : Nat → Int32) (m_ruleOf : Nat → Int32) (m_symbolOf : Nat → Int32) (m_parent : Nat → Int32) (m_place : Nat → Int32) (m_from : Nat → Int32) (m_to : Nat → Int32)  (m_thrown : Int32) (m_column : Int32) (m_printed : Int32) (m_wide : Nat → Int32) (m_begins : Nat → Int32) (m_started : Nat → Int32) (m_broken : Nat → Int32) (m_print : Nat → Int32) : Option (Int32 × (Int32) × (Int32) × (Int32) × (Nat → Int32) × (Nat → Int32) × (Nat → Int32) × (Nat → Int32) × (Nat → Int32)) :=
  (f_X6_putTokens m_end m_tokens 1 m_kept m_tokenAt m_tokenLength m_commentAt m_commentLength m_firstComment m_column m_printed m_print).bind fun r16 =>
  some (r16.2.1, m_thrown, r16.1, r16.2.1, m_wide, m_begins, m_started, m_broken, r16.2.2)
noncomputable def jn_X6_print_159 (m_tree : Int32) (m_tokens : Int32) (m_parts : Int32) (m_end : Int32) (m_hint : Nat → Int32) (m_in : Nat → Int32) (m_kept : Nat → Int32) (m_tokenAt : Nat → Int32) (m_tokenLength : Nat → Int32) (m_commentAt : Nat → Int32) (m_commentLength : Nat → Int32) (m_firstComment : Nat → Int32) (m_ruleOf : Nat → Int32) (m_symbolOf : Nat → Int32) (m_parent : Nat → Int32) (m_place : Nat → Int32) (m_from : Nat → Int32) (m_to : Nat → Int32)  (s0 : Int32) (m_thrown : Int32) (m_column : Int32) (m_printed : Int32) (m_wide : Nat → Int32) (m_begins : Nat → Int32) (m_started : Nat → Int32) (m_broken : Nat → Int32) (m_print : Nat → Int32) : Option (Int32 × (Int32) × (Int32) × (Int32) × (Nat → Int32) × (Nat → Int32) × (Nat → Int32) × (Nat → Int32) × (Nat → Int32)) :=
  nm s0 fun x2_15 =>
  if x2_15 = 0 then (
    jn_X6_print_177 m_tree m_tokens m_parts m_end m_hint m_in m_kept m_tokenAt m_tokenLength m_commentAt m_commentLength m_firstComment m_ruleOf m_symbolOf m_parent m_place m_from m_to m_thrown m_column m_printed m_wide m_begins m_started m_broken m_print
  ) else (
    if m_printed ≤ 0 then (
      jn_X6_print_177 m_tree m_tokens m_parts m_end m_hint m_in m_kept m_tokenAt m_tokenLength m_commentAt m_commentLength m_firstComment m_ruleOf m_symbolOf m_parent m_place m_from m_to m_thrown m_column m_printed m_wide m_begins m_started m_broken m_print
    ) else (
      (f_X6_put 10 m_column m_printed m_print).bind fun r17 =>
      jn_X6_print_177 m_tree m_tokens m_parts m_end m_hint m_in m_kept m_tokenAt m_tokenLength m_commentAt m_commentLength m_firstComment m_ruleOf m_symbolOf m_parent m_place m_from m_to m_thrown r17.1 r17.2.1 m_wide m_begins m_started m_broken r17.2.2
    )
  )
noncomputable def jn_X6_print_154 (m_tree : Int32) (m_tokens : Int32) (m_parts : Int32) (m_end : Int32) (m_hint : Nat → Int32) (m_in : Nat → Int32) (m_kept : Nat → Int32) (m_tokenAt : Nat → Int32) (m_tokenLength : Nat → Int32) (m_commentAt : Nat → Int32) (m_commentLength : Nat → Int32) (m_firstComment : Nat → Int32) (m_ruleOf : Nat → Int32) (m_symbolOf : Nat → Int32) (m_parent : Nat → Int32) (m_place : Nat → Int32) (m_from : Nat → Int32) (m_to : Nat → Int32)  (m_thrown : Int32) (m_column : Int32) (m_printed : Int32) (m_wide : Nat → Int32) (m_begins : Nat → Int32) (m_started : Nat → Int32) (m_broken : Nat → Int32) (m_print : Nat → Int32) : Option (Int32 × (Int32) × (Int32) × (Int32) × (Nat → Int32) × (Nat → Int32) × (Nat → Int32) × (Nat → Int32) × (Nat → Int32)) :=
  jn_X6_print_159 m_tree m_tokens m_parts m_end m_hint m_in m_kept m_tokenAt m_tokenLength m_commentAt m_commentLength m_firstComment m_ruleOf m_symbolOf m_parent m_place m_from m_to 1 m_thrown m_column m_printed m_wide m_begins m_started m_broken m_print
noncomputable def f_X6_print (a1 : Int32) (m_tree : Int32) (m_tokens : Int32) (m_parts : Int32) (m_end : Int32) (m_hint : Nat → Int32) (m_in : Nat → Int32) (m_kept : Nat → Int32) (m_tokenAt : Nat → Int32) (m_tokenLength : Nat → Int32) (m_commentAt : Nat → Int32) (m_commentLength : Nat → Int32) (m_firstComment : Nat → Int32) (m_ruleOf : Nat → Int32) (m_symbolOf : Nat → Int32) (m_parent : Nat → Int32) (m_place : Nat → Int32) (m_from : Nat → Int32) (m_to : Nat → Int32) (m_thrown : Int32) (m_column : Int32) (m_printed : Int32) (m_wide : Nat → Int32) (m_begins : Nat → Int32) (m_started : Nat → Int32) (m_broken : Nat → Int32) (m_print : Nat → Int32) : Option (Int32 × (Int32) × (Int32) × (Int32) × (Nat → Int32) × (Nat → Int32) × (Nat → Int32) × (Nat → Int32) × (Nat → Int32)) :=
  if a1 < 1 then (
    jn_X6_print_16 m_tree m_tokens m_parts m_end m_hint m_in m_kept m_tokenAt m_tokenLength m_commentAt m_commentLength m_firstComment m_ruleOf m_symbolOf m_parent m_place m_from m_to 0 m_column m_printed m_wide m_begins m_started m_broken m_print
  ) else (
    if a1 ≤ 100 then (
      if m_tree = 0 then (
        (f_X6_fail 2 0).bind fun r2 =>
        some (r2.1, r2.2, m_column, m_printed, m_wide, m_begins, m_started, m_broken, m_print)
      ) else (
        (f_X6_measure m_parts m_hint m_kept m_tokenAt m_tokenLength m_commentLength m_firstComment m_ruleOf m_symbolOf m_parent m_place m_from m_to m_wide m_begins m_started m_broken).bind fun r3 =>
        nm (0 : Int32) fun x2_4 =>
        lp_X6_print_51 m_tree m_tokens m_parts m_end m_hint m_in m_kept m_tokenAt m_tokenLength m_commentAt m_commentLength m_firstComment m_ruleOf m_symbolOf m_parent m_place m_from m_to
          (fun m_thrown m_column m_printed m_wide m_begins m_started m_broken m_print =>
          if m_end < m_tokens then (
            jn_X6_print_154 m_tree m_tokens m_parts m_end m_hint m_in m_kept m_tokenAt m_tokenLength m_commentAt m_commentLength m_firstComment m_ruleOf m_symbolOf m_parent m_place m_from m_to m_thrown m_column m_printed m_wide m_begins m_started m_broken m_print
          ) else (
            (rd m_firstComment 18 m_tokens).bind fun v18 =>
            (rd m_firstComment 18 (m_tokens + 1)).bind fun v19 =>
            if v19 ≤ v18 then (
              jn_X6_print_159 m_tree m_tokens m_parts m_end m_hint m_in m_kept m_tokenAt m_tokenLength m_commentAt m_commentLength m_firstComment m_ruleOf m_symbolOf m_parent m_place m_from m_to 0 m_thrown m_column m_printed m_wide m_begins m_started m_broken m_print
            ) else (
              jn_X6_print_154 m_tree m_tokens m_parts m_end m_hint m_in m_kept m_tokenAt m_tokenLength m_commentAt m_commentLength m_firstComment m_ruleOf m_symbolOf m_parent m_place m_from m_to m_thrown m_column m_printed m_wide m_begins m_started m_broken m_print
            )
          ))
          FU a1 x2_4 0 0 0 r3.1 r3.2.1 r3.2.2.1 r3.2.2.2 m_print
      )
    ) else (
      jn_X6_print_16 m_tree m_tokens m_parts m_end m_hint m_in m_kept m_tokenAt m_tokenLength m_commentAt m_commentLength m_firstComment m_ruleOf m_symbolOf m_parent m_place m_from m_to 0 m_column m_printed m_wide m_begins m_started m_broken m_print
    )
  )
noncomputable def jn_X6_tokens_20 (m_tree : Int32) (m_tokens : Int32)  (s0 : Int32) (m_thrown : Int32) : Option (Int32 × (Int32)) :=
  some (s0, m_thrown)
noncomputable def f_X6_tokens (m_tree : Int32) (m_tokens : Int32) (m_thrown : Int32) : Option (Int32 × (Int32)) :=
  if m_tree = 0 then (
    jn_X6_tokens_20 m_tree m_tokens 0 0
  ) else (
    jn_X6_tokens_20 m_tree m_tokens m_tokens 0
  )
noncomputable def jn_X6_token_33 (m_tree : Int32) (m_tokens : Int32) (m_tokenLength : Nat → Int32) (m_sign : Nat → Int32) (m_firstComment : Nat → Int32)  (m_thrown : Int32) : Option (Int32 × (Int32)) :=
  (f_X6_fail 1 m_thrown).bind fun r1 =>
  some (r1.1, r1.2)
noncomputable def jn_X6_token_91 (m_tree : Int32) (m_tokens : Int32) (m_tokenLength : Nat → Int32) (m_sign : Nat → Int32) (m_firstComment : Nat → Int32)  (s0 : Int32) (m_thrown : Int32) : Option (Int32 × (Int32)) :=
  some (s0, m_thrown)
noncomputable def f_X6_token (a1 : Int32) (a2 : Int32) (m_tree : Int32) (m_tokens : Int32) (m_tokenLength : Nat → Int32) (m_sign : Nat → Int32) (m_firstComment : Nat → Int32) (m_thrown : Int32) : Option (Int32 × (Int32)) :=
  if m_tree = 0 then (
    jn_X6_token_33 m_tree m_tokens m_tokenLength m_sign m_firstComment 0
  ) else (
    (f_X6_below a1 (m_tokens + 1)).bind fun r2 =>
    if r2 = 0 then (
      jn_X6_token_33 m_tree m_tokens m_tokenLength m_sign m_firstComment 0
    ) else (
      (f_X6_below a2 3).bind fun r3 =>
      if r3 = 0 then (
        jn_X6_token_33 m_tree m_tokens m_tokenLength m_sign m_firstComment 0
      ) else (
        if a2 = 2 then (
          (rd m_firstComment 18 (a1 + 1)).bind fun v4 =>
          (rd m_firstComment 18 a1).bind fun v5 =>
          some (v4 - v5, 0)
        ) else (
          if a1 = m_tokens then (
            jn_X6_token_91 m_tree m_tokens m_tokenLength m_sign m_firstComment 0 0
          ) else (
            if a2 = 0 then (
              (rd m_sign 17 a1).bind fun v6 =>
              jn_X6_token_91 m_tree m_tokens m_tokenLength m_sign m_firstComment v6 0
            ) else (
              (rd m_tokenLength 17 a1).bind fun v7 =>
              jn_X6_token_91 m_tree m_tokens m_tokenLength m_sign m_firstComment v7 0
            )
          )
        )
      )
    )
  )
noncomputable def jn_X6_parts_20 (m_tree : Int32) (m_parts : Int32)  (s0 : Int32) (m_thrown : Int32) : Option (Int32 × (Int32)) :=
  some (s0, m_thrown)
noncomputable def f_X6_parts (m_tree : Int32) (m_parts : Int32) (m_thrown : Int32) : Option (Int32 × (Int32)) :=
  if m_tree = 0 then (
    jn_X6_parts_20 m_tree m_parts 0 0
  ) else (
    jn_X6_parts_20 m_tree m_parts m_parts 0
  )
noncomputable def jn_X6_part_32 (m_tree : Int32) (m_parts : Int32) (m_size : Nat → Int32) (m_sign : Nat → Int32) (m_ruleOf : Nat → Int32) (m_symbolOf : Nat → Int32) (m_parent : Nat → Int32) (m_from : Nat → Int32) (m_to : Nat → Int32) (m_cost : Nat → Int32)  (m_thrown : Int32) : Option (Int32 × (Int32)) :=
  (f_X6_fail 1 m_thrown).bind fun r1 =>
  some (r1.1, r1.2)
noncomputable def jn_X6_part_192 (m_tree : Int32) (m_parts : Int32) (m_size : Nat → Int32) (m_sign : Nat → Int32) (m_ruleOf : Nat → Int32) (m_symbolOf : Nat → Int32) (m_parent : Nat → Int32) (m_from : Nat → Int32) (m_to : Nat → Int32) (m_cost : Nat → Int32)  (s0 : Int32) (m_thrown : Int32) : Option (Int32 × (Int32)) :=
  some (s0, m_thrown)
noncomputable def jn_X6_part_124 (m_tree : Int32) (m_parts : Int32) (m_size : Nat → Int32) (m_sign : Nat → Int32) (m_ruleOf : Nat → Int32) (m_symbolOf : Nat → Int32) (m_parent : Nat → Int32) (m_from : Nat → Int32) (m_to : Nat → Int32) (m_cost : Nat → Int32)  (s0 : Int32) (m_thrown : Int32) : Option (Int32 × (Int32)) :=
  some (s0, m_thrown)
noncomputable def jn_X6_part_76 (m_tree : Int32) (m_parts : Int32) (m_size : Nat → Int32) (m_sign : Nat → Int32) (m_ruleOf : Nat → Int32) (m_symbolOf : Nat → Int32) (m_parent : Nat → Int32) (m_from : Nat → Int32) (m_to : Nat → Int32) (m_cost : Nat → Int32)  (s0 : Int32) (m_thrown : Int32) : Option (Int32 × (Int32)) :=
  some (s0, m_thrown)
noncomputable def f_X6_part (a1 : Int32) (a2 : Int32) (m_tree : Int32) (m_parts : Int32) (m_size : Nat → Int32) (m_sign : Nat → Int32) (m_ruleOf : Nat → Int32) (m_symbolOf : Nat → Int32) (m_parent : Nat → Int32) (m_from : Nat → Int32) (m_to : Nat → Int32) (m_cost : Nat → Int32) (m_thrown : Int32) : Option (Int32 × (Int32)) :=
  if m_tree = 0 then (
    jn_X6_part_32 m_tree m_parts m_size m_sign m_ruleOf m_symbolOf m_parent m_from m_to m_cost 0
  ) else (
    (f_X6_below a1 m_parts).bind fun r2 =>
    if r2 = 0 then (
      jn_X6_part_32 m_tree m_parts m_size m_sign m_ruleOf m_symbolOf m_parent m_from m_to m_cost 0
    ) else (
      (f_X6_below a2 7).bind fun r3 =>
      if r3 = 0 then (
        jn_X6_part_32 m_tree m_parts m_size m_sign m_ruleOf m_symbolOf m_parent m_from m_to m_cost 0
      ) else (
        if 3 ≤ a2 then (
          if 6 ≤ a2 then (
            (rd m_ruleOf 150 a1).bind fun v4 =>
            if v4 < 0 then (
              (rd m_to 150 a1).bind fun v5 =>
              (rd m_from 150 a1).bind fun v6 =>
              if v5 = v6 then (
                jn_X6_part_192 m_tree m_parts m_size m_sign m_ruleOf m_symbolOf m_parent m_from m_to m_cost 2 0
              ) else (
                (rd m_to 150 a1).bind fun v7 =>
                (rd m_sign 17 (v7 - 1)).bind fun v8 =>
                (rd m_symbolOf 150 a1).bind fun v9 =>
                if v8 = v9 then (
                  jn_X6_part_192 m_tree m_parts m_size m_sign m_ruleOf m_symbolOf m_parent m_from m_to m_cost 0 0
                ) else (
                  jn_X6_part_192 m_tree m_parts m_size m_sign m_ruleOf m_symbolOf m_parent m_from m_to m_cost 1 0
                )
              )
            ) else (
              (rd m_ruleOf 150 a1).bind fun v10 =>
              (rd m_size 20 v10).bind fun v11 =>
              some (v11, 0)
            )
          ) else (
            if a2 = 3 then (
              (rd m_from 150 a1).bind fun v12 =>
              jn_X6_part_124 m_tree m_parts m_size m_sign m_ruleOf m_symbolOf m_parent m_from m_to m_cost v12 0
            ) else (
              if a2 = 4 then (
                (rd m_to 150 a1).bind fun v13 =>
                (rd m_from 150 a1).bind fun v14 =>
                jn_X6_part_124 m_tree m_parts m_size m_sign m_ruleOf m_symbolOf m_parent m_from m_to m_cost (v13 - v14) 0
              ) else (
                (rd m_cost 150 a1).bind fun v15 =>
                jn_X6_part_124 m_tree m_parts m_size m_sign m_ruleOf m_symbolOf m_parent m_from m_to m_cost v15 0
              )
            )
          )
        ) else (
          if a2 = 0 then (
            (rd m_ruleOf 150 a1).bind fun v16 =>
            jn_X6_part_76 m_tree m_parts m_size m_sign m_ruleOf m_symbolOf m_parent m_from m_to m_cost v16 0
          ) else (
            if a2 = 1 then (
              (rd m_symbolOf 150 a1).bind fun v17 =>
              jn_X6_part_76 m_tree m_parts m_size m_sign m_ruleOf m_symbolOf m_parent m_from m_to m_cost v17 0
            ) else (
              (rd m_parent 150 a1).bind fun v18 =>
              jn_X6_part_76 m_tree m_parts m_size m_sign m_ruleOf m_symbolOf m_parent m_from m_to m_cost v18 0
            )
          )
        )
      )
    )
  )
noncomputable def jn_X6_rest_29 (m_tree : Int32) (m_tokens : Int32) (m_end : Int32)  (s0 : Int32) (m_thrown : Int32) : Option (Int32 × (Int32)) :=
  some (s0, m_thrown)
noncomputable def f_X6_rest (m_tree : Int32) (m_tokens : Int32) (m_end : Int32) (m_thrown : Int32) : Option (Int32 × (Int32)) :=
  if m_tree = 0 then (
    (f_X6_fail 1 0).bind fun r1 =>
    jn_X6_rest_29 m_tree m_tokens m_end r1.1 r1.2
  ) else (
    jn_X6_rest_29 m_tree m_tokens m_end (m_tokens - m_end) 0
  )
noncomputable def jn_X6_character_30 (m_printed : Int32) (m_print : Nat → Int32)  (s0 : Int32) (m_thrown : Int32) : Option (Int32 × (Int32)) :=
  some (s0, m_thrown)
noncomputable def f_X6_character (a1 : Int32) (m_printed : Int32) (m_print : Nat → Int32) (m_thrown : Int32) : Option (Int32 × (Int32)) :=
  (f_X6_below a1 m_printed).bind fun r1 =>
  if r1 = 0 then (
    (f_X6_fail 1 0).bind fun r2 =>
    jn_X6_character_30 m_printed m_print r2.1 r2.2
  ) else (
    (rd m_print 6000 a1).bind fun v3 =>
    jn_X6_character_30 m_printed m_print v3 0
  )
noncomputable def jn_X6_count_41 (m_rules : Int32) (m_repaired : Int32) (m_paid : Int32)  (s0 : Int32) (m_thrown : Int32) : Option (Int32 × (Int32)) :=
  some (s0, m_thrown)
noncomputable def f_X6_count (a1 : Int32) (m_rules : Int32) (m_repaired : Int32) (m_paid : Int32) (m_thrown : Int32) : Option (Int32 × (Int32)) :=
  if a1 = 0 then (
    jn_X6_count_41 m_rules m_repaired m_paid m_rules 0
  ) else (
    if a1 = 1 then (
      jn_X6_count_41 m_rules m_repaired m_paid m_repaired 0
    ) else (
      if a1 = 2 then (
        jn_X6_count_41 m_rules m_repaired m_paid m_paid 0
      ) else (
        jn_X6_count_41 m_rules m_repaired m_paid ((-1)) 0
      )
    )
  )
noncomputable def f_X5_erase (k_length : Int32) : Option (Int32 × (Int32)) :=
  nm k_length fun x1_1 =>
  some (x1_1, 0)
noncomputable def jn_X5_tokens_21 (c_size : Int32) (t_size : Int32)  (s0 : Int32) : Option (Int32) :=
  some s0
noncomputable def f_X5_tokens (c_size : Int32) (t_size : Int32) : Option (Int32) :=
  if t_size ≤ 0 then (
    jn_X5_tokens_21 c_size t_size 0
  ) else (
    jn_X5_tokens_21 c_size t_size c_size
  )
noncomputable def f_X5_parts (t_size : Int32) : Option (Int32) :=
  some t_size
noncomputable def f_X5_grounded (a1 : Int32) (g_ground : Nat → Int32) : Option (Int32) :=
  (f_X2_hasGround a1 g_ground).bind fun r1 =>
  (zc r1).bind fun v2 => some v2
