def jn_X5_isKind_17   (s0 : Int32) : Option (Int32) :=
  (zc s0).bind fun v1 => some v1
def jn_X5_isKind_16    : Option (Int32) :=
  jn_X5_isKind_17  0
def f_X5_isKind (a0 : Int32) : Option (Int32) :=
  if a0 < 9 then (
    jn_X5_isKind_16 
  ) else (
    if 14 < a0 then (
      jn_X5_isKind_16 
    ) else (
      jn_X5_isKind_17  1
    )
  )
def f_X0_spot (a0 : Int32) (a1 : Int32) (a2 : Int32) : Option (Int32) :=
  some (((((a0 - 1) * 17) + a1) * 17) + a2)
def lp_X0_leastInside_19 (h_prices : Nat → Int64) (h_begun : Nat → Int64) (k59 : (Int64) → Option (Int64)) : Nat → (Int32) → (Int32) → (Int64) → (Int32) → (Int32) → Option (Int64)
  | 0, _, _, _, _, _ => none
  | n + 1, x1, x4, x5, x7, x8 =>
    if x4 ≤ x8 then (
      k59 x5
    ) else (
      nm (x7 + Int32.ofInt 17) fun x7_5 =>
      (rd h_begun 2040 (x1 + x8)).bind fun v6 =>
      (rd h_prices 4046 x7_5).bind fun v7 =>
      nm (if (v6 + v7) < x5 then (v6 + v7) else x5) fun v8 =>
      nm v8 fun x5_9 =>
      nm (x8 + Int32.ofInt 1) fun x8_10 =>
      (lp_X0_leastInside_19 h_prices h_begun k59 n) x1 x4 x5_9 x7_5 x8_10
    )
def f_X0_leastInside (a1 : Int32) (a2 : Int32) (a3 : Int32) (a4 : Int32) (h_prices : Nat → Int64) (h_begun : Nat → Int64) : Option (Int64) :=
  nm (1152921504606846976 : Int64) fun x5_1 =>
  (f_X0_spot a2 a3 a4).bind fun r2 =>
  nm r2 fun x7_3 =>
  nm (a3 + 1) fun x8_4 =>
  lp_X0_leastInside_19 h_prices h_begun
    (fun x5 =>
    some x5)
    FU a1 a4 x5_1 x7_3 x8_4
def jn_X2_hasGround_24 (g_ground : Nat → Int32)  (s0 : Int32) : Option (Int32) :=
  (zc s0).bind fun v2 => some v2
def jn_X2_hasGround_23 (g_ground : Nat → Int32)   : Option (Int32) :=
  jn_X2_hasGround_24 g_ground 0
def f_X2_hasGround (a1 : Int32) (g_ground : Nat → Int32) : Option (Int32) :=
  (f_X5_isKind a1).bind fun r1 =>
  if r1 = 0 then (
    jn_X2_hasGround_23 g_ground
  ) else (
    (rd g_ground 6 (a1 - 9)).bind fun v3 =>
    if v3 = 0 then (
      jn_X2_hasGround_23 g_ground
    ) else (
      jn_X2_hasGround_24 g_ground 1
    )
  )
def lp_X1_closing_4 (c_length : Int32) (c_text : Nat → Int32) (k31 : Option (Int32)) : Nat → (Int32) → Option (Int32)
  | 0, _ => none
  | n + 1, x2 =>
    if c_length ≤ x2 then (
      k31
    ) else (
      (rd c_text 80 x2).bind fun v2 =>
      if v2 = 125 then (
        some x2
      ) else (
        nm (x2 + Int32.ofInt 1) fun x2_3 =>
        (lp_X1_closing_4 c_length c_text k31 n) x2_3
      )
    )
def f_X1_closing (a1 : Int32) (c_length : Int32) (c_text : Nat → Int32) : Option (Int32) :=
  nm (a1 + 1) fun x2_1 =>
  lp_X1_closing_4 c_length c_text
    (
    some ((-1)))
    FU x2_1
def f_X4_drop (t_size : Int32) (t_skipped : Int32) : Option ((Int32) × (Int32)) :=
  some (0, 0)
def jn_X3_put_41   (p_size : Int32) (p_column : Int32) (p_sheet : Nat → Int32) : Option ((Int32) × (Int32) × (Nat → Int32)) :=
  some (p_size, p_column, p_sheet)
def f_X3_put (a1 : Int32) (p_size : Int32) (p_column : Int32) (p_sheet : Nat → Int32) : Option ((Int32) × (Int32) × (Nat → Int32)) :=
  if 1300 ≤ p_size then (
    jn_X3_put_41  p_size p_column p_sheet
  ) else (
    (wrI p_sheet 1300 p_size (vp_nar .byte a1.toInt8.toInt32)).bind fun p_sheet_1 =>
    jn_X3_put_41  ((p_size + 1)) ((p_column + 1)) p_sheet_1
  )
