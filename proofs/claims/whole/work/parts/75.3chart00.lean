abbrev rmX0_spot : Room := { frames := 0, cells := 0, slots := 0, locals := 0 }
abbrev xX0_spot : KX := (rmX0_spot, cX0_spot, 3, some .int, RX0, wsX0_spot)
theorem hySX0_spot : yX0_spot.cls ≠ "java/lang/invoke/MethodHandle" ∧ yX0_spot.cls ≠ "java/lang/invoke/VarHandle" ∧ (parseMethodDescriptor yX0_spot.desc).map (fun d => d.parameters.length) = some 3 := by decide +kernel
set_option maxHeartbeats 4000000 in
set_option maxRecDepth 100000 in
/-- KindParser$Chart.spot -/
theorem c_X0_spot {l : Launch} {D : va_G} {cI cB cJ cZ : ClassId} {ad : Nat → Nat} (ws : va_W) (z : Nat)  (E : True)  {a0 : Int32} {a1 : Int32} {a2 : Int32} {o : Int32} (h : f_X0_spot a0 a1 a2 = some o) : Met l yX0_spot wsX0_spot rmX0_spot (kPc D (kT cI cB cJ cZ) [.int a0, .int a1, .int a2] ws z) (kQi D (kT cI cB cJ cZ) o [] ws z) 0 0 (va_A ws z) := by
  refine KW.met (rm := rmX0_spot) (lv := [(0, .int a0), (1, .int a1), (2, .int a2)]) (L := []) rfl (by decide) (Nat.le_of_ble_eq_true rfl) rfl (fun q hq => by cases hq) ?_
  unfold f_X0_spot at h
  show KW l xX0_spot D (kT cI cB cJ cZ) ws z (kQi D (kT cI cB cJ cZ) o [] ws z) 0 [(0, .int a0), (1, .int a1), (2, .int a2)] [] []
  refine k_iload_n dX0_spot_0 0 rfl rfl ?_
  refine k_iconst (v := 1) dX0_spot_1 (by decide) ?_
  refine k_isub dX0_spot_2 ?_
  refine k_bipush (v := 17) dX0_spot_3 (by decide) ?_
  refine k_imul dX0_spot_5 ?_
  refine k_iload_n dX0_spot_6 1 rfl rfl ?_
  refine k_iadd dX0_spot_7 ?_
  refine k_bipush (v := 17) dX0_spot_8 (by decide) ?_
  refine k_imul dX0_spot_10 ?_
  refine k_iload_n dX0_spot_11 2 rfl rfl ?_
  refine k_iadd dX0_spot_12 ?_
  obtain rfl := Option.some.inj h
  exact k_iret rfl dX0_spot_13
abbrev rmX0_choiceSpot : Room := { frames := 0, cells := 0, slots := 0, locals := 0 }
abbrev xX0_choiceSpot : KX := (rmX0_choiceSpot, cX0_choiceSpot, 3, some .int, RX0, wsX0_choiceSpot)
theorem hySX0_choiceSpot : yX0_choiceSpot.cls ≠ "java/lang/invoke/MethodHandle" ∧ yX0_choiceSpot.cls ≠ "java/lang/invoke/VarHandle" ∧ (parseMethodDescriptor yX0_choiceSpot.desc).map (fun d => d.parameters.length) = some 3 := by decide +kernel
set_option maxHeartbeats 4000000 in
set_option maxRecDepth 100000 in
/-- KindParser$Chart.choiceSpot -/
theorem c_X0_choiceSpot {l : Launch} {D : va_G} {cI cB cJ cZ : ClassId} {ad : Nat → Nat} (ws : va_W) (z : Nat)  (E : True)  {a0 : Int32} {a1 : Int32} {a2 : Int32} {o : Int32} (h : f_X0_choiceSpot a0 a1 a2 = some o) : Met l yX0_choiceSpot wsX0_choiceSpot rmX0_choiceSpot (kPc D (kT cI cB cJ cZ) [.int a0, .int a1, .int a2] ws z) (kQi D (kT cI cB cJ cZ) o [] ws z) 0 0 (va_A ws z) := by
  refine KW.met (rm := rmX0_choiceSpot) (lv := [(0, .int a0), (1, .int a1), (2, .int a2)]) (L := []) rfl (by decide) (Nat.le_of_ble_eq_true rfl) rfl (fun q hq => by cases hq) ?_
  unfold f_X0_choiceSpot at h
  show KW l xX0_choiceSpot D (kT cI cB cJ cZ) ws z (kQi D (kT cI cB cJ cZ) o [] ws z) 0 [(0, .int a0), (1, .int a1), (2, .int a2)] [] []
  refine k_iload_n dX0_choiceSpot_0 0 rfl rfl ?_
  refine k_bipush (v := 9) dX0_choiceSpot_1 (by decide) ?_
  refine k_isub dX0_choiceSpot_3 ?_
  refine k_bipush (v := 17) dX0_choiceSpot_4 (by decide) ?_
  refine k_imul dX0_choiceSpot_6 ?_
  refine k_iload_n dX0_choiceSpot_7 1 rfl rfl ?_
  refine k_iadd dX0_choiceSpot_8 ?_
  refine k_bipush (v := 17) dX0_choiceSpot_9 (by decide) ?_
  refine k_imul dX0_choiceSpot_11 ?_
  refine k_iload_n dX0_choiceSpot_12 2 rfl rfl ?_
  refine k_iadd dX0_choiceSpot_13 ?_
  obtain rfl := Option.some.inj h
  exact k_iret rfl dX0_choiceSpot_14
abbrev rmX0_begunRow : Room := { frames := 0, cells := 0, slots := 0, locals := 0 }
abbrev xX0_begunRow : KX := (rmX0_begunRow, cX0_begunRow, 2, some .int, RX0, wsX0_begunRow)
theorem hySX0_begunRow : yX0_begunRow.cls ≠ "java/lang/invoke/MethodHandle" ∧ yX0_begunRow.cls ≠ "java/lang/invoke/VarHandle" ∧ (parseMethodDescriptor yX0_begunRow.desc).map (fun d => d.parameters.length) = some 2 := by decide +kernel
set_option maxHeartbeats 4000000 in
set_option maxRecDepth 100000 in
/-- KindParser$Chart.begunRow -/
theorem c_X0_begunRow {l : Launch} {D : va_G} {cI cB cJ cZ : ClassId} {ad : Nat → Nat} (ws : va_W) (z : Nat)  (E : True)  {a0 : Int32} {a1 : Int32} {o : Int32} (h : f_X0_begunRow a0 a1 = some o) : Met l yX0_begunRow wsX0_begunRow rmX0_begunRow (kPc D (kT cI cB cJ cZ) [.int a0, .int a1] ws z) (kQi D (kT cI cB cJ cZ) o [] ws z) 0 0 (va_A ws z) := by
  refine KW.met (rm := rmX0_begunRow) (lv := [(0, .int a0), (1, .int a1)]) (L := []) rfl (by decide) (Nat.le_of_ble_eq_true rfl) rfl (fun q hq => by cases hq) ?_
  unfold f_X0_begunRow at h
  show KW l xX0_begunRow D (kT cI cB cJ cZ) ws z (kQi D (kT cI cB cJ cZ) o [] ws z) 0 [(0, .int a0), (1, .int a1)] [] []
  refine k_iload_n dX0_begunRow_0 0 rfl rfl ?_
  refine k_bipush (v := 6) dX0_begunRow_1 (by decide) ?_
  refine k_imul dX0_begunRow_3 ?_
  refine k_iload_n dX0_begunRow_4 1 rfl rfl ?_
  refine k_iadd dX0_begunRow_5 ?_
  refine k_bipush (v := 17) dX0_begunRow_6 (by decide) ?_
  refine k_imul dX0_begunRow_8 ?_
  obtain rfl := Option.some.inj h
  exact k_iret rfl dX0_begunRow_9
abbrev rmX0_priceLeaves : Room := { frames := 1, cells := 0, slots := 0, locals := 22 }
abbrev xX0_priceLeaves : KX := (rmX0_priceLeaves, cX0_priceLeaves, 6, none, RX0, wsX0_priceLeaves)
theorem hySX0_priceLeaves : yX0_priceLeaves.cls ≠ "java/lang/invoke/MethodHandle" ∧ yX0_priceLeaves.cls ≠ "java/lang/invoke/VarHandle" ∧ (parseMethodDescriptor yX0_priceLeaves.desc).map (fun d => d.parameters.length) = some 0 := by decide +kernel
theorem hyVX0_priceLeaves : yX0_priceLeaves.cls = RX0 ∧ yX0_priceLeaves.cls ≠ "java/lang/invoke/MethodHandle" ∧ yX0_priceLeaves.cls ≠ "java/lang/invoke/VarHandle" ∧ (parseMethodDescriptor yX0_priceLeaves.desc).map (fun d => d.parameters.length) = some 0 := ⟨rfl, hySX0_priceLeaves⟩
theorem qX0_priceLeaves_wX0 : ∀ w ∈ u_ws RX0 TX0 6, w ∈ wsX0_priceLeaves := by decide +kernel
theorem qX0_priceLeaves_f29 : Cond.fieldLink RX0 29 "KindParser$Chart" "cut" "LKindParser$Cut;" ∈ wsX0_priceLeaves := by decide +kernel
theorem qX0_priceLeaves_wX1 : ∀ w ∈ u_ws RX1 TX1 10, w ∈ wsX0_priceLeaves := by decide +kernel
theorem qX0_priceLeaves_f11 : Cond.fieldLink RX0 11 "KindParser$Chart" "prices" "[J" ∈ wsX0_priceLeaves := by decide +kernel
theorem qX0_priceLeaves_k59 : Cond.constantLong RX0 59 4294967296 ∈ wsX0_priceLeaves := by decide +kernel
set_option maxHeartbeats 4000000 in
set_option maxRecDepth 100000 in
theorem wjn_X0_priceLeaves_74 {l : Launch} {D : va_G} {cI cB cJ cZ : ClassId} {ad : Nat → Nat} {ws : va_W} {z : Nat} {c_length : Int32} {c_size : Int32} {c_comments : Int32} {c_signs : Nat → Int32} (E : ws[9]? = some (ad 9, .inr (1, [.ref (ad 10), .int c_length, .ref (ad 11), .ref (ad 12), .ref (ad 13), .ref (ad 14), .ref (ad 15), .ref (ad 16), .int c_size, .int c_comments])) ∧ ws[13]? = some (ad 13, .inl (cI, 16, .inl c_signs)) ∧ ws[17]? = some (ad 17, .inr (0, [.ref (ad 1), .ref (ad 9), .ref (ad 18), .ref (ad 19), .ref (ad 20), .ref (ad 21)]))) {o : (Nat → Int64)} {k39 : (Int32) → (Int32) → (Int32) → (Nat → Int64) → Option ((Nat → Int64))} (hk39 : ∀ (x1 : Int32) (x2 : Int32) (x3 : Int32) (h_prices : Nat → Int64), k39 x1 x2 x3 h_prices = some o → KW l xX0_priceLeaves D (kT cI cB cJ cZ) ws z (kQv D (kT cI cB cJ cZ) [(18, (ad 18, .inl (cJ, 4046, .inr (.inl o))))] ws z) 39 [(0, .ref (ad 17)), (1, .int x1), (2, .int x2), (3, .int x3)] [] [(18, (ad 18, .inl (cJ, 4046, .inr (.inl h_prices))))]) : ∀ (x1 : Int32) (x2 : Int32) (x3 : Int32) (s0 : Int32) (s1 : Int32) (h_prices : Nat → Int64), jn_X0_priceLeaves_74 c_size c_signs k39 x1 x2 x3 s0 s1 h_prices = some o → KW l xX0_priceLeaves D (kT cI cB cJ cZ) ws z (kQv D (kT cI cB cJ cZ) [(18, (ad 18, .inl (cJ, 4046, .inr (.inl o))))] ws z) 74 [(0, .ref (ad 17)), (1, .int x1), (2, .int x2), (3, .int x3)] [.int s1, .int s0] [(18, (ad 18, .inl (cJ, 4046, .inr (.inl h_prices))))] := by
  intro x1 x2 x3 s0 s1 h_prices h
  unfold jn_X0_priceLeaves_74 at h
  refine k_iadd dX0_priceLeaves_74 ?_
  refine k_i2l dX0_priceLeaves_75 ?_
  refine k_lstore (i := 4) (lv' := fun x => [(4, .long x), (0, .ref (ad 17)), (1, .int x1), (2, .int x2), (3, .int x3)]) dX0_priceLeaves_76 (Nat.le_of_ble_eq_true rfl) (fun _ => rfl) h (fun x4_7 h => ?_)
  refine k_aload_n dX0_priceLeaves_78 1 rfl rfl ?_
  refine k_get 17 2 E.2.2 rfl qX0_priceLeaves_wX0 (by decide) qX0_priceLeaves_f11 rfl dX0_priceLeaves_79 ?_
  refine k_iload_n dX0_priceLeaves_82 2 rfl rfl ?_
  refine k_iload_n dX0_priceLeaves_83 3 rfl rfl ?_
  refine k_iload_n dX0_priceLeaves_84 4 rfl rfl ?_
  obtain ⟨r8, hr8, h⟩ := Option.bind_eq_some_iff.mp h
  refine k_calliS (As := [.int x1, .int x2, .int x3]) (st := [.ref (ad 18)]) (Lc := []) (L' := [(18, (ad 18, .inl (cJ, 4046, .inr (.inl h_prices))))]) (r := r8) gX0_priceLeaves_X0_spot rfl rfl rfl hySX0_spot ⟨Nat.le_of_ble_eq_true rfl, Nat.le_of_ble_eq_true rfl⟩ rfl rfl (Nat.le_of_ble_eq_true rfl) dX0_priceLeaves_85 (fun w z hw => c_X0_spot (cI := cI) (cB := cB) (cJ := cJ) (cZ := cZ) (ad := ad) w z trivial  hr8) rfl rfl ?_
  refine k_lload dX0_priceLeaves_88 0 rfl ?_
  refine k_bipush (v := 32) dX0_priceLeaves_90 (by decide) ?_
  refine k_lshl dX0_priceLeaves_92 ?_
  refine k_last (L' := fun f => [(18, (ad 18, .inl (cJ, 4046, .inr (.inl f))))]) 18 2 rfl rfl rfl dX0_priceLeaves_93 h (fun _ => rfl) (fun h_prices_9 h => ?_)
  refine k_iinc (i := 3) (lv' := fun x => [(3, .int x), (4, .long x4_7), (0, .ref (ad 17)), (1, .int x1), (2, .int x2)]) dX0_priceLeaves_94 4 rfl (Nat.le_of_ble_eq_true rfl) (fun _ => rfl) h (fun x3_10 h => ?_)
  refine k_goto 39 dX0_priceLeaves_97 (by decide) ?_
  refine k_sub [2, 3, 4, 0] rfl ?_
  exact hk39 _ _ _ _ h
set_option maxHeartbeats 4000000 in
set_option maxRecDepth 100000 in
theorem wlp_X0_priceLeaves_39 {l : Launch} {D : va_G} {cI cB cJ cZ : ClassId} {ad : Nat → Nat} {ws : va_W} {z : Nat} {c_length : Int32} {c_size : Int32} {c_comments : Int32} {c_signs : Nat → Int32} (E : ws[9]? = some (ad 9, .inr (1, [.ref (ad 10), .int c_length, .ref (ad 11), .ref (ad 12), .ref (ad 13), .ref (ad 14), .ref (ad 15), .ref (ad 16), .int c_size, .int c_comments])) ∧ ws[13]? = some (ad 13, .inl (cI, 16, .inl c_signs)) ∧ ws[17]? = some (ad 17, .inr (0, [.ref (ad 1), .ref (ad 9), .ref (ad 18), .ref (ad 19), .ref (ad 20), .ref (ad 21)]))) {o : (Nat → Int64)} {k100 : (Int32) → (Int32) → (Nat → Int64) → Option ((Nat → Int64))} (hk100 : ∀ (x1 : Int32) (x2 : Int32) (h_prices : Nat → Int64), k100 x1 x2 h_prices = some o → KW l xX0_priceLeaves D (kT cI cB cJ cZ) ws z (kQv D (kT cI cB cJ cZ) [(18, (ad 18, .inl (cJ, 4046, .inr (.inl o))))] ws z) 100 [(0, .ref (ad 17)), (1, .int x1), (2, .int x2)] [] [(18, (ad 18, .inl (cJ, 4046, .inr (.inl h_prices))))]) : ∀ (n : Nat) (x1 : Int32) (x2 : Int32) (x3 : Int32) (h_prices : Nat → Int64), lp_X0_priceLeaves_39 c_size c_signs k100 n x1 x2 x3 h_prices = some o → KW l xX0_priceLeaves D (kT cI cB cJ cZ) ws z (kQv D (kT cI cB cJ cZ) [(18, (ad 18, .inl (cJ, 4046, .inr (.inl o))))] ws z) 39 [(0, .ref (ad 17)), (1, .int x1), (2, .int x2), (3, .int x3)] [] [(18, (ad 18, .inl (cJ, 4046, .inr (.inl h_prices))))] := by
  intro n
  induction n with
  | zero => intro x1 x2 x3 h_prices h; exact absurd h (by simp [lp_X0_priceLeaves_39])
  | succ n hk39 =>
    intro x1 x2 x3 h_prices h
    unfold lp_X0_priceLeaves_39 at h
    refine k_iload_n dX0_priceLeaves_39 3 rfl rfl ?_
    refine k_aload_n dX0_priceLeaves_40 0 rfl rfl ?_
    refine k_get 17 1 E.2.2 rfl qX0_priceLeaves_wX0 (by decide) qX0_priceLeaves_f29 rfl dX0_priceLeaves_41 ?_
    refine k_getN 9 8 E.1 rfl qX0_priceLeaves_wX1 (by decide) (host := "KindParser") (by decide +kernel) rfl dX0_priceLeaves_44 ?_
    refine k_icmp_gt 100 dX0_priceLeaves_47 (by decide) h (fun h => ?_) (fun h => ?_)
    · skip
      refine k_sub [0, 1, 2] rfl ?_
      exact hk100 _ _ _ h
    · skip
      refine k_iload_n dX0_priceLeaves_50 3 rfl rfl ?_
      refine k_iload_n dX0_priceLeaves_51 2 rfl rfl ?_
      refine k_isub dX0_priceLeaves_52 ?_
      refine k_iconst (v := 1) dX0_priceLeaves_53 (by decide) ?_
      refine k_isub dX0_priceLeaves_54 ?_
      refine k_aload_n dX0_priceLeaves_55 0 rfl rfl ?_
      refine k_get 17 1 E.2.2 rfl qX0_priceLeaves_wX0 (by decide) qX0_priceLeaves_f29 rfl dX0_priceLeaves_56 ?_
      refine k_iload_n dX0_priceLeaves_59 3 rfl rfl ?_
      refine k_iconst (v := 1) dX0_priceLeaves_60 (by decide) ?_
      refine k_isub dX0_priceLeaves_61 ?_
      obtain ⟨r6, hr6, h⟩ := Option.bind_eq_some_iff.mp h
      refine k_calliV (As := [.int (x3 - 1)]) (st := [.int ((x3 - x2) - 1)]) (Lc := []) (L' := [(18, (ad 18, .inl (cJ, 4046, .inr (.inl h_prices))))]) (r := r6) gX0_priceLeaves_X1_signOf rfl rfl rfl hyVX1_signOf ⟨Nat.le_of_ble_eq_true rfl, Nat.le_of_ble_eq_true rfl⟩ rfl rfl (Nat.le_of_ble_eq_true rfl) 9 E.1 rfl dX0_priceLeaves_62 (fun w z hw => c_X1_signOf (cI := cI) (cB := cB) (cJ := cJ) (cZ := cZ) (ad := ad) w z ⟨((hw 9).trans E.1), ((hw 13).trans E.2.1)⟩  hr6) rfl rfl ?_
      refine k_iload_n dX0_priceLeaves_65 1 rfl rfl ?_
      refine k_icmp_ne 73 dX0_priceLeaves_66 (by decide) h (fun h => ?_) (fun h => ?_)
      · skip
        refine k_iconst (v := 0) dX0_priceLeaves_69 (by decide) ?_
        refine k_goto 74 dX0_priceLeaves_70 (by decide) ?_
        refine k_sub [0, 1, 2, 3] rfl ?_
        exact wjn_X0_priceLeaves_74 (cI := cI) (cB := cB) (cJ := cJ) (cZ := cZ) (ad := ad) E hk39 _ _ _ _ _ _ h
      · skip
        refine k_iconst (v := 1) dX0_priceLeaves_73 (by decide) ?_
        refine k_sub [0, 1, 2, 3] rfl ?_
        exact wjn_X0_priceLeaves_74 (cI := cI) (cB := cB) (cJ := cJ) (cZ := cZ) (ad := ad) E hk39 _ _ _ _ _ _ h
set_option maxHeartbeats 4000000 in
set_option maxRecDepth 100000 in
theorem wlp_X0_priceLeaves_10 {l : Launch} {D : va_G} {cI cB cJ cZ : ClassId} {ad : Nat → Nat} {ws : va_W} {z : Nat} {c_length : Int32} {c_size : Int32} {c_comments : Int32} {c_signs : Nat → Int32} (E : ws[9]? = some (ad 9, .inr (1, [.ref (ad 10), .int c_length, .ref (ad 11), .ref (ad 12), .ref (ad 13), .ref (ad 14), .ref (ad 15), .ref (ad 16), .int c_size, .int c_comments])) ∧ ws[13]? = some (ad 13, .inl (cI, 16, .inl c_signs)) ∧ ws[17]? = some (ad 17, .inr (0, [.ref (ad 1), .ref (ad 9), .ref (ad 18), .ref (ad 19), .ref (ad 20), .ref (ad 21)]))) {o : (Nat → Int64)} {k106 : (Int32) → (Nat → Int64) → Option ((Nat → Int64))} (hk106 : ∀ (x1 : Int32) (h_prices : Nat → Int64), k106 x1 h_prices = some o → KW l xX0_priceLeaves D (kT cI cB cJ cZ) ws z (kQv D (kT cI cB cJ cZ) [(18, (ad 18, .inl (cJ, 4046, .inr (.inl o))))] ws z) 106 [(0, .ref (ad 17)), (1, .int x1)] [] [(18, (ad 18, .inl (cJ, 4046, .inr (.inl h_prices))))]) : ∀ (n : Nat) (x1 : Int32) (x2 : Int32) (h_prices : Nat → Int64), lp_X0_priceLeaves_10 c_size c_signs k106 n x1 x2 h_prices = some o → KW l xX0_priceLeaves D (kT cI cB cJ cZ) ws z (kQv D (kT cI cB cJ cZ) [(18, (ad 18, .inl (cJ, 4046, .inr (.inl o))))] ws z) 10 [(0, .ref (ad 17)), (1, .int x1), (2, .int x2)] [] [(18, (ad 18, .inl (cJ, 4046, .inr (.inl h_prices))))] := by
  intro n
  induction n with
  | zero => intro x1 x2 h_prices h; exact absurd h (by simp [lp_X0_priceLeaves_10])
  | succ n hk10 =>
    intro x1 x2 h_prices h
    unfold lp_X0_priceLeaves_10 at h
    refine k_iload_n dX0_priceLeaves_10 2 rfl rfl ?_
    refine k_aload_n dX0_priceLeaves_11 0 rfl rfl ?_
    refine k_get 17 1 E.2.2 rfl qX0_priceLeaves_wX0 (by decide) qX0_priceLeaves_f29 rfl dX0_priceLeaves_12 ?_
    refine k_getN 9 8 E.1 rfl qX0_priceLeaves_wX1 (by decide) (host := "KindParser") (by decide +kernel) rfl dX0_priceLeaves_15 ?_
    refine k_icmp_gt 106 dX0_priceLeaves_18 (by decide) h (fun h => ?_) (fun h => ?_)
    · skip
      refine k_sub [0, 1] rfl ?_
      exact hk106 _ _ h
    · skip
      refine k_aload_n dX0_priceLeaves_21 0 rfl rfl ?_
      refine k_get 17 2 E.2.2 rfl qX0_priceLeaves_wX0 (by decide) qX0_priceLeaves_f11 rfl dX0_priceLeaves_22 ?_
      refine k_iload_n dX0_priceLeaves_25 1 rfl rfl ?_
      refine k_iload_n dX0_priceLeaves_26 2 rfl rfl ?_
      refine k_iload_n dX0_priceLeaves_27 2 rfl rfl ?_
      obtain ⟨r3, hr3, h⟩ := Option.bind_eq_some_iff.mp h
      refine k_calliS (As := [.int x1, .int x2, .int x2]) (st := [.ref (ad 18)]) (Lc := []) (L' := [(18, (ad 18, .inl (cJ, 4046, .inr (.inl h_prices))))]) (r := r3) gX0_priceLeaves_X0_spot rfl rfl rfl hySX0_spot ⟨Nat.le_of_ble_eq_true rfl, Nat.le_of_ble_eq_true rfl⟩ rfl rfl (Nat.le_of_ble_eq_true rfl) dX0_priceLeaves_28 (fun w z hw => c_X0_spot (cI := cI) (cB := cB) (cJ := cJ) (cZ := cZ) (ad := ad) w z trivial  hr3) rfl rfl ?_
      refine k_ldc2 (v := 4294967296) dX0_priceLeaves_31 qX0_priceLeaves_k59 ?_
      refine k_last (L' := fun f => [(18, (ad 18, .inl (cJ, 4046, .inr (.inl f))))]) 18 2 rfl rfl rfl dX0_priceLeaves_34 h (fun _ => rfl) (fun h_prices_4 h => ?_)
      refine k_iload_n dX0_priceLeaves_35 2 rfl rfl ?_
      refine k_iconst (v := 1) dX0_priceLeaves_36 (by decide) ?_
      refine k_iadd dX0_priceLeaves_37 ?_
      refine k_istore_n (i := 3) (lv' := fun x => [(3, .int x), (0, .ref (ad 17)), (1, .int x1), (2, .int x2)]) dX0_priceLeaves_38 rfl (Nat.le_of_ble_eq_true rfl) (fun _ => rfl) h (fun x3_5 h => ?_)
      refine k_sub [1, 2, 3, 0] rfl ?_
      refine wlp_X0_priceLeaves_39 (cI := cI) (cB := cB) (cJ := cJ) (cZ := cZ) (ad := ad) E ?_ FU _ _ _ _ h
      · intro x1 x2 h_prices h
        refine k_iinc (i := 2) (lv' := fun x => [(2, .int x), (0, .ref (ad 17)), (1, .int x1)]) dX0_priceLeaves_100 2 rfl (Nat.le_of_ble_eq_true rfl) (fun _ => rfl) h (fun x2_11 h => ?_)
        refine k_goto 10 dX0_priceLeaves_103 (by decide) ?_
        refine k_sub [1, 2, 0] rfl ?_
        exact hk10 _ _ _ h
set_option maxHeartbeats 4000000 in
set_option maxRecDepth 100000 in
theorem wlp_X0_priceLeaves_2 {l : Launch} {D : va_G} {cI cB cJ cZ : ClassId} {ad : Nat → Nat} {ws : va_W} {z : Nat} {c_length : Int32} {c_size : Int32} {c_comments : Int32} {c_signs : Nat → Int32} (E : ws[9]? = some (ad 9, .inr (1, [.ref (ad 10), .int c_length, .ref (ad 11), .ref (ad 12), .ref (ad 13), .ref (ad 14), .ref (ad 15), .ref (ad 16), .int c_size, .int c_comments])) ∧ ws[13]? = some (ad 13, .inl (cI, 16, .inl c_signs)) ∧ ws[17]? = some (ad 17, .inr (0, [.ref (ad 1), .ref (ad 9), .ref (ad 18), .ref (ad 19), .ref (ad 20), .ref (ad 21)]))) {o : (Nat → Int64)} {k112 : (Nat → Int64) → Option ((Nat → Int64))} (hk112 : ∀ (h_prices : Nat → Int64), k112 h_prices = some o → KW l xX0_priceLeaves D (kT cI cB cJ cZ) ws z (kQv D (kT cI cB cJ cZ) [(18, (ad 18, .inl (cJ, 4046, .inr (.inl o))))] ws z) 112 [] [] [(18, (ad 18, .inl (cJ, 4046, .inr (.inl h_prices))))]) : ∀ (n : Nat) (x1 : Int32) (h_prices : Nat → Int64), lp_X0_priceLeaves_2 c_size c_signs k112 n x1 h_prices = some o → KW l xX0_priceLeaves D (kT cI cB cJ cZ) ws z (kQv D (kT cI cB cJ cZ) [(18, (ad 18, .inl (cJ, 4046, .inr (.inl o))))] ws z) 2 [(0, .ref (ad 17)), (1, .int x1)] [] [(18, (ad 18, .inl (cJ, 4046, .inr (.inl h_prices))))] := by
  intro n
  induction n with
  | zero => intro x1 h_prices h; exact absurd h (by simp [lp_X0_priceLeaves_2])
  | succ n hk2 =>
    intro x1 h_prices h
    unfold lp_X0_priceLeaves_2 at h
    refine k_iload_n dX0_priceLeaves_2 1 rfl rfl ?_
    refine k_bipush (v := 8) dX0_priceLeaves_3 (by decide) ?_
    refine k_icmp_gt 112 dX0_priceLeaves_5 (by decide) h (fun h => ?_) (fun h => ?_)
    · skip
      refine k_sub [] rfl ?_
      exact hk112 _ h
    · skip
      refine k_iconst (v := 0) dX0_priceLeaves_8 (by decide) ?_
      refine k_istore_n (i := 2) (lv' := fun x => [(2, .int x), (0, .ref (ad 17)), (1, .int x1)]) dX0_priceLeaves_9 rfl (Nat.le_of_ble_eq_true rfl) (fun _ => rfl) h (fun x2_2 h => ?_)
      refine k_sub [1, 2, 0] rfl ?_
      refine wlp_X0_priceLeaves_10 (cI := cI) (cB := cB) (cJ := cJ) (cZ := cZ) (ad := ad) E ?_ FU _ _ _ h
      · intro x1 h_prices h
        refine k_iinc (i := 1) (lv' := fun x => [(1, .int x), (0, .ref (ad 17))]) dX0_priceLeaves_106 1 rfl (Nat.le_of_ble_eq_true rfl) (fun _ => rfl) h (fun x1_12 h => ?_)
        refine k_goto 2 dX0_priceLeaves_109 (by decide) ?_
        refine k_sub [1, 0] rfl ?_
        exact hk2 _ _ h
set_option maxHeartbeats 4000000 in
set_option maxRecDepth 100000 in
/-- KindParser$Chart.priceLeaves -/
theorem c_X0_priceLeaves {l : Launch} {D : va_G} {cI cB cJ cZ : ClassId} {ad : Nat → Nat} (ws : va_W) (z : Nat) {c_length : Int32} {c_size : Int32} {c_comments : Int32} {c_signs : Nat → Int32} {h_prices : Nat → Int64} (E : ws[9]? = some (ad 9, .inr (1, [.ref (ad 10), .int c_length, .ref (ad 11), .ref (ad 12), .ref (ad 13), .ref (ad 14), .ref (ad 15), .ref (ad 16), .int c_size, .int c_comments])) ∧ ws[13]? = some (ad 13, .inl (cI, 16, .inl c_signs)) ∧ ws[17]? = some (ad 17, .inr (0, [.ref (ad 1), .ref (ad 9), .ref (ad 18), .ref (ad 19), .ref (ad 20), .ref (ad 21)]))) (e18 : ws[18]? = some (ad 18, .inl (cJ, 4046, .inr (.inl h_prices))))  {o : (Nat → Int64)} (h : f_X0_priceLeaves c_size c_signs h_prices = some o) : Met l yX0_priceLeaves wsX0_priceLeaves rmX0_priceLeaves (kPc D (kT cI cB cJ cZ) [.ref (ad 17)] ws z) (kQv D (kT cI cB cJ cZ) [(18, (ad 18, .inl (cJ, 4046, .inr (.inl o))))] ws z) 0 0 (va_A ws z) := by
  refine KW.met (rm := rmX0_priceLeaves) (lv := [(0, .ref (ad 17))]) (L := [(18, (ad 18, .inl (cJ, 4046, .inr (.inl h_prices))))]) rfl (by decide) (Nat.le_of_ble_eq_true rfl) rfl (by intro q hq; simp only [List.mem_cons, List.not_mem_nil, or_false] at hq; rcases hq with rfl <;> assumption) ?_
  unfold f_X0_priceLeaves at h
  show KW l xX0_priceLeaves D (kT cI cB cJ cZ) ws z (kQv D (kT cI cB cJ cZ) [(18, (ad 18, .inl (cJ, 4046, .inr (.inl o))))] ws z) 0 [(0, .ref (ad 17))] [] [(18, (ad 18, .inl (cJ, 4046, .inr (.inl h_prices))))]
  refine k_iconst (v := 1) dX0_priceLeaves_0 (by decide) ?_
  refine k_istore_n (i := 1) (lv' := fun x => [(1, .int x), (0, .ref (ad 17))]) dX0_priceLeaves_1 rfl (Nat.le_of_ble_eq_true rfl) (fun _ => rfl) h (fun x1_1 h => ?_)
  refine k_sub [1, 0] rfl ?_
  refine wlp_X0_priceLeaves_2 (cI := cI) (cB := cB) (cJ := cJ) (cZ := cZ) (ad := ad) E ?_ FU _ _ h
  · intro h_prices h
    obtain rfl := Option.some.inj h
    exact k_vret rfl dX0_priceLeaves_112
abbrev rmX0_forget : Room := { frames := 1, cells := 0, slots := 0, locals := 22 }
abbrev xX0_forget : KX := (rmX0_forget, cX0_forget, 4, none, RX0, wsX0_forget)
theorem hySX0_forget : yX0_forget.cls ≠ "java/lang/invoke/MethodHandle" ∧ yX0_forget.cls ≠ "java/lang/invoke/VarHandle" ∧ (parseMethodDescriptor yX0_forget.desc).map (fun d => d.parameters.length) = some 2 := by decide +kernel
theorem hyVX0_forget : yX0_forget.cls = RX0 ∧ yX0_forget.cls ≠ "java/lang/invoke/MethodHandle" ∧ yX0_forget.cls ≠ "java/lang/invoke/VarHandle" ∧ (parseMethodDescriptor yX0_forget.desc).map (fun d => d.parameters.length) = some 2 := ⟨rfl, hySX0_forget⟩
theorem qX0_forget_wX0 : ∀ w ∈ u_ws RX0 TX0 6, w ∈ wsX0_forget := by decide +kernel
theorem qX0_forget_f11 : Cond.fieldLink RX0 11 "KindParser$Chart" "prices" "[J" ∈ wsX0_forget := by decide +kernel
theorem qX0_forget_k65 : Cond.constantLong RX0 65 1152921504606846976 ∈ wsX0_forget := by decide +kernel
theorem qX0_forget_f15 : Cond.fieldLink RX0 15 "KindParser$Chart" "choices" "[B" ∈ wsX0_forget := by decide +kernel
set_option maxHeartbeats 4000000 in
set_option maxRecDepth 100000 in
theorem wlp_X0_forget_3 {l : Launch} {D : va_G} {cI cB cJ cZ : ClassId} {ad : Nat → Nat} {ws : va_W} {z : Nat}  (E : ws[17]? = some (ad 17, .inr (0, [.ref (ad 1), .ref (ad 9), .ref (ad 18), .ref (ad 19), .ref (ad 20), .ref (ad 21)]))) {o : (Nat → Int64) × (Nat → Int32)} {k41 : (Nat → Int64) → (Nat → Int32) → Option ((Nat → Int64) × (Nat → Int32))} (hk41 : ∀ (h_prices : Nat → Int64) (h_choices : Nat → Int32), k41 h_prices h_choices = some o → KW l xX0_forget D (kT cI cB cJ cZ) ws z (kQv D (kT cI cB cJ cZ) [(18, (ad 18, .inl (cJ, 4046, .inr (.inl o.1)))), (19, (ad 19, .inl (cB, 1734, .inl o.2)))] ws z) 41 [] [] [(18, (ad 18, .inl (cJ, 4046, .inr (.inl h_prices)))), (19, (ad 19, .inl (cB, 1734, .inl h_choices)))]) : ∀ (n : Nat) (x1 : Int32) (x2 : Int32) (x3 : Int32) (h_prices : Nat → Int64) (h_choices : Nat → Int32), lp_X0_forget_3  k41 n x1 x2 x3 h_prices h_choices = some o → KW l xX0_forget D (kT cI cB cJ cZ) ws z (kQv D (kT cI cB cJ cZ) [(18, (ad 18, .inl (cJ, 4046, .inr (.inl o.1)))), (19, (ad 19, .inl (cB, 1734, .inl o.2)))] ws z) 3 [(0, .ref (ad 17)), (1, .int x1), (2, .int x2), (3, .int x3)] [] [(18, (ad 18, .inl (cJ, 4046, .inr (.inl h_prices)))), (19, (ad 19, .inl (cB, 1734, .inl h_choices)))] := by
  intro n
  induction n with
  | zero => intro x1 x2 x3 h_prices h_choices h; exact absurd h (by simp [lp_X0_forget_3])
  | succ n hk3 =>
    intro x1 x2 x3 h_prices h_choices h
    unfold lp_X0_forget_3 at h
    refine k_iload_n dX0_forget_3 3 rfl rfl ?_
    refine k_bipush (v := 14) dX0_forget_4 (by decide) ?_
    refine k_icmp_gt 41 dX0_forget_6 (by decide) h (fun h => ?_) (fun h => ?_)
    · skip
      refine k_sub [] rfl ?_
      exact hk41 _ _ h
    · skip
      refine k_aload_n dX0_forget_9 0 rfl rfl ?_
      refine k_get 17 2 E rfl qX0_forget_wX0 (by decide) qX0_forget_f11 rfl dX0_forget_10 ?_
      refine k_iload_n dX0_forget_13 3 rfl rfl ?_
      refine k_iload_n dX0_forget_14 1 rfl rfl ?_
      refine k_iload_n dX0_forget_15 2 rfl rfl ?_
      obtain ⟨r2, hr2, h⟩ := Option.bind_eq_some_iff.mp h
      refine k_calliS (As := [.int x3, .int x1, .int x2]) (st := [.ref (ad 18)]) (Lc := []) (L' := [(18, (ad 18, .inl (cJ, 4046, .inr (.inl h_prices)))), (19, (ad 19, .inl (cB, 1734, .inl h_choices)))]) (r := r2) gX0_forget_X0_spot rfl rfl rfl hySX0_spot ⟨Nat.le_of_ble_eq_true rfl, Nat.le_of_ble_eq_true rfl⟩ rfl rfl (Nat.le_of_ble_eq_true rfl) dX0_forget_16 (fun w z hw => c_X0_spot (cI := cI) (cB := cB) (cJ := cJ) (cZ := cZ) (ad := ad) w z trivial  hr2) rfl rfl ?_
      refine k_ldc2 (v := 1152921504606846976) dX0_forget_19 qX0_forget_k65 ?_
      refine k_last (L' := fun f => [(18, (ad 18, .inl (cJ, 4046, .inr (.inl f)))), (19, (ad 19, .inl (cB, 1734, .inl h_choices)))]) 18 2 rfl rfl rfl dX0_forget_22 h (fun _ => rfl) (fun h_prices_3 h => ?_)
      refine k_aload_n dX0_forget_23 0 rfl rfl ?_
      refine k_get 17 3 E rfl qX0_forget_wX0 (by decide) qX0_forget_f15 rfl dX0_forget_24 ?_
      refine k_iload_n dX0_forget_27 3 rfl rfl ?_
      refine k_iload_n dX0_forget_28 1 rfl rfl ?_
      refine k_iload_n dX0_forget_29 2 rfl rfl ?_
      obtain ⟨r4, hr4, h⟩ := Option.bind_eq_some_iff.mp h
      refine k_calliS (As := [.int x3, .int x1, .int x2]) (st := [.ref (ad 19)]) (Lc := []) (L' := [(18, (ad 18, .inl (cJ, 4046, .inr (.inl h_prices_3)))), (19, (ad 19, .inl (cB, 1734, .inl h_choices)))]) (r := r4) gX0_forget_X0_choiceSpot rfl rfl rfl hySX0_choiceSpot ⟨Nat.le_of_ble_eq_true rfl, Nat.le_of_ble_eq_true rfl⟩ rfl rfl (Nat.le_of_ble_eq_true rfl) dX0_forget_30 (fun w z hw => c_X0_choiceSpot (cI := cI) (cB := cB) (cJ := cJ) (cZ := cZ) (ad := ad) w z trivial  hr4) rfl rfl ?_
      refine k_iconst (v := (-1)) dX0_forget_33 (by decide) ?_
      refine k_bast (L' := fun f => [(18, (ad 18, .inl (cJ, 4046, .inr (.inl h_prices_3)))), (19, (ad 19, .inl (cB, 1734, .inl f)))]) 19 1 rfl rfl rfl dX0_forget_34 h (fun _ => rfl) (fun h_choices_5 h => ?_)
      refine k_iinc (i := 3) (lv' := fun x => [(3, .int x), (0, .ref (ad 17)), (1, .int x1), (2, .int x2)]) dX0_forget_35 3 rfl (Nat.le_of_ble_eq_true rfl) (fun _ => rfl) h (fun x3_6 h => ?_)
      refine k_goto 3 dX0_forget_38 (by decide) ?_
      refine k_sub [1, 2, 3, 0] rfl ?_
      exact hk3 _ _ _ _ _ h
set_option maxHeartbeats 4000000 in
set_option maxRecDepth 100000 in
/-- KindParser$Chart.forget -/
theorem c_X0_forget {l : Launch} {D : va_G} {cI cB cJ cZ : ClassId} {ad : Nat → Nat} (ws : va_W) (z : Nat) {h_prices : Nat → Int64} {h_choices : Nat → Int32} (E : ws[17]? = some (ad 17, .inr (0, [.ref (ad 1), .ref (ad 9), .ref (ad 18), .ref (ad 19), .ref (ad 20), .ref (ad 21)]))) (e18 : ws[18]? = some (ad 18, .inl (cJ, 4046, .inr (.inl h_prices)))) (e19 : ws[19]? = some (ad 19, .inl (cB, 1734, .inl h_choices))) {a1 : Int32} {a2 : Int32} {o : (Nat → Int64) × (Nat → Int32)} (h : f_X0_forget a1 a2 h_prices h_choices = some o) : Met l yX0_forget wsX0_forget rmX0_forget (kPc D (kT cI cB cJ cZ) [.ref (ad 17), .int a1, .int a2] ws z) (kQv D (kT cI cB cJ cZ) [(18, (ad 18, .inl (cJ, 4046, .inr (.inl o.1)))), (19, (ad 19, .inl (cB, 1734, .inl o.2)))] ws z) 0 0 (va_A ws z) := by
  refine KW.met (rm := rmX0_forget) (lv := [(0, .ref (ad 17)), (1, .int a1), (2, .int a2)]) (L := [(18, (ad 18, .inl (cJ, 4046, .inr (.inl h_prices)))), (19, (ad 19, .inl (cB, 1734, .inl h_choices)))]) rfl (by decide) (Nat.le_of_ble_eq_true rfl) rfl (by intro q hq; simp only [List.mem_cons, List.not_mem_nil, or_false] at hq; rcases hq with rfl | rfl <;> assumption) ?_
  unfold f_X0_forget at h
  show KW l xX0_forget D (kT cI cB cJ cZ) ws z (kQv D (kT cI cB cJ cZ) [(18, (ad 18, .inl (cJ, 4046, .inr (.inl o.1)))), (19, (ad 19, .inl (cB, 1734, .inl o.2)))] ws z) 0 [(0, .ref (ad 17)), (1, .int a1), (2, .int a2)] [] [(18, (ad 18, .inl (cJ, 4046, .inr (.inl h_prices)))), (19, (ad 19, .inl (cB, 1734, .inl h_choices)))]
  refine k_bipush (v := 9) dX0_forget_0 (by decide) ?_
  refine k_istore_n (i := 3) (lv' := fun x => [(3, .int x), (0, .ref (ad 17)), (1, .int a1), (2, .int a2)]) dX0_forget_2 rfl (Nat.le_of_ble_eq_true rfl) (fun _ => rfl) h (fun x3_1 h => ?_)
  refine k_sub [1, 2, 3, 0] rfl ?_
  refine wlp_X0_forget_3 (cI := cI) (cB := cB) (cJ := cJ) (cZ := cZ) (ad := ad) E ?_ FU _ _ _ _ _ h
  · intro h_prices h_choices h
    obtain rfl := Option.some.inj h
    exact k_vret rfl dX0_forget_41
abbrev rmX0_leastInside : Room := { frames := 1, cells := 0, slots := 0, locals := 23 }
abbrev xX0_leastInside : KX := (rmX0_leastInside, cX0_leastInside, 9, some .long, RX0, wsX0_leastInside)
theorem hySX0_leastInside : yX0_leastInside.cls ≠ "java/lang/invoke/MethodHandle" ∧ yX0_leastInside.cls ≠ "java/lang/invoke/VarHandle" ∧ (parseMethodDescriptor yX0_leastInside.desc).map (fun d => d.parameters.length) = some 4 := by decide +kernel
theorem hyVX0_leastInside : yX0_leastInside.cls = RX0 ∧ yX0_leastInside.cls ≠ "java/lang/invoke/MethodHandle" ∧ yX0_leastInside.cls ≠ "java/lang/invoke/VarHandle" ∧ (parseMethodDescriptor yX0_leastInside.desc).map (fun d => d.parameters.length) = some 4 := ⟨rfl, hySX0_leastInside⟩
theorem qX0_leastInside_k65 : Cond.constantLong RX0 65 1152921504606846976 ∈ wsX0_leastInside := by decide +kernel
theorem qX0_leastInside_wX0 : ∀ w ∈ u_ws RX0 TX0 6, w ∈ wsX0_leastInside := by decide +kernel
theorem qX0_leastInside_f19 : Cond.fieldLink RX0 19 "KindParser$Chart" "begun" "[J" ∈ wsX0_leastInside := by decide +kernel
theorem qX0_leastInside_f11 : Cond.fieldLink RX0 11 "KindParser$Chart" "prices" "[J" ∈ wsX0_leastInside := by decide +kernel
theorem qX0_leastInside_m88 : Cond.methodLink RX0 88 Lib.MathLoose.min_long.x ∈ wsX0_leastInside := by decide +kernel
theorem qX0_leastInside_ms88 : Cond.static Lib.MathLoose.min_long.x ∈ wsX0_leastInside := by decide +kernel
theorem qX0_leastInside_iMath : Cond.initialized "java/lang/Math" ∈ wsX0_leastInside := by decide +kernel
theorem qX0_leastInside_mc88 : Cond.code Lib.MathLoose.min_long.x Lib.MathLoose.min_long.code 4 (some .long) ∈ wsX0_leastInside := by decide +kernel
set_option maxHeartbeats 4000000 in
set_option maxRecDepth 100000 in
theorem wlp_X0_leastInside_19 {l : Launch} {D : va_G} {cI cB cJ cZ : ClassId} {ad : Nat → Nat} {ws : va_W} {z : Nat} {h_prices : Nat → Int64} {h_begun : Nat → Int64} (E : ws[17]? = some (ad 17, .inr (0, [.ref (ad 1), .ref (ad 9), .ref (ad 18), .ref (ad 19), .ref (ad 20), .ref (ad 21)])) ∧ ws[18]? = some (ad 18, .inl (cJ, 4046, .inr (.inl h_prices))) ∧ ws[20]? = some (ad 20, .inl (cJ, 2040, .inr (.inl h_begun)))) {o : Int64} {k59 : (Int64) → Option (Int64)} (hk59 : ∀ (x5 : Int64), k59 x5 = some o → KW l xX0_leastInside D (kT cI cB cJ cZ) ws z (kQl D (kT cI cB cJ cZ) o [] ws z) 59 [(5, .long x5)] [] []) : ∀ (n : Nat) (x1 : Int32) (x4 : Int32) (x5 : Int64) (x7 : Int32) (x8 : Int32), lp_X0_leastInside_19 h_prices h_begun k59 n x1 x4 x5 x7 x8 = some o → KW l xX0_leastInside D (kT cI cB cJ cZ) ws z (kQl D (kT cI cB cJ cZ) o [] ws z) 19 [(0, .ref (ad 17)), (1, .int x1), (4, .int x4), (5, .long x5), (7, .int x7), (8, .int x8)] [] [] := by
  intro n
  induction n with
  | zero => intro x1 x4 x5 x7 x8 h; exact absurd h (by simp [lp_X0_leastInside_19])
  | succ n hk19 =>
    intro x1 x4 x5 x7 x8 h
    unfold lp_X0_leastInside_19 at h
    refine k_iload dX0_leastInside_19 5 rfl ?_
    refine k_iload dX0_leastInside_21 2 rfl ?_
    refine k_icmp_ge 59 dX0_leastInside_23 (by decide) h (fun h => ?_) (fun h => ?_)
    · skip
      refine k_sub [3] rfl ?_
      exact hk59 _ h
    · skip
      refine k_iinc (i := 7) (lv' := fun x => [(7, .int x), (0, .ref (ad 17)), (1, .int x1), (4, .int x4), (5, .long x5), (8, .int x8)]) dX0_leastInside_26 4 rfl (Nat.le_of_ble_eq_true rfl) (fun _ => rfl) h (fun x7_5 h => ?_)
      refine k_lload dX0_leastInside_29 4 rfl ?_
      refine k_aload_n dX0_leastInside_31 1 rfl rfl ?_
      refine k_get 17 4 E.1 rfl qX0_leastInside_wX0 (by decide) qX0_leastInside_f19 rfl dX0_leastInside_32 ?_
      refine k_iload_n dX0_leastInside_35 2 rfl rfl ?_
      refine k_iload dX0_leastInside_36 5 rfl ?_
      refine k_iadd dX0_leastInside_38 ?_
      refine k_lald 20 2 E.2.2 rfl dX0_leastInside_39 h (fun v6 h => ?_)
      refine k_aload_n dX0_leastInside_40 1 rfl rfl ?_
      refine k_get 17 2 E.1 rfl qX0_leastInside_wX0 (by decide) qX0_leastInside_f11 rfl dX0_leastInside_41 ?_
      refine k_iload dX0_leastInside_44 0 rfl ?_
      refine k_lald 18 2 E.2.1 rfl dX0_leastInside_46 h (fun v7 h => ?_)
      refine k_ladd dX0_leastInside_47 ?_
      refine k_mminL qX0_leastInside_m88 qX0_leastInside_ms88 qX0_leastInside_iMath qX0_leastInside_mc88 (Nat.le_of_ble_eq_true rfl) (Nat.le_of_ble_eq_true rfl) dX0_leastInside_48 ?_
      refine k_topl h (fun v8 h => ?_)
      refine k_lstore (i := 5) (lv' := fun x => [(5, .long x), (7, .int x7_5), (0, .ref (ad 17)), (1, .int x1), (4, .int x4), (8, .int x8)]) dX0_leastInside_51 (Nat.le_of_ble_eq_true rfl) (fun _ => rfl) h (fun x5_9 h => ?_)
      refine k_iinc (i := 8) (lv' := fun x => [(8, .int x), (5, .long x5_9), (7, .int x7_5), (0, .ref (ad 17)), (1, .int x1), (4, .int x4)]) dX0_leastInside_53 5 rfl (Nat.le_of_ble_eq_true rfl) (fun _ => rfl) h (fun x8_10 h => ?_)
      refine k_goto 19 dX0_leastInside_56 (by decide) ?_
      refine k_sub [3, 4, 5, 1, 2, 0] rfl ?_
      exact hk19 _ _ _ _ _ h
set_option maxHeartbeats 4000000 in
set_option maxRecDepth 100000 in
/-- KindParser$Chart.leastInside -/
theorem c_X0_leastInside {l : Launch} {D : va_G} {cI cB cJ cZ : ClassId} {ad : Nat → Nat} (ws : va_W) (z : Nat) {h_prices : Nat → Int64} {h_begun : Nat → Int64} (E : ws[17]? = some (ad 17, .inr (0, [.ref (ad 1), .ref (ad 9), .ref (ad 18), .ref (ad 19), .ref (ad 20), .ref (ad 21)])) ∧ ws[18]? = some (ad 18, .inl (cJ, 4046, .inr (.inl h_prices))) ∧ ws[20]? = some (ad 20, .inl (cJ, 2040, .inr (.inl h_begun))))  {a1 : Int32} {a2 : Int32} {a3 : Int32} {a4 : Int32} {o : Int64} (h : f_X0_leastInside a1 a2 a3 a4 h_prices h_begun = some o) : Met l yX0_leastInside wsX0_leastInside rmX0_leastInside (kPc D (kT cI cB cJ cZ) [.ref (ad 17), .int a1, .int a2, .int a3, .int a4] ws z) (kQl D (kT cI cB cJ cZ) o [] ws z) 0 0 (va_A ws z) := by
  refine KW.met (rm := rmX0_leastInside) (lv := [(0, .ref (ad 17)), (1, .int a1), (2, .int a2), (3, .int a3), (4, .int a4)]) (L := []) rfl (by decide) (Nat.le_of_ble_eq_true rfl) rfl (fun q hq => by cases hq) ?_
  unfold f_X0_leastInside at h
  show KW l xX0_leastInside D (kT cI cB cJ cZ) ws z (kQl D (kT cI cB cJ cZ) o [] ws z) 0 [(0, .ref (ad 17)), (1, .int a1), (2, .int a2), (3, .int a3), (4, .int a4)] [] []
  refine k_ldc2 (v := 1152921504606846976) dX0_leastInside_0 qX0_leastInside_k65 ?_
  refine k_lstore (i := 5) (lv' := fun x => [(5, .long x), (0, .ref (ad 17)), (1, .int a1), (2, .int a2), (3, .int a3), (4, .int a4)]) dX0_leastInside_3 (Nat.le_of_ble_eq_true rfl) (fun _ => rfl) h (fun x5_1 h => ?_)
  refine k_iload_n dX0_leastInside_5 3 rfl rfl ?_
  refine k_iload_n dX0_leastInside_6 4 rfl rfl ?_
  refine k_iload dX0_leastInside_7 5 rfl ?_
  obtain ⟨r2, hr2, h⟩ := Option.bind_eq_some_iff.mp h
  refine k_calliS (As := [.int a2, .int a3, .int a4]) (st := []) (Lc := []) (L' := []) (r := r2) gX0_leastInside_X0_spot rfl rfl rfl hySX0_spot ⟨Nat.le_of_ble_eq_true rfl, Nat.le_of_ble_eq_true rfl⟩ rfl rfl (Nat.le_of_ble_eq_true rfl) dX0_leastInside_9 (fun w z hw => c_X0_spot (cI := cI) (cB := cB) (cJ := cJ) (cZ := cZ) (ad := ad) w z trivial  hr2) rfl rfl ?_
  refine k_istore (i := 7) (lv' := fun x => [(7, .int x), (5, .long x5_1), (0, .ref (ad 17)), (1, .int a1), (2, .int a2), (3, .int a3), (4, .int a4)]) dX0_leastInside_12 (Nat.le_of_ble_eq_true rfl) (fun _ => rfl) h (fun x7_3 h => ?_)
  refine k_iload_n dX0_leastInside_14 5 rfl rfl ?_
  refine k_iconst (v := 1) dX0_leastInside_15 (by decide) ?_
  refine k_iadd dX0_leastInside_16 ?_
  refine k_istore (i := 8) (lv' := fun x => [(8, .int x), (7, .int x7_3), (5, .long x5_1), (0, .ref (ad 17)), (1, .int a1), (2, .int a2), (3, .int a3), (4, .int a4)]) dX0_leastInside_17 (Nat.le_of_ble_eq_true rfl) (fun _ => rfl) h (fun x8_4 h => ?_)
  refine k_sub [3, 4, 7, 2, 1, 0] rfl ?_
  refine wlp_X0_leastInside_19 (cI := cI) (cB := cB) (cJ := cJ) (cZ := cZ) (ad := ad) E ?_ FU _ _ _ _ _ h
  · intro x5 h
    refine k_lload dX0_leastInside_59 0 rfl ?_
    obtain rfl := Option.some.inj h
    exact k_lret rfl dX0_leastInside_61
abbrev rmX0_joinInside : Room := { frames := 2, cells := 0, slots := 0, locals := 51 }
abbrev xX0_joinInside : KX := (rmX0_joinInside, cX0_joinInside, 6, none, RX0, wsX0_joinInside)
theorem hySX0_joinInside : yX0_joinInside.cls ≠ "java/lang/invoke/MethodHandle" ∧ yX0_joinInside.cls ≠ "java/lang/invoke/VarHandle" ∧ (parseMethodDescriptor yX0_joinInside.desc).map (fun d => d.parameters.length) = some 2 := by decide +kernel
theorem hyVX0_joinInside : yX0_joinInside.cls = RX0 ∧ yX0_joinInside.cls ≠ "java/lang/invoke/MethodHandle" ∧ yX0_joinInside.cls ≠ "java/lang/invoke/VarHandle" ∧ (parseMethodDescriptor yX0_joinInside.desc).map (fun d => d.parameters.length) = some 2 := ⟨rfl, hySX0_joinInside⟩
theorem qX0_joinInside_wX0 : ∀ w ∈ u_ws RX0 TX0 6, w ∈ wsX0_joinInside := by decide +kernel
theorem qX0_joinInside_f25 : Cond.fieldLink RX0 25 "KindParser$Chart" "grammar" "LKindParser$Grammar;" ∈ wsX0_joinInside := by decide +kernel
theorem qX0_joinInside_wX2 : ∀ w ∈ u_ws RX2 TX2 7, w ∈ wsX0_joinInside := by decide +kernel
theorem qX0_joinInside_f19 : Cond.fieldLink RX0 19 "KindParser$Chart" "begun" "[J" ∈ wsX0_joinInside := by decide +kernel
theorem qX0_joinInside_k65 : Cond.constantLong RX0 65 1152921504606846976 ∈ wsX0_joinInside := by decide +kernel
set_option maxHeartbeats 4000000 in
set_option maxRecDepth 100000 in
theorem wlp_X0_joinInside_44 {l : Launch} {D : va_G} {cI cB cJ cZ : ClassId} {ad : Nat → Nat} {ws : va_W} {z : Nat} {g_size : Int32} {g_lengths : Nat → Int32} {g_symbols : Nat → Int32} {h_prices : Nat → Int64} (E : ws[1]? = some (ad 1, .inr (2, [.ref (ad 2), .ref (ad 3), .ref (ad 4), .ref (ad 5), .ref (ad 6), .ref (ad 7), .int g_size])) ∧ ws[3]? = some (ad 3, .inl (cI, 20, .inl g_lengths)) ∧ ws[4]? = some (ad 4, .inl (cI, 100, .inl g_symbols)) ∧ ws[17]? = some (ad 17, .inr (0, [.ref (ad 1), .ref (ad 9), .ref (ad 18), .ref (ad 19), .ref (ad 20), .ref (ad 21)])) ∧ ws[18]? = some (ad 18, .inl (cJ, 4046, .inr (.inl h_prices)))) {o : (Nat → Int64)} {k97 : (Int32) → (Int32) → (Int32) → (Nat → Int64) → Option ((Nat → Int64))} (hk97 : ∀ (x1 : Int32) (x2 : Int32) (x3 : Int32) (h_begun : Nat → Int64), k97 x1 x2 x3 h_begun = some o → KW l xX0_joinInside D (kT cI cB cJ cZ) ws z (kQv D (kT cI cB cJ cZ) [(20, (ad 20, .inl (cJ, 2040, .inr (.inl o))))] ws z) 97 [(0, .ref (ad 17)), (1, .int x1), (2, .int x2), (3, .int x3)] [] [(20, (ad 20, .inl (cJ, 2040, .inr (.inl h_begun))))]) : ∀ (n : Nat) (x1 : Int32) (x2 : Int32) (x3 : Int32) (x4 : Int32) (x5 : Int32) (h_begun : Nat → Int64), lp_X0_joinInside_44 g_size g_lengths g_symbols h_prices k97 n x1 x2 x3 x4 x5 h_begun = some o → KW l xX0_joinInside D (kT cI cB cJ cZ) ws z (kQv D (kT cI cB cJ cZ) [(20, (ad 20, .inl (cJ, 2040, .inr (.inl o))))] ws z) 44 [(0, .ref (ad 17)), (1, .int x1), (2, .int x2), (3, .int x3), (4, .int x4), (5, .int x5)] [] [(20, (ad 20, .inl (cJ, 2040, .inr (.inl h_begun))))] := by
  intro n
  induction n with
  | zero => intro x1 x2 x3 x4 x5 h_begun h; exact absurd h (by simp [lp_X0_joinInside_44])
  | succ n hk44 =>
    intro x1 x2 x3 x4 x5 h_begun h
    unfold lp_X0_joinInside_44 at h
    refine k_iload dX0_joinInside_44 5 rfl ?_
    refine k_aload_n dX0_joinInside_46 0 rfl rfl ?_
    refine k_get 17 0 E.2.2.2.1 rfl qX0_joinInside_wX0 (by decide) qX0_joinInside_f25 rfl dX0_joinInside_47 ?_
    refine k_getN 1 1 E.1 rfl qX0_joinInside_wX2 (by decide) (host := "KindParser") (by decide +kernel) rfl dX0_joinInside_50 ?_
    refine k_iload_n dX0_joinInside_53 3 rfl rfl ?_
    refine k_iald 3 0 E.2.1 rfl dX0_joinInside_54 h (fun v6 h => ?_)
    refine k_icmp_ge 97 dX0_joinInside_55 (by decide) h (fun h => ?_) (fun h => ?_)
    · skip
      refine k_sub [0, 1, 2, 3] rfl ?_
      exact hk97 _ _ _ _ h
    · skip
      refine k_aload_n dX0_joinInside_58 0 rfl rfl ?_
      refine k_get 17 4 E.2.2.2.1 rfl qX0_joinInside_wX0 (by decide) qX0_joinInside_f19 rfl dX0_joinInside_59 ?_
      refine k_iload dX0_joinInside_62 4 rfl ?_
      refine k_bipush (v := 17) dX0_joinInside_64 (by decide) ?_
      refine k_iadd dX0_joinInside_66 ?_
      refine k_iload_n dX0_joinInside_67 2 rfl rfl ?_
      refine k_iadd dX0_joinInside_68 ?_
      refine k_aload_n dX0_joinInside_69 0 rfl rfl ?_
      refine k_iload dX0_joinInside_70 4 rfl ?_
      refine k_aload_n dX0_joinInside_72 0 rfl rfl ?_
      refine k_get 17 0 E.2.2.2.1 rfl qX0_joinInside_wX0 (by decide) qX0_joinInside_f25 rfl dX0_joinInside_73 ?_
      refine k_iload_n dX0_joinInside_76 3 rfl rfl ?_
      refine k_iload dX0_joinInside_77 5 rfl ?_
      obtain ⟨r7, hr7, h⟩ := Option.bind_eq_some_iff.mp h
      refine k_calliV (As := [.int x3, .int x5]) (st := [.int x4, .ref (ad 17), .int ((x4 + 17) + x2), .ref (ad 20)]) (Lc := []) (L' := [(20, (ad 20, .inl (cJ, 2040, .inr (.inl h_begun))))]) (r := r7) gX0_joinInside_X2_symbolOf rfl rfl rfl hyVX2_symbolOf ⟨Nat.le_of_ble_eq_true rfl, Nat.le_of_ble_eq_true rfl⟩ rfl rfl (Nat.le_of_ble_eq_true rfl) 1 E.1 rfl dX0_joinInside_79 (fun w z hw => c_X2_symbolOf (cI := cI) (cB := cB) (cJ := cJ) (cZ := cZ) (ad := ad) w z ⟨((hw 1).trans E.1), ((hw 4).trans E.2.2.1)⟩  hr7) rfl rfl ?_
      refine k_iload_n dX0_joinInside_82 1 rfl rfl ?_
      refine k_iload_n dX0_joinInside_83 2 rfl rfl ?_
      obtain ⟨r8, hr8, h⟩ := Option.bind_eq_some_iff.mp h
      refine k_calllV (As := [.int x4, .int r7, .int x1, .int x2]) (st := [.int ((x4 + 17) + x2), .ref (ad 20)]) (Lc := []) (L' := [(20, (ad 20, .inl (cJ, 2040, .inr (.inl h_begun))))]) (r := r8) gX0_joinInside_X0_leastInside rfl rfl rfl hyVX0_leastInside ⟨Nat.le_of_ble_eq_true rfl, Nat.le_of_ble_eq_true rfl⟩ rfl rfl (Nat.le_of_ble_eq_true rfl) 17 E.2.2.2.1 rfl dX0_joinInside_84 (fun w z hw => c_X0_leastInside (cI := cI) (cB := cB) (cJ := cJ) (cZ := cZ) (ad := ad) w z ⟨((hw 17).trans E.2.2.2.1), ((hw 18).trans E.2.2.2.2), (hw 20)⟩  hr8) rfl rfl ?_
      refine k_last (L' := fun f => [(20, (ad 20, .inl (cJ, 2040, .inr (.inl f))))]) 20 2 rfl rfl rfl dX0_joinInside_87 h (fun _ => rfl) (fun h_begun_9 h => ?_)
      refine k_iinc (i := 4) (lv' := fun x => [(4, .int x), (0, .ref (ad 17)), (1, .int x1), (2, .int x2), (3, .int x3), (5, .int x5)]) dX0_joinInside_88 4 rfl (Nat.le_of_ble_eq_true rfl) (fun _ => rfl) h (fun x4_10 h => ?_)
      refine k_iinc (i := 5) (lv' := fun x => [(5, .int x), (4, .int x4_10), (0, .ref (ad 17)), (1, .int x1), (2, .int x2), (3, .int x3)]) dX0_joinInside_91 5 rfl (Nat.le_of_ble_eq_true rfl) (fun _ => rfl) h (fun x5_11 h => ?_)
      refine k_goto 44 dX0_joinInside_94 (by decide) ?_
      refine k_sub [2, 3, 4, 5, 1, 0] rfl ?_
      exact hk44 _ _ _ _ _ _ h
set_option maxHeartbeats 4000000 in
set_option maxRecDepth 100000 in
theorem wjn_X0_joinInside_40 {l : Launch} {D : va_G} {cI cB cJ cZ : ClassId} {ad : Nat → Nat} {ws : va_W} {z : Nat} {g_size : Int32} {g_lengths : Nat → Int32} {g_symbols : Nat → Int32} {h_prices : Nat → Int64} (E : ws[1]? = some (ad 1, .inr (2, [.ref (ad 2), .ref (ad 3), .ref (ad 4), .ref (ad 5), .ref (ad 6), .ref (ad 7), .int g_size])) ∧ ws[3]? = some (ad 3, .inl (cI, 20, .inl g_lengths)) ∧ ws[4]? = some (ad 4, .inl (cI, 100, .inl g_symbols)) ∧ ws[17]? = some (ad 17, .inr (0, [.ref (ad 1), .ref (ad 9), .ref (ad 18), .ref (ad 19), .ref (ad 20), .ref (ad 21)])) ∧ ws[18]? = some (ad 18, .inl (cJ, 4046, .inr (.inl h_prices)))) {o : (Nat → Int64)} {k2 : (Int32) → (Int32) → (Int32) → (Nat → Int64) → Option ((Nat → Int64))} (hk2 : ∀ (x1 : Int32) (x2 : Int32) (x3 : Int32) (h_begun : Nat → Int64), k2 x1 x2 x3 h_begun = some o → KW l xX0_joinInside D (kT cI cB cJ cZ) ws z (kQv D (kT cI cB cJ cZ) [(20, (ad 20, .inl (cJ, 2040, .inr (.inl o))))] ws z) 2 [(0, .ref (ad 17)), (1, .int x1), (2, .int x2), (3, .int x3)] [] [(20, (ad 20, .inl (cJ, 2040, .inr (.inl h_begun))))]) : ∀ (x1 : Int32) (x2 : Int32) (x3 : Int32) (x4 : Int32) (s1 : Int32) (s2 : Int64) (h_begun : Nat → Int64), jn_X0_joinInside_40 g_size g_lengths g_symbols h_prices k2 x1 x2 x3 x4 s1 s2 h_begun = some o → KW l xX0_joinInside D (kT cI cB cJ cZ) ws z (kQv D (kT cI cB cJ cZ) [(20, (ad 20, .inl (cJ, 2040, .inr (.inl o))))] ws z) 40 [(0, .ref (ad 17)), (1, .int x1), (2, .int x2), (3, .int x3), (4, .int x4)] [.long s2, .int s1, .ref (ad 20)] [(20, (ad 20, .inl (cJ, 2040, .inr (.inl h_begun))))] := by
  intro x1 x2 x3 x4 s1 s2 h_begun h
  unfold jn_X0_joinInside_40 at h
  refine k_last (L' := fun f => [(20, (ad 20, .inl (cJ, 2040, .inr (.inl f))))]) 20 2 rfl rfl rfl dX0_joinInside_40 h (fun _ => rfl) (fun h_begun_4 h => ?_)
  refine k_iconst (v := 0) dX0_joinInside_41 (by decide) ?_
  refine k_istore (i := 5) (lv' := fun x => [(5, .int x), (0, .ref (ad 17)), (1, .int x1), (2, .int x2), (3, .int x3), (4, .int x4)]) dX0_joinInside_42 (Nat.le_of_ble_eq_true rfl) (fun _ => rfl) h (fun x5_5 h => ?_)
  refine k_sub [1, 2, 3, 4, 5, 0] rfl ?_
  refine wlp_X0_joinInside_44 (cI := cI) (cB := cB) (cJ := cJ) (cZ := cZ) (ad := ad) E ?_ FU _ _ _ _ _ _ h
  · intro x1 x2 x3 h_begun h
    refine k_iinc (i := 3) (lv' := fun x => [(3, .int x), (0, .ref (ad 17)), (1, .int x1), (2, .int x2)]) dX0_joinInside_97 3 rfl (Nat.le_of_ble_eq_true rfl) (fun _ => rfl) h (fun x3_12 h => ?_)
    refine k_goto 2 dX0_joinInside_100 (by decide) ?_
    refine k_sub [1, 2, 3, 0] rfl ?_
    exact hk2 _ _ _ _ h
set_option maxHeartbeats 4000000 in
set_option maxRecDepth 100000 in
theorem wlp_X0_joinInside_2 {l : Launch} {D : va_G} {cI cB cJ cZ : ClassId} {ad : Nat → Nat} {ws : va_W} {z : Nat} {g_size : Int32} {g_lengths : Nat → Int32} {g_symbols : Nat → Int32} {h_prices : Nat → Int64} (E : ws[1]? = some (ad 1, .inr (2, [.ref (ad 2), .ref (ad 3), .ref (ad 4), .ref (ad 5), .ref (ad 6), .ref (ad 7), .int g_size])) ∧ ws[3]? = some (ad 3, .inl (cI, 20, .inl g_lengths)) ∧ ws[4]? = some (ad 4, .inl (cI, 100, .inl g_symbols)) ∧ ws[17]? = some (ad 17, .inr (0, [.ref (ad 1), .ref (ad 9), .ref (ad 18), .ref (ad 19), .ref (ad 20), .ref (ad 21)])) ∧ ws[18]? = some (ad 18, .inl (cJ, 4046, .inr (.inl h_prices)))) {o : (Nat → Int64)} {k103 : (Nat → Int64) → Option ((Nat → Int64))} (hk103 : ∀ (h_begun : Nat → Int64), k103 h_begun = some o → KW l xX0_joinInside D (kT cI cB cJ cZ) ws z (kQv D (kT cI cB cJ cZ) [(20, (ad 20, .inl (cJ, 2040, .inr (.inl o))))] ws z) 103 [] [] [(20, (ad 20, .inl (cJ, 2040, .inr (.inl h_begun))))]) : ∀ (n : Nat) (x1 : Int32) (x2 : Int32) (x3 : Int32) (h_begun : Nat → Int64), lp_X0_joinInside_2 g_size g_lengths g_symbols h_prices k103 n x1 x2 x3 h_begun = some o → KW l xX0_joinInside D (kT cI cB cJ cZ) ws z (kQv D (kT cI cB cJ cZ) [(20, (ad 20, .inl (cJ, 2040, .inr (.inl o))))] ws z) 2 [(0, .ref (ad 17)), (1, .int x1), (2, .int x2), (3, .int x3)] [] [(20, (ad 20, .inl (cJ, 2040, .inr (.inl h_begun))))] := by
  intro n
  induction n with
  | zero => intro x1 x2 x3 h_begun h; exact absurd h (by simp [lp_X0_joinInside_2])
  | succ n hk2 =>
    intro x1 x2 x3 h_begun h
    unfold lp_X0_joinInside_2 at h
    refine k_iload_n dX0_joinInside_2 3 rfl rfl ?_
    refine k_aload_n dX0_joinInside_3 0 rfl rfl ?_
    refine k_get 17 0 E.2.2.2.1 rfl qX0_joinInside_wX0 (by decide) qX0_joinInside_f25 rfl dX0_joinInside_4 ?_
    refine k_getN 1 6 E.1 rfl qX0_joinInside_wX2 (by decide) (host := "KindParser") (by decide +kernel) rfl dX0_joinInside_7 ?_
    refine k_icmp_ge 103 dX0_joinInside_10 (by decide) h (fun h => ?_) (fun h => ?_)
    · skip
      refine k_sub [] rfl ?_
      exact hk103 _ h
    · skip
      refine k_iload_n dX0_joinInside_13 3 rfl rfl ?_
      refine k_iconst (v := 0) dX0_joinInside_14 (by decide) ?_
      obtain ⟨r2, hr2, h⟩ := Option.bind_eq_some_iff.mp h
      refine k_calliS (As := [.int x3, .int 0]) (st := []) (Lc := []) (L' := [(20, (ad 20, .inl (cJ, 2040, .inr (.inl h_begun))))]) (r := r2) gX0_joinInside_X0_begunRow rfl rfl rfl hySX0_begunRow ⟨Nat.le_of_ble_eq_true rfl, Nat.le_of_ble_eq_true rfl⟩ rfl rfl (Nat.le_of_ble_eq_true rfl) dX0_joinInside_15 (fun w z hw => c_X0_begunRow (cI := cI) (cB := cB) (cJ := cJ) (cZ := cZ) (ad := ad) w z trivial  hr2) rfl rfl ?_
      refine k_istore (i := 4) (lv' := fun x => [(4, .int x), (0, .ref (ad 17)), (1, .int x1), (2, .int x2), (3, .int x3)]) dX0_joinInside_18 (Nat.le_of_ble_eq_true rfl) (fun _ => rfl) h (fun x4_3 h => ?_)
      refine k_aload_n dX0_joinInside_20 1 rfl rfl ?_
      refine k_get 17 4 E.2.2.2.1 rfl qX0_joinInside_wX0 (by decide) qX0_joinInside_f19 rfl dX0_joinInside_21 ?_
      refine k_iload dX0_joinInside_24 0 rfl ?_
      refine k_iload_n dX0_joinInside_26 3 rfl rfl ?_
      refine k_iadd dX0_joinInside_27 ?_
      refine k_iload_n dX0_joinInside_28 2 rfl rfl ?_
      refine k_iload_n dX0_joinInside_29 3 rfl rfl ?_
      refine k_icmp_ne 37 dX0_joinInside_30 (by decide) h (fun h => ?_) (fun h => ?_)
      · skip
        refine k_lconst (v := 0) dX0_joinInside_33 (by decide) ?_
        refine k_goto 40 dX0_joinInside_34 (by decide) ?_
        refine k_sub [1, 2, 3, 4, 0] rfl ?_
        exact wjn_X0_joinInside_40 (cI := cI) (cB := cB) (cJ := cJ) (cZ := cZ) (ad := ad) E hk2 _ _ _ _ _ _ _ h
      · skip
        refine k_ldc2 (v := 1152921504606846976) dX0_joinInside_37 qX0_joinInside_k65 ?_
        refine k_sub [1, 2, 3, 4, 0] rfl ?_
        exact wjn_X0_joinInside_40 (cI := cI) (cB := cB) (cJ := cJ) (cZ := cZ) (ad := ad) E hk2 _ _ _ _ _ _ _ h
set_option maxHeartbeats 4000000 in
set_option maxRecDepth 100000 in
/-- KindParser$Chart.joinInside -/
theorem c_X0_joinInside {l : Launch} {D : va_G} {cI cB cJ cZ : ClassId} {ad : Nat → Nat} (ws : va_W) (z : Nat) {g_size : Int32} {g_lengths : Nat → Int32} {g_symbols : Nat → Int32} {h_prices : Nat → Int64} {h_begun : Nat → Int64} (E : ws[1]? = some (ad 1, .inr (2, [.ref (ad 2), .ref (ad 3), .ref (ad 4), .ref (ad 5), .ref (ad 6), .ref (ad 7), .int g_size])) ∧ ws[3]? = some (ad 3, .inl (cI, 20, .inl g_lengths)) ∧ ws[4]? = some (ad 4, .inl (cI, 100, .inl g_symbols)) ∧ ws[17]? = some (ad 17, .inr (0, [.ref (ad 1), .ref (ad 9), .ref (ad 18), .ref (ad 19), .ref (ad 20), .ref (ad 21)])) ∧ ws[18]? = some (ad 18, .inl (cJ, 4046, .inr (.inl h_prices)))) (e20 : ws[20]? = some (ad 20, .inl (cJ, 2040, .inr (.inl h_begun)))) {a1 : Int32} {a2 : Int32} {o : (Nat → Int64)} (h : f_X0_joinInside a1 a2 g_size g_lengths g_symbols h_prices h_begun = some o) : Met l yX0_joinInside wsX0_joinInside rmX0_joinInside (kPc D (kT cI cB cJ cZ) [.ref (ad 17), .int a1, .int a2] ws z) (kQv D (kT cI cB cJ cZ) [(20, (ad 20, .inl (cJ, 2040, .inr (.inl o))))] ws z) 0 0 (va_A ws z) := by
  refine KW.met (rm := rmX0_joinInside) (lv := [(0, .ref (ad 17)), (1, .int a1), (2, .int a2)]) (L := [(20, (ad 20, .inl (cJ, 2040, .inr (.inl h_begun))))]) rfl (by decide) (Nat.le_of_ble_eq_true rfl) rfl (by intro q hq; simp only [List.mem_cons, List.not_mem_nil, or_false] at hq; rcases hq with rfl <;> assumption) ?_
  unfold f_X0_joinInside at h
  show KW l xX0_joinInside D (kT cI cB cJ cZ) ws z (kQv D (kT cI cB cJ cZ) [(20, (ad 20, .inl (cJ, 2040, .inr (.inl o))))] ws z) 0 [(0, .ref (ad 17)), (1, .int a1), (2, .int a2)] [] [(20, (ad 20, .inl (cJ, 2040, .inr (.inl h_begun))))]
  refine k_iconst (v := 0) dX0_joinInside_0 (by decide) ?_
  refine k_istore_n (i := 3) (lv' := fun x => [(3, .int x), (0, .ref (ad 17)), (1, .int a1), (2, .int a2)]) dX0_joinInside_1 rfl (Nat.le_of_ble_eq_true rfl) (fun _ => rfl) h (fun x3_1 h => ?_)
  refine k_sub [1, 2, 3, 0] rfl ?_
  refine wlp_X0_joinInside_2 (cI := cI) (cB := cB) (cJ := cJ) (cZ := cZ) (ad := ad) E ?_ FU _ _ _ _ h
  · intro h_begun h
    obtain rfl := Option.some.inj h
    exact k_vret rfl dX0_joinInside_103
abbrev rmX0_extend : Room := { frames := 1, cells := 0, slots := 0, locals := 23 }
abbrev xX0_extend : KX := (rmX0_extend, cX0_extend, 11, some .long, RX0, wsX0_extend)
theorem hySX0_extend : yX0_extend.cls ≠ "java/lang/invoke/MethodHandle" ∧ yX0_extend.cls ≠ "java/lang/invoke/VarHandle" ∧ (parseMethodDescriptor yX0_extend.desc).map (fun d => d.parameters.length) = some 3 := by decide +kernel
theorem hyVX0_extend : yX0_extend.cls = RX0 ∧ yX0_extend.cls ≠ "java/lang/invoke/MethodHandle" ∧ yX0_extend.cls ≠ "java/lang/invoke/VarHandle" ∧ (parseMethodDescriptor yX0_extend.desc).map (fun d => d.parameters.length) = some 3 := ⟨rfl, hySX0_extend⟩
theorem qX0_extend_wX0 : ∀ w ∈ u_ws RX0 TX0 6, w ∈ wsX0_extend := by decide +kernel
theorem qX0_extend_f25 : Cond.fieldLink RX0 25 "KindParser$Chart" "grammar" "LKindParser$Grammar;" ∈ wsX0_extend := by decide +kernel
theorem qX0_extend_wX2 : ∀ w ∈ u_ws RX2 TX2 7, w ∈ wsX0_extend := by decide +kernel
theorem qX0_extend_f19 : Cond.fieldLink RX0 19 "KindParser$Chart" "begun" "[J" ∈ wsX0_extend := by decide +kernel
theorem qX0_extend_f11 : Cond.fieldLink RX0 11 "KindParser$Chart" "prices" "[J" ∈ wsX0_extend := by decide +kernel
theorem qX0_extend_m88 : Cond.methodLink RX0 88 Lib.MathLoose.min_long.x ∈ wsX0_extend := by decide +kernel
theorem qX0_extend_ms88 : Cond.static Lib.MathLoose.min_long.x ∈ wsX0_extend := by decide +kernel
theorem qX0_extend_iMath : Cond.initialized "java/lang/Math" ∈ wsX0_extend := by decide +kernel
theorem qX0_extend_mc88 : Cond.code Lib.MathLoose.min_long.x Lib.MathLoose.min_long.code 4 (some .long) ∈ wsX0_extend := by decide +kernel
set_option maxHeartbeats 4000000 in
set_option maxRecDepth 100000 in
theorem wlp_X0_extend_10 {l : Launch} {D : va_G} {cI cB cJ cZ : ClassId} {ad : Nat → Nat} {ws : va_W} {z : Nat} {g_size : Int32} {g_lengths : Nat → Int32} {g_symbols : Nat → Int32} {h_prices : Nat → Int64} (E : ws[1]? = some (ad 1, .inr (2, [.ref (ad 2), .ref (ad 3), .ref (ad 4), .ref (ad 5), .ref (ad 6), .ref (ad 7), .int g_size])) ∧ ws[3]? = some (ad 3, .inl (cI, 20, .inl g_lengths)) ∧ ws[4]? = some (ad 4, .inl (cI, 100, .inl g_symbols)) ∧ ws[17]? = some (ad 17, .inr (0, [.ref (ad 1), .ref (ad 9), .ref (ad 18), .ref (ad 19), .ref (ad 20), .ref (ad 21)])) ∧ ws[18]? = some (ad 18, .inl (cJ, 4046, .inr (.inl h_prices)))) {o : Int64 × (Nat → Int64)} {k121 : (Int32) → (Int32) → (Nat → Int64) → Option (Int64 × (Nat → Int64))} (hk121 : ∀ (x3 : Int32) (x4 : Int32) (h_begun : Nat → Int64), k121 x3 x4 h_begun = some o → KW l xX0_extend D (kT cI cB cJ cZ) ws z (kQl D (kT cI cB cJ cZ) o.1 [(20, (ad 20, .inl (cJ, 2040, .inr (.inl o.2))))] ws z) 121 [(0, .ref (ad 17)), (3, .int x3), (4, .int x4)] [] [(20, (ad 20, .inl (cJ, 2040, .inr (.inl h_begun))))]) : ∀ (n : Nat) (x1 : Int32) (x2 : Int32) (x3 : Int32) (x4 : Int32) (x5 : Int32) (h_begun : Nat → Int64), lp_X0_extend_10 g_lengths g_symbols h_prices k121 n x1 x2 x3 x4 x5 h_begun = some o → KW l xX0_extend D (kT cI cB cJ cZ) ws z (kQl D (kT cI cB cJ cZ) o.1 [(20, (ad 20, .inl (cJ, 2040, .inr (.inl o.2))))] ws z) 10 [(0, .ref (ad 17)), (1, .int x1), (2, .int x2), (3, .int x3), (4, .int x4), (5, .int x5)] [] [(20, (ad 20, .inl (cJ, 2040, .inr (.inl h_begun))))] := by
  intro n
  induction n with
  | zero => intro x1 x2 x3 x4 x5 h_begun h; exact absurd h (by simp [lp_X0_extend_10])
  | succ n hk10 =>
    intro x1 x2 x3 x4 x5 h_begun h
    unfold lp_X0_extend_10 at h
    refine k_iload dX0_extend_10 5 rfl ?_
    refine k_aload_n dX0_extend_12 0 rfl rfl ?_
    refine k_get 17 0 E.2.2.2.1 rfl qX0_extend_wX0 (by decide) qX0_extend_f25 rfl dX0_extend_13 ?_
    refine k_getN 1 1 E.1 rfl qX0_extend_wX2 (by decide) (host := "KindParser") (by decide +kernel) rfl dX0_extend_16 ?_
    refine k_iload_n dX0_extend_19 1 rfl rfl ?_
    refine k_iald 3 0 E.2.1 rfl dX0_extend_20 h (fun v4 h => ?_)
    refine k_icmp_ge 121 dX0_extend_21 (by decide) h (fun h => ?_) (fun h => ?_)
    · skip
      refine k_sub [0, 3, 4] rfl ?_
      exact hk121 _ _ _ h
    · skip
      refine k_aload_n dX0_extend_24 0 rfl rfl ?_
      refine k_get 17 0 E.2.2.2.1 rfl qX0_extend_wX0 (by decide) qX0_extend_f25 rfl dX0_extend_25 ?_
      refine k_iload_n dX0_extend_28 1 rfl rfl ?_
      refine k_iload dX0_extend_29 5 rfl ?_
      obtain ⟨r5, hr5, h⟩ := Option.bind_eq_some_iff.mp h
      refine k_calliV (As := [.int x1, .int x5]) (st := []) (Lc := []) (L' := [(20, (ad 20, .inl (cJ, 2040, .inr (.inl h_begun))))]) (r := r5) gX0_extend_X2_symbolOf rfl rfl rfl hyVX2_symbolOf ⟨Nat.le_of_ble_eq_true rfl, Nat.le_of_ble_eq_true rfl⟩ rfl rfl (Nat.le_of_ble_eq_true rfl) 1 E.1 rfl dX0_extend_31 (fun w z hw => c_X2_symbolOf (cI := cI) (cB := cB) (cJ := cJ) (cZ := cZ) (ad := ad) w z ⟨((hw 1).trans E.1), ((hw 4).trans E.2.2.1)⟩  hr5) rfl rfl ?_
      refine k_istore (i := 6) (lv' := fun x => [(6, .int x), (0, .ref (ad 17)), (1, .int x1), (2, .int x2), (3, .int x3), (4, .int x4), (5, .int x5)]) dX0_extend_34 (Nat.le_of_ble_eq_true rfl) (fun _ => rfl) h (fun x6_6 h => ?_)
      refine k_aload_n dX0_extend_36 1 rfl rfl ?_
      refine k_get 17 4 E.2.2.2.1 rfl qX0_extend_wX0 (by decide) qX0_extend_f19 rfl dX0_extend_37 ?_
      refine k_iload dX0_extend_40 5 rfl ?_
      refine k_iload_n dX0_extend_42 4 rfl rfl ?_
      refine k_iadd dX0_extend_43 ?_
      refine k_lald 20 2 rfl rfl dX0_extend_44 h (fun v7 h => ?_)
      refine k_aload_n dX0_extend_45 1 rfl rfl ?_
      refine k_get 17 2 E.2.2.2.1 rfl qX0_extend_wX0 (by decide) qX0_extend_f11 rfl dX0_extend_46 ?_
      refine k_iload dX0_extend_49 0 rfl ?_
      refine k_iload_n dX0_extend_51 4 rfl rfl ?_
      refine k_iload_n dX0_extend_52 4 rfl rfl ?_
      obtain ⟨r8, hr8, h⟩ := Option.bind_eq_some_iff.mp h
      refine k_calliS (As := [.int x6_6, .int x3, .int x3]) (st := [.ref (ad 18), .long v7]) (Lc := []) (L' := [(20, (ad 20, .inl (cJ, 2040, .inr (.inl h_begun))))]) (r := r8) gX0_extend_X0_spot rfl rfl rfl hySX0_spot ⟨Nat.le_of_ble_eq_true rfl, Nat.le_of_ble_eq_true rfl⟩ rfl rfl (Nat.le_of_ble_eq_true rfl) dX0_extend_53 (fun w z hw => c_X0_spot (cI := cI) (cB := cB) (cJ := cJ) (cZ := cZ) (ad := ad) w z trivial  hr8) rfl rfl ?_
      refine k_lald 18 2 E.2.2.2.2 rfl dX0_extend_56 h (fun v9 h => ?_)
      refine k_ladd dX0_extend_57 ?_
      refine k_lstore (i := 7) (lv' := fun x => [(7, .long x), (6, .int x6_6), (0, .ref (ad 17)), (1, .int x1), (2, .int x2), (3, .int x3), (4, .int x4), (5, .int x5)]) dX0_extend_58 (Nat.le_of_ble_eq_true rfl) (fun _ => rfl) h (fun x7_10 h => ?_)
      refine k_aload_n dX0_extend_60 2 rfl rfl ?_
      refine k_get 17 4 E.2.2.2.1 rfl qX0_extend_wX0 (by decide) qX0_extend_f19 rfl dX0_extend_61 ?_
      refine k_iload dX0_extend_64 6 rfl ?_
      refine k_iload_n dX0_extend_66 4 rfl rfl ?_
      refine k_iadd dX0_extend_67 ?_
      refine k_lald 20 2 rfl rfl dX0_extend_68 h (fun v11 h => ?_)
      refine k_aload_n dX0_extend_69 2 rfl rfl ?_
      refine k_get 17 2 E.2.2.2.1 rfl qX0_extend_wX0 (by decide) qX0_extend_f11 rfl dX0_extend_70 ?_
      refine k_iload dX0_extend_73 1 rfl ?_
      refine k_iload_n dX0_extend_75 4 rfl rfl ?_
      refine k_iload_n dX0_extend_76 5 rfl rfl ?_
      obtain ⟨r12, hr12, h⟩ := Option.bind_eq_some_iff.mp h
      refine k_calliS (As := [.int x6_6, .int x2, .int x3]) (st := [.ref (ad 18), .long v11]) (Lc := []) (L' := [(20, (ad 20, .inl (cJ, 2040, .inr (.inl h_begun))))]) (r := r12) gX0_extend_X0_spot rfl rfl rfl hySX0_spot ⟨Nat.le_of_ble_eq_true rfl, Nat.le_of_ble_eq_true rfl⟩ rfl rfl (Nat.le_of_ble_eq_true rfl) dX0_extend_77 (fun w z hw => c_X0_spot (cI := cI) (cB := cB) (cJ := cJ) (cZ := cZ) (ad := ad) w z trivial  hr12) rfl rfl ?_
      refine k_lald 18 2 E.2.2.2.2 rfl dX0_extend_80 h (fun v13 h => ?_)
      refine k_ladd dX0_extend_81 ?_
      refine k_lstore (i := 9) (lv' := fun x => [(9, .long x), (7, .long x7_10), (6, .int x6_6), (0, .ref (ad 17)), (1, .int x1), (2, .int x2), (3, .int x3), (4, .int x4), (5, .int x5)]) dX0_extend_82 (Nat.le_of_ble_eq_true rfl) (fun _ => rfl) h (fun x9_14 h => ?_)
      refine k_iinc (i := 4) (lv' := fun x => [(4, .int x), (9, .long x9_14), (7, .long x7_10), (6, .int x6_6), (0, .ref (ad 17)), (1, .int x1), (2, .int x2), (3, .int x3), (5, .int x5)]) dX0_extend_84 7 rfl (Nat.le_of_ble_eq_true rfl) (fun _ => rfl) h (fun x4_15 h => ?_)
      refine k_aload_n dX0_extend_87 4 rfl rfl ?_
      refine k_get 17 4 E.2.2.2.1 rfl qX0_extend_wX0 (by decide) qX0_extend_f19 rfl dX0_extend_88 ?_
      refine k_iload dX0_extend_91 0 rfl ?_
      refine k_iload_n dX0_extend_93 7 rfl rfl ?_
      refine k_iadd dX0_extend_94 ?_
      refine k_aload_n dX0_extend_95 4 rfl rfl ?_
      refine k_get 17 4 E.2.2.2.1 rfl qX0_extend_wX0 (by decide) qX0_extend_f19 rfl dX0_extend_96 ?_
      refine k_iload dX0_extend_99 0 rfl ?_
      refine k_iload_n dX0_extend_101 7 rfl rfl ?_
      refine k_iadd dX0_extend_102 ?_
      refine k_lald 20 2 rfl rfl dX0_extend_103 h (fun v16 h => ?_)
      refine k_lload dX0_extend_104 2 rfl ?_
      refine k_lload dX0_extend_106 1 rfl ?_
      refine k_mminL qX0_extend_m88 qX0_extend_ms88 qX0_extend_iMath qX0_extend_mc88 (Nat.le_of_ble_eq_true rfl) (Nat.le_of_ble_eq_true rfl) dX0_extend_108 ?_
      refine k_topl h (fun v17 h => ?_)
      refine k_mminL qX0_extend_m88 qX0_extend_ms88 qX0_extend_iMath qX0_extend_mc88 (Nat.le_of_ble_eq_true rfl) (Nat.le_of_ble_eq_true rfl) dX0_extend_111 ?_
      refine k_topl h (fun v18 h => ?_)
      refine k_last (L' := fun f => [(20, (ad 20, .inl (cJ, 2040, .inr (.inl f))))]) 20 2 rfl rfl rfl dX0_extend_114 h (fun _ => rfl) (fun h_begun_19 h => ?_)
      refine k_iinc (i := 5) (lv' := fun x => [(5, .int x), (4, .int x4_15), (9, .long x9_14), (7, .long x7_10), (6, .int x6_6), (0, .ref (ad 17)), (1, .int x1), (2, .int x2), (3, .int x3)]) dX0_extend_115 8 rfl (Nat.le_of_ble_eq_true rfl) (fun _ => rfl) h (fun x5_20 h => ?_)
      refine k_goto 10 dX0_extend_118 (by decide) ?_
      refine k_sub [5, 6, 7, 8, 1, 0] rfl ?_
      exact hk10 _ _ _ _ _ _ h
set_option maxHeartbeats 4000000 in
set_option maxRecDepth 100000 in
/-- KindParser$Chart.extend -/
theorem c_X0_extend {l : Launch} {D : va_G} {cI cB cJ cZ : ClassId} {ad : Nat → Nat} (ws : va_W) (z : Nat) {g_size : Int32} {g_lengths : Nat → Int32} {g_symbols : Nat → Int32} {h_prices : Nat → Int64} {h_begun : Nat → Int64} (E : ws[1]? = some (ad 1, .inr (2, [.ref (ad 2), .ref (ad 3), .ref (ad 4), .ref (ad 5), .ref (ad 6), .ref (ad 7), .int g_size])) ∧ ws[3]? = some (ad 3, .inl (cI, 20, .inl g_lengths)) ∧ ws[4]? = some (ad 4, .inl (cI, 100, .inl g_symbols)) ∧ ws[17]? = some (ad 17, .inr (0, [.ref (ad 1), .ref (ad 9), .ref (ad 18), .ref (ad 19), .ref (ad 20), .ref (ad 21)])) ∧ ws[18]? = some (ad 18, .inl (cJ, 4046, .inr (.inl h_prices)))) (e20 : ws[20]? = some (ad 20, .inl (cJ, 2040, .inr (.inl h_begun)))) {a1 : Int32} {a2 : Int32} {a3 : Int32} {o : Int64 × (Nat → Int64)} (h : f_X0_extend a1 a2 a3 g_lengths g_symbols h_prices h_begun = some o) : Met l yX0_extend wsX0_extend rmX0_extend (kPc D (kT cI cB cJ cZ) [.ref (ad 17), .int a1, .int a2, .int a3] ws z) (kQl D (kT cI cB cJ cZ) o.1 [(20, (ad 20, .inl (cJ, 2040, .inr (.inl o.2))))] ws z) 0 0 (va_A ws z) := by
  refine KW.met (rm := rmX0_extend) (lv := [(0, .ref (ad 17)), (1, .int a1), (2, .int a2), (3, .int a3)]) (L := [(20, (ad 20, .inl (cJ, 2040, .inr (.inl h_begun))))]) rfl (by decide) (Nat.le_of_ble_eq_true rfl) rfl (by intro q hq; simp only [List.mem_cons, List.not_mem_nil, or_false] at hq; rcases hq with rfl <;> assumption) ?_
  unfold f_X0_extend at h
  show KW l xX0_extend D (kT cI cB cJ cZ) ws z (kQl D (kT cI cB cJ cZ) o.1 [(20, (ad 20, .inl (cJ, 2040, .inr (.inl o.2))))] ws z) 0 [(0, .ref (ad 17)), (1, .int a1), (2, .int a2), (3, .int a3)] [] [(20, (ad 20, .inl (cJ, 2040, .inr (.inl h_begun))))]
  refine k_iload_n dX0_extend_0 1 rfl rfl ?_
  refine k_iconst (v := 0) dX0_extend_1 (by decide) ?_
  obtain ⟨r1, hr1, h⟩ := Option.bind_eq_some_iff.mp h
  refine k_calliS (As := [.int a1, .int 0]) (st := []) (Lc := []) (L' := [(20, (ad 20, .inl (cJ, 2040, .inr (.inl h_begun))))]) (r := r1) gX0_extend_X0_begunRow rfl rfl rfl hySX0_begunRow ⟨Nat.le_of_ble_eq_true rfl, Nat.le_of_ble_eq_true rfl⟩ rfl rfl (Nat.le_of_ble_eq_true rfl) dX0_extend_2 (fun w z hw => c_X0_begunRow (cI := cI) (cB := cB) (cJ := cJ) (cZ := cZ) (ad := ad) w z trivial  hr1) rfl rfl ?_
  refine k_istore (i := 4) (lv' := fun x => [(4, .int x), (0, .ref (ad 17)), (1, .int a1), (2, .int a2), (3, .int a3)]) dX0_extend_5 (Nat.le_of_ble_eq_true rfl) (fun _ => rfl) h (fun x4_2 h => ?_)
  refine k_iconst (v := 0) dX0_extend_7 (by decide) ?_
  refine k_istore (i := 5) (lv' := fun x => [(5, .int x), (4, .int x4_2), (0, .ref (ad 17)), (1, .int a1), (2, .int a2), (3, .int a3)]) dX0_extend_8 (Nat.le_of_ble_eq_true rfl) (fun _ => rfl) h (fun x5_3 h => ?_)
  refine k_sub [2, 3, 4, 5, 1, 0] rfl ?_
  refine wlp_X0_extend_10 (cI := cI) (cB := cB) (cJ := cJ) (cZ := cZ) (ad := ad) E ?_ FU _ _ _ _ _ _ h
  · intro x3 x4 h_begun h
    refine k_aload_n dX0_extend_121 0 rfl rfl ?_
    refine k_get 17 4 E.2.2.2.1 rfl qX0_extend_wX0 (by decide) qX0_extend_f19 rfl dX0_extend_122 ?_
    refine k_iload dX0_extend_125 2 rfl ?_
    refine k_iload_n dX0_extend_127 1 rfl rfl ?_
    refine k_iadd dX0_extend_128 ?_
    refine k_lald 20 2 rfl rfl dX0_extend_129 h (fun v21 h => ?_)
    obtain rfl := Option.some.inj h
    exact k_lret rfl dX0_extend_130
abbrev rmX0_settle : Room := { frames := 2, cells := 0, slots := 0, locals := 53 }
abbrev xX0_settle : KX := (rmX0_settle, cX0_settle, 9, none, RX0, wsX0_settle)
theorem hySX0_settle : yX0_settle.cls ≠ "java/lang/invoke/MethodHandle" ∧ yX0_settle.cls ≠ "java/lang/invoke/VarHandle" ∧ (parseMethodDescriptor yX0_settle.desc).map (fun d => d.parameters.length) = some 2 := by decide +kernel
theorem hyVX0_settle : yX0_settle.cls = RX0 ∧ yX0_settle.cls ≠ "java/lang/invoke/MethodHandle" ∧ yX0_settle.cls ≠ "java/lang/invoke/VarHandle" ∧ (parseMethodDescriptor yX0_settle.desc).map (fun d => d.parameters.length) = some 2 := ⟨rfl, hySX0_settle⟩
theorem qX0_settle_wX0 : ∀ w ∈ u_ws RX0 TX0 6, w ∈ wsX0_settle := by decide +kernel
theorem qX0_settle_f25 : Cond.fieldLink RX0 25 "KindParser$Chart" "grammar" "LKindParser$Grammar;" ∈ wsX0_settle := by decide +kernel
theorem qX0_settle_wX2 : ∀ w ∈ u_ws RX2 TX2 7, w ∈ wsX0_settle := by decide +kernel
theorem qX0_settle_f11 : Cond.fieldLink RX0 11 "KindParser$Chart" "prices" "[J" ∈ wsX0_settle := by decide +kernel
set_option maxHeartbeats 4000000 in
set_option maxRecDepth 100000 in
theorem wjn_X0_settle_86 {l : Launch} {D : va_G} {cI cB cJ cZ : ClassId} {ad : Nat → Nat} {ws : va_W} {z : Nat} {g_size : Int32} {g_heads : Nat → Int32} {g_lengths : Nat → Int32} {g_symbols : Nat → Int32} (E : ws[1]? = some (ad 1, .inr (2, [.ref (ad 2), .ref (ad 3), .ref (ad 4), .ref (ad 5), .ref (ad 6), .ref (ad 7), .int g_size])) ∧ ws[2]? = some (ad 2, .inl (cI, 20, .inl g_heads)) ∧ ws[3]? = some (ad 3, .inl (cI, 20, .inl g_lengths)) ∧ ws[4]? = some (ad 4, .inl (cI, 100, .inl g_symbols)) ∧ ws[17]? = some (ad 17, .inr (0, [.ref (ad 1), .ref (ad 9), .ref (ad 18), .ref (ad 19), .ref (ad 20), .ref (ad 21)]))) {o : (Nat → Int64) × (Nat → Int64)} {k21 : (Int32) → (Int32) → (Int32) → (Int32) → (Int32) → (Nat → Int64) → (Nat → Int64) → Option ((Nat → Int64) × (Nat → Int64))} (hk21 : ∀ (x1 : Int32) (x2 : Int32) (x3 : Int32) (x4 : Int32) (x5 : Int32) (h_prices : Nat → Int64) (h_begun : Nat → Int64), k21 x1 x2 x3 x4 x5 h_prices h_begun = some o → KW l xX0_settle D (kT cI cB cJ cZ) ws z (kQv D (kT cI cB cJ cZ) [(18, (ad 18, .inl (cJ, 4046, .inr (.inl o.1)))), (20, (ad 20, .inl (cJ, 2040, .inr (.inl o.2))))] ws z) 21 [(0, .ref (ad 17)), (1, .int x1), (2, .int x2), (3, .int x3), (4, .int x4), (5, .int x5)] [] [(18, (ad 18, .inl (cJ, 4046, .inr (.inl h_prices)))), (20, (ad 20, .inl (cJ, 2040, .inr (.inl h_begun))))]) : ∀ (x1 : Int32) (x2 : Int32) (x3 : Int32) (x4 : Int32) (x5 : Int32) (h_prices : Nat → Int64) (h_begun : Nat → Int64), jn_X0_settle_86 g_size g_heads g_lengths g_symbols k21 x1 x2 x3 x4 x5 h_prices h_begun = some o → KW l xX0_settle D (kT cI cB cJ cZ) ws z (kQv D (kT cI cB cJ cZ) [(18, (ad 18, .inl (cJ, 4046, .inr (.inl o.1)))), (20, (ad 20, .inl (cJ, 2040, .inr (.inl o.2))))] ws z) 86 [(0, .ref (ad 17)), (1, .int x1), (2, .int x2), (3, .int x3), (4, .int x4), (5, .int x5)] [] [(18, (ad 18, .inl (cJ, 4046, .inr (.inl h_prices)))), (20, (ad 20, .inl (cJ, 2040, .inr (.inl h_begun))))] := by
  intro x1 x2 x3 x4 x5 h_prices h_begun h
  unfold jn_X0_settle_86 at h
  refine k_iinc (i := 5) (lv' := fun x => [(5, .int x), (0, .ref (ad 17)), (1, .int x1), (2, .int x2), (3, .int x3), (4, .int x4)]) dX0_settle_86 5 rfl (Nat.le_of_ble_eq_true rfl) (fun _ => rfl) h (fun x5_11 h => ?_)
  refine k_goto 21 dX0_settle_89 (by decide) ?_
  refine k_sub [1, 2, 3, 4, 5, 0] rfl ?_
  exact hk21 _ _ _ _ _ _ _ h
set_option maxHeartbeats 4000000 in
set_option maxRecDepth 100000 in
theorem wlp_X0_settle_21 {l : Launch} {D : va_G} {cI cB cJ cZ : ClassId} {ad : Nat → Nat} {ws : va_W} {z : Nat} {g_size : Int32} {g_heads : Nat → Int32} {g_lengths : Nat → Int32} {g_symbols : Nat → Int32} (E : ws[1]? = some (ad 1, .inr (2, [.ref (ad 2), .ref (ad 3), .ref (ad 4), .ref (ad 5), .ref (ad 6), .ref (ad 7), .int g_size])) ∧ ws[2]? = some (ad 2, .inl (cI, 20, .inl g_heads)) ∧ ws[3]? = some (ad 3, .inl (cI, 20, .inl g_lengths)) ∧ ws[4]? = some (ad 4, .inl (cI, 100, .inl g_symbols)) ∧ ws[17]? = some (ad 17, .inr (0, [.ref (ad 1), .ref (ad 9), .ref (ad 18), .ref (ad 19), .ref (ad 20), .ref (ad 21)]))) {o : (Nat → Int64) × (Nat → Int64)} {k92 : (Int32) → (Int32) → (Int32) → (Int32) → (Nat → Int64) → (Nat → Int64) → Option ((Nat → Int64) × (Nat → Int64))} (hk92 : ∀ (x1 : Int32) (x2 : Int32) (x3 : Int32) (x4 : Int32) (h_prices : Nat → Int64) (h_begun : Nat → Int64), k92 x1 x2 x3 x4 h_prices h_begun = some o → KW l xX0_settle D (kT cI cB cJ cZ) ws z (kQv D (kT cI cB cJ cZ) [(18, (ad 18, .inl (cJ, 4046, .inr (.inl o.1)))), (20, (ad 20, .inl (cJ, 2040, .inr (.inl o.2))))] ws z) 92 [(0, .ref (ad 17)), (1, .int x1), (2, .int x2), (3, .int x3), (4, .int x4)] [] [(18, (ad 18, .inl (cJ, 4046, .inr (.inl h_prices)))), (20, (ad 20, .inl (cJ, 2040, .inr (.inl h_begun))))]) : ∀ (n : Nat) (x1 : Int32) (x2 : Int32) (x3 : Int32) (x4 : Int32) (x5 : Int32) (h_prices : Nat → Int64) (h_begun : Nat → Int64), lp_X0_settle_21 g_size g_heads g_lengths g_symbols k92 n x1 x2 x3 x4 x5 h_prices h_begun = some o → KW l xX0_settle D (kT cI cB cJ cZ) ws z (kQv D (kT cI cB cJ cZ) [(18, (ad 18, .inl (cJ, 4046, .inr (.inl o.1)))), (20, (ad 20, .inl (cJ, 2040, .inr (.inl o.2))))] ws z) 21 [(0, .ref (ad 17)), (1, .int x1), (2, .int x2), (3, .int x3), (4, .int x4), (5, .int x5)] [] [(18, (ad 18, .inl (cJ, 4046, .inr (.inl h_prices)))), (20, (ad 20, .inl (cJ, 2040, .inr (.inl h_begun))))] := by
  intro n
  induction n with
  | zero => intro x1 x2 x3 x4 x5 h_prices h_begun h; exact absurd h (by simp [lp_X0_settle_21])
  | succ n hk21 =>
    intro x1 x2 x3 x4 x5 h_prices h_begun h
    unfold lp_X0_settle_21 at h
    refine k_iload dX0_settle_21 5 rfl ?_
    refine k_aload_n dX0_settle_23 0 rfl rfl ?_
    refine k_get 17 0 E.2.2.2.2 rfl qX0_settle_wX0 (by decide) qX0_settle_f25 rfl dX0_settle_24 ?_
    refine k_getN 1 6 E.1 rfl qX0_settle_wX2 (by decide) (host := "KindParser") (by decide +kernel) rfl dX0_settle_27 ?_
    refine k_icmp_ge 92 dX0_settle_30 (by decide) h (fun h => ?_) (fun h => ?_)
    · skip
      refine k_sub [0, 1, 2, 3, 4] rfl ?_
      exact hk92 _ _ _ _ _ _ h
    · skip
      refine k_aload_n dX0_settle_33 0 rfl rfl ?_
      refine k_get 17 0 E.2.2.2.2 rfl qX0_settle_wX0 (by decide) qX0_settle_f25 rfl dX0_settle_34 ?_
      refine k_getN 1 0 E.1 rfl qX0_settle_wX2 (by decide) (host := "KindParser") (by decide +kernel) rfl dX0_settle_37 ?_
      refine k_iload dX0_settle_40 5 rfl ?_
      refine k_iald 2 0 E.2.1 rfl dX0_settle_42 h (fun v5 h => ?_)
      refine k_iload_n dX0_settle_43 1 rfl rfl ?_
      refine k_iload_n dX0_settle_44 2 rfl rfl ?_
      obtain ⟨r6, hr6, h⟩ := Option.bind_eq_some_iff.mp h
      refine k_calliS (As := [.int v5, .int x1, .int x2]) (st := []) (Lc := []) (L' := [(18, (ad 18, .inl (cJ, 4046, .inr (.inl h_prices)))), (20, (ad 20, .inl (cJ, 2040, .inr (.inl h_begun))))]) (r := r6) gX0_settle_X0_spot rfl rfl rfl hySX0_spot ⟨Nat.le_of_ble_eq_true rfl, Nat.le_of_ble_eq_true rfl⟩ rfl rfl (Nat.le_of_ble_eq_true rfl) dX0_settle_45 (fun w z hw => c_X0_spot (cI := cI) (cB := cB) (cJ := cJ) (cZ := cZ) (ad := ad) w z trivial  hr6) rfl rfl ?_
      refine k_istore (i := 6) (lv' := fun x => [(6, .int x), (0, .ref (ad 17)), (1, .int x1), (2, .int x2), (3, .int x3), (4, .int x4), (5, .int x5)]) dX0_settle_48 (Nat.le_of_ble_eq_true rfl) (fun _ => rfl) h (fun x6_7 h => ?_)
      refine k_aload_n dX0_settle_50 1 rfl rfl ?_
      refine k_iload dX0_settle_51 6 rfl ?_
      refine k_iload_n dX0_settle_53 2 rfl rfl ?_
      refine k_iload_n dX0_settle_54 3 rfl rfl ?_
      obtain ⟨r8, hr8, h⟩ := Option.bind_eq_some_iff.mp h
      refine k_calllV (As := [.int x5, .int x1, .int x2]) (st := []) (Lc := [(20, (ad 20, .inl (cJ, 2040, .inr (.inl r8.2))))]) (L' := [(18, (ad 18, .inl (cJ, 4046, .inr (.inl h_prices)))), (20, (ad 20, .inl (cJ, 2040, .inr (.inl r8.2))))]) (r := r8.1) gX0_settle_X0_extend rfl rfl rfl hyVX0_extend ⟨Nat.le_of_ble_eq_true rfl, Nat.le_of_ble_eq_true rfl⟩ rfl rfl (Nat.le_of_ble_eq_true rfl) 17 E.2.2.2.2 rfl dX0_settle_55 (fun w z hw => c_X0_extend (cI := cI) (cB := cB) (cJ := cJ) (cZ := cZ) (ad := ad) w z ⟨((hw 1).trans E.1), ((hw 3).trans E.2.2.1), ((hw 4).trans E.2.2.2.1), ((hw 17).trans E.2.2.2.2), (hw 18)⟩ (hw 20) hr8) rfl rfl ?_
      refine k_lconst (v := 1) dX0_settle_58 (by decide) ?_
      refine k_ladd dX0_settle_59 ?_
      refine k_lstore (i := 7) (lv' := fun x => [(7, .long x), (6, .int x6_7), (0, .ref (ad 17)), (1, .int x1), (2, .int x2), (3, .int x3), (4, .int x4), (5, .int x5)]) dX0_settle_60 (Nat.le_of_ble_eq_true rfl) (fun _ => rfl) h (fun x7_9 h => ?_)
      refine k_lload dX0_settle_62 0 rfl ?_
      refine k_aload_n dX0_settle_64 2 rfl rfl ?_
      refine k_get 17 2 E.2.2.2.2 rfl qX0_settle_wX0 (by decide) qX0_settle_f11 rfl dX0_settle_65 ?_
      refine k_iload dX0_settle_68 1 rfl ?_
      refine k_lald 18 2 rfl rfl dX0_settle_70 h (fun v10 h => ?_)
      refine k_lcmp dX0_settle_71 ?_
      refine k_if_ge 86 dX0_settle_72 (by decide) h (fun h => ?_) (fun h => ?_)
      · skip
        refine k_sub [2, 3, 4, 5, 6, 7] rfl ?_
        exact wjn_X0_settle_86 (cI := cI) (cB := cB) (cJ := cJ) (cZ := cZ) (ad := ad) E hk21 _ _ _ _ _ _ _ h
      · skip
        refine k_aload_n dX0_settle_75 2 rfl rfl ?_
        refine k_get 17 2 E.2.2.2.2 rfl qX0_settle_wX0 (by decide) qX0_settle_f11 rfl dX0_settle_76 ?_
        refine k_iload dX0_settle_79 1 rfl ?_
        refine k_lload dX0_settle_81 0 rfl ?_
        refine k_last (L' := fun f => [(18, (ad 18, .inl (cJ, 4046, .inr (.inl f)))), (20, (ad 20, .inl (cJ, 2040, .inr (.inl r8.2))))]) 18 2 rfl rfl rfl dX0_settle_83 h (fun _ => rfl) (fun h_prices_12 h => ?_)
        refine k_iconst (v := 1) dX0_settle_84 (by decide) ?_
        refine k_istore_n (i := 3) (lv' := fun x => [(3, .int x), (7, .long x7_9), (6, .int x6_7), (0, .ref (ad 17)), (1, .int x1), (2, .int x2), (4, .int x4), (5, .int x5)]) dX0_settle_85 rfl (Nat.le_of_ble_eq_true rfl) (fun _ => rfl) h (fun x3_13 h => ?_)
        refine k_sub [3, 4, 5, 0, 6, 7] rfl ?_
        exact wjn_X0_settle_86 (cI := cI) (cB := cB) (cJ := cJ) (cZ := cZ) (ad := ad) E hk21 _ _ _ _ _ _ _ h
set_option maxHeartbeats 4000000 in
set_option maxRecDepth 100000 in
theorem wlp_X0_settle_5 {l : Launch} {D : va_G} {cI cB cJ cZ : ClassId} {ad : Nat → Nat} {ws : va_W} {z : Nat} {g_size : Int32} {g_heads : Nat → Int32} {g_lengths : Nat → Int32} {g_symbols : Nat → Int32} (E : ws[1]? = some (ad 1, .inr (2, [.ref (ad 2), .ref (ad 3), .ref (ad 4), .ref (ad 5), .ref (ad 6), .ref (ad 7), .int g_size])) ∧ ws[2]? = some (ad 2, .inl (cI, 20, .inl g_heads)) ∧ ws[3]? = some (ad 3, .inl (cI, 20, .inl g_lengths)) ∧ ws[4]? = some (ad 4, .inl (cI, 100, .inl g_symbols)) ∧ ws[17]? = some (ad 17, .inr (0, [.ref (ad 1), .ref (ad 9), .ref (ad 18), .ref (ad 19), .ref (ad 20), .ref (ad 21)]))) {o : (Nat → Int64) × (Nat → Int64)} {k98 : (Nat → Int64) → (Nat → Int64) → Option ((Nat → Int64) × (Nat → Int64))} (hk98 : ∀ (h_prices : Nat → Int64) (h_begun : Nat → Int64), k98 h_prices h_begun = some o → KW l xX0_settle D (kT cI cB cJ cZ) ws z (kQv D (kT cI cB cJ cZ) [(18, (ad 18, .inl (cJ, 4046, .inr (.inl o.1)))), (20, (ad 20, .inl (cJ, 2040, .inr (.inl o.2))))] ws z) 98 [] [] [(18, (ad 18, .inl (cJ, 4046, .inr (.inl h_prices)))), (20, (ad 20, .inl (cJ, 2040, .inr (.inl h_begun))))]) : ∀ (n : Nat) (x1 : Int32) (x2 : Int32) (x3 : Int32) (x4 : Int32) (h_prices : Nat → Int64) (h_begun : Nat → Int64), lp_X0_settle_5 g_size g_heads g_lengths g_symbols k98 n x1 x2 x3 x4 h_prices h_begun = some o → KW l xX0_settle D (kT cI cB cJ cZ) ws z (kQv D (kT cI cB cJ cZ) [(18, (ad 18, .inl (cJ, 4046, .inr (.inl o.1)))), (20, (ad 20, .inl (cJ, 2040, .inr (.inl o.2))))] ws z) 5 [(0, .ref (ad 17)), (1, .int x1), (2, .int x2), (3, .int x3), (4, .int x4)] [] [(18, (ad 18, .inl (cJ, 4046, .inr (.inl h_prices)))), (20, (ad 20, .inl (cJ, 2040, .inr (.inl h_begun))))] := by
  intro n
  induction n with
  | zero => intro x1 x2 x3 x4 h_prices h_begun h; exact absurd h (by simp [lp_X0_settle_5])
  | succ n hk5 =>
    intro x1 x2 x3 x4 h_prices h_begun h
    unfold lp_X0_settle_5 at h
    refine k_iload dX0_settle_5 4 rfl ?_
    refine k_bipush (v := 6) dX0_settle_7 (by decide) ?_
    refine k_icmp_gt 98 dX0_settle_9 (by decide) h (fun h => ?_) (fun h => ?_)
    · skip
      refine k_sub [] rfl ?_
      exact hk98 _ _ h
    · skip
      refine k_iload_n dX0_settle_12 3 rfl rfl ?_
      refine k_if_eq 98 dX0_settle_13 (by decide) h (fun h => ?_) (fun h => ?_)
      · skip
        refine k_sub [] rfl ?_
        exact hk98 _ _ h
      · skip
        refine k_iconst (v := 0) dX0_settle_16 (by decide) ?_
        refine k_istore_n (i := 3) (lv' := fun x => [(3, .int x), (0, .ref (ad 17)), (1, .int x1), (2, .int x2), (4, .int x4)]) dX0_settle_17 rfl (Nat.le_of_ble_eq_true rfl) (fun _ => rfl) h (fun x3_3 h => ?_)
        refine k_iconst (v := 0) dX0_settle_18 (by decide) ?_
        refine k_istore (i := 5) (lv' := fun x => [(5, .int x), (3, .int x3_3), (0, .ref (ad 17)), (1, .int x1), (2, .int x2), (4, .int x4)]) dX0_settle_19 (Nat.le_of_ble_eq_true rfl) (fun _ => rfl) h (fun x5_4 h => ?_)
        refine k_sub [2, 3, 4, 1, 5, 0] rfl ?_
        refine wlp_X0_settle_21 (cI := cI) (cB := cB) (cJ := cJ) (cZ := cZ) (ad := ad) E ?_ FU _ _ _ _ _ _ _ h
        · intro x1 x2 x3 x4 h_prices h_begun h
          refine k_iinc (i := 4) (lv' := fun x => [(4, .int x), (0, .ref (ad 17)), (1, .int x1), (2, .int x2), (3, .int x3)]) dX0_settle_92 4 rfl (Nat.le_of_ble_eq_true rfl) (fun _ => rfl) h (fun x4_14 h => ?_)
          refine k_goto 5 dX0_settle_95 (by decide) ?_
          refine k_sub [1, 2, 3, 4, 0] rfl ?_
          exact hk5 _ _ _ _ _ _ h
set_option maxHeartbeats 4000000 in
set_option maxRecDepth 100000 in
theorem wjn_X0_settle_98 {l : Launch} {D : va_G} {cI cB cJ cZ : ClassId} {ad : Nat → Nat} {ws : va_W} {z : Nat} {g_size : Int32} {g_heads : Nat → Int32} {g_lengths : Nat → Int32} {g_symbols : Nat → Int32} (E : ws[1]? = some (ad 1, .inr (2, [.ref (ad 2), .ref (ad 3), .ref (ad 4), .ref (ad 5), .ref (ad 6), .ref (ad 7), .int g_size])) ∧ ws[2]? = some (ad 2, .inl (cI, 20, .inl g_heads)) ∧ ws[3]? = some (ad 3, .inl (cI, 20, .inl g_lengths)) ∧ ws[4]? = some (ad 4, .inl (cI, 100, .inl g_symbols)) ∧ ws[17]? = some (ad 17, .inr (0, [.ref (ad 1), .ref (ad 9), .ref (ad 18), .ref (ad 19), .ref (ad 20), .ref (ad 21)]))) {o : (Nat → Int64) × (Nat → Int64)}   : ∀ (h_prices : Nat → Int64) (h_begun : Nat → Int64), jn_X0_settle_98 g_size g_heads g_lengths g_symbols h_prices h_begun = some o → KW l xX0_settle D (kT cI cB cJ cZ) ws z (kQv D (kT cI cB cJ cZ) [(18, (ad 18, .inl (cJ, 4046, .inr (.inl o.1)))), (20, (ad 20, .inl (cJ, 2040, .inr (.inl o.2))))] ws z) 98 [] [] [(18, (ad 18, .inl (cJ, 4046, .inr (.inl h_prices)))), (20, (ad 20, .inl (cJ, 2040, .inr (.inl h_begun))))] := by
  intro h_prices h_begun h
  unfold jn_X0_settle_98 at h
  obtain rfl := Option.some.inj h
  exact k_vret rfl dX0_settle_98
set_option maxHeartbeats 4000000 in
set_option maxRecDepth 100000 in
/-- KindParser$Chart.settle -/
theorem c_X0_settle {l : Launch} {D : va_G} {cI cB cJ cZ : ClassId} {ad : Nat → Nat} (ws : va_W) (z : Nat) {g_size : Int32} {g_heads : Nat → Int32} {g_lengths : Nat → Int32} {g_symbols : Nat → Int32} {h_prices : Nat → Int64} {h_begun : Nat → Int64} (E : ws[1]? = some (ad 1, .inr (2, [.ref (ad 2), .ref (ad 3), .ref (ad 4), .ref (ad 5), .ref (ad 6), .ref (ad 7), .int g_size])) ∧ ws[2]? = some (ad 2, .inl (cI, 20, .inl g_heads)) ∧ ws[3]? = some (ad 3, .inl (cI, 20, .inl g_lengths)) ∧ ws[4]? = some (ad 4, .inl (cI, 100, .inl g_symbols)) ∧ ws[17]? = some (ad 17, .inr (0, [.ref (ad 1), .ref (ad 9), .ref (ad 18), .ref (ad 19), .ref (ad 20), .ref (ad 21)]))) (e18 : ws[18]? = some (ad 18, .inl (cJ, 4046, .inr (.inl h_prices)))) (e20 : ws[20]? = some (ad 20, .inl (cJ, 2040, .inr (.inl h_begun)))) {a1 : Int32} {a2 : Int32} {o : (Nat → Int64) × (Nat → Int64)} (h : f_X0_settle a1 a2 g_size g_heads g_lengths g_symbols h_prices h_begun = some o) : Met l yX0_settle wsX0_settle rmX0_settle (kPc D (kT cI cB cJ cZ) [.ref (ad 17), .int a1, .int a2] ws z) (kQv D (kT cI cB cJ cZ) [(18, (ad 18, .inl (cJ, 4046, .inr (.inl o.1)))), (20, (ad 20, .inl (cJ, 2040, .inr (.inl o.2))))] ws z) 0 0 (va_A ws z) := by
  refine KW.met (rm := rmX0_settle) (lv := [(0, .ref (ad 17)), (1, .int a1), (2, .int a2)]) (L := [(18, (ad 18, .inl (cJ, 4046, .inr (.inl h_prices)))), (20, (ad 20, .inl (cJ, 2040, .inr (.inl h_begun))))]) rfl (by decide) (Nat.le_of_ble_eq_true rfl) rfl (by intro q hq; simp only [List.mem_cons, List.not_mem_nil, or_false] at hq; rcases hq with rfl | rfl <;> assumption) ?_
  unfold f_X0_settle at h
  show KW l xX0_settle D (kT cI cB cJ cZ) ws z (kQv D (kT cI cB cJ cZ) [(18, (ad 18, .inl (cJ, 4046, .inr (.inl o.1)))), (20, (ad 20, .inl (cJ, 2040, .inr (.inl o.2))))] ws z) 0 [(0, .ref (ad 17)), (1, .int a1), (2, .int a2)] [] [(18, (ad 18, .inl (cJ, 4046, .inr (.inl h_prices)))), (20, (ad 20, .inl (cJ, 2040, .inr (.inl h_begun))))]
  refine k_iconst (v := 1) dX0_settle_0 (by decide) ?_
  refine k_istore_n (i := 3) (lv' := fun x => [(3, .int x), (0, .ref (ad 17)), (1, .int a1), (2, .int a2)]) dX0_settle_1 rfl (Nat.le_of_ble_eq_true rfl) (fun _ => rfl) h (fun x3_1 h => ?_)
  refine k_iconst (v := 0) dX0_settle_2 (by decide) ?_
  refine k_istore (i := 4) (lv' := fun x => [(4, .int x), (3, .int x3_1), (0, .ref (ad 17)), (1, .int a1), (2, .int a2)]) dX0_settle_3 (Nat.le_of_ble_eq_true rfl) (fun _ => rfl) h (fun x4_2 h => ?_)
  refine k_sub [2, 3, 4, 1, 0] rfl ?_
  refine wlp_X0_settle_5 (cI := cI) (cB := cB) (cJ := cJ) (cZ := cZ) (ad := ad) E ?_ FU _ _ _ _ _ _ h
  · intro h_prices h_begun h
    refine k_sub [] rfl ?_
    exact wjn_X0_settle_98 (cI := cI) (cB := cB) (cJ := cJ) (cZ := cZ) (ad := ad) E  _ _ h
abbrev rmX0_choose : Room := { frames := 1, cells := 0, slots := 0, locals := 22 }
abbrev xX0_choose : KX := (rmX0_choose, cX0_choose, 7, none, RX0, wsX0_choose)
theorem hySX0_choose : yX0_choose.cls ≠ "java/lang/invoke/MethodHandle" ∧ yX0_choose.cls ≠ "java/lang/invoke/VarHandle" ∧ (parseMethodDescriptor yX0_choose.desc).map (fun d => d.parameters.length) = some 2 := by decide +kernel
theorem hyVX0_choose : yX0_choose.cls = RX0 ∧ yX0_choose.cls ≠ "java/lang/invoke/MethodHandle" ∧ yX0_choose.cls ≠ "java/lang/invoke/VarHandle" ∧ (parseMethodDescriptor yX0_choose.desc).map (fun d => d.parameters.length) = some 2 := ⟨rfl, hySX0_choose⟩
theorem qX0_choose_wX0 : ∀ w ∈ u_ws RX0 TX0 6, w ∈ wsX0_choose := by decide +kernel
theorem qX0_choose_f25 : Cond.fieldLink RX0 25 "KindParser$Chart" "grammar" "LKindParser$Grammar;" ∈ wsX0_choose := by decide +kernel
theorem qX0_choose_wX2 : ∀ w ∈ u_ws RX2 TX2 7, w ∈ wsX0_choose := by decide +kernel
theorem qX0_choose_f19 : Cond.fieldLink RX0 19 "KindParser$Chart" "begun" "[J" ∈ wsX0_choose := by decide +kernel
theorem qX0_choose_k65 : Cond.constantLong RX0 65 1152921504606846976 ∈ wsX0_choose := by decide +kernel
theorem qX0_choose_f11 : Cond.fieldLink RX0 11 "KindParser$Chart" "prices" "[J" ∈ wsX0_choose := by decide +kernel
theorem qX0_choose_f15 : Cond.fieldLink RX0 15 "KindParser$Chart" "choices" "[B" ∈ wsX0_choose := by decide +kernel
set_option maxHeartbeats 4000000 in
set_option maxRecDepth 100000 in
theorem wjn_X0_choose_90 {l : Launch} {D : va_G} {cI cB cJ cZ : ClassId} {ad : Nat → Nat} {ws : va_W} {z : Nat} {g_size : Int32} {g_heads : Nat → Int32} {g_lengths : Nat → Int32} {h_prices : Nat → Int64} {h_begun : Nat → Int64} (E : ws[1]? = some (ad 1, .inr (2, [.ref (ad 2), .ref (ad 3), .ref (ad 4), .ref (ad 5), .ref (ad 6), .ref (ad 7), .int g_size])) ∧ ws[2]? = some (ad 2, .inl (cI, 20, .inl g_heads)) ∧ ws[3]? = some (ad 3, .inl (cI, 20, .inl g_lengths)) ∧ ws[17]? = some (ad 17, .inr (0, [.ref (ad 1), .ref (ad 9), .ref (ad 18), .ref (ad 19), .ref (ad 20), .ref (ad 21)])) ∧ ws[18]? = some (ad 18, .inl (cJ, 4046, .inr (.inl h_prices))) ∧ ws[20]? = some (ad 20, .inl (cJ, 2040, .inr (.inl h_begun)))) {o : (Nat → Int32)} {k10 : (Int32) → (Int32) → (Int32) → (Nat → Int32) → Option ((Nat → Int32))} (hk10 : ∀ (x1 : Int32) (x2 : Int32) (x3 : Int32) (h_choices : Nat → Int32), k10 x1 x2 x3 h_choices = some o → KW l xX0_choose D (kT cI cB cJ cZ) ws z (kQv D (kT cI cB cJ cZ) [(19, (ad 19, .inl (cB, 1734, .inl o)))] ws z) 10 [(0, .ref (ad 17)), (1, .int x1), (2, .int x2), (3, .int x3)] [] [(19, (ad 19, .inl (cB, 1734, .inl h_choices)))]) : ∀ (x1 : Int32) (x2 : Int32) (x3 : Int32) (h_choices : Nat → Int32), jn_X0_choose_90 g_size g_heads g_lengths h_prices h_begun k10 x1 x2 x3 h_choices = some o → KW l xX0_choose D (kT cI cB cJ cZ) ws z (kQv D (kT cI cB cJ cZ) [(19, (ad 19, .inl (cB, 1734, .inl o)))] ws z) 90 [(0, .ref (ad 17)), (1, .int x1), (2, .int x2), (3, .int x3)] [] [(19, (ad 19, .inl (cB, 1734, .inl h_choices)))] := by
  intro x1 x2 x3 h_choices h
  unfold jn_X0_choose_90 at h
  refine k_iinc (i := 3) (lv' := fun x => [(3, .int x), (0, .ref (ad 17)), (1, .int x1), (2, .int x2)]) dX0_choose_90 3 rfl (Nat.le_of_ble_eq_true rfl) (fun _ => rfl) h (fun x3_8 h => ?_)
  refine k_goto 10 dX0_choose_93 (by decide) ?_
  refine k_sub [1, 2, 3, 0] rfl ?_
  exact hk10 _ _ _ _ h
set_option maxHeartbeats 4000000 in
set_option maxRecDepth 100000 in
theorem wlp_X0_choose_10 {l : Launch} {D : va_G} {cI cB cJ cZ : ClassId} {ad : Nat → Nat} {ws : va_W} {z : Nat} {g_size : Int32} {g_heads : Nat → Int32} {g_lengths : Nat → Int32} {h_prices : Nat → Int64} {h_begun : Nat → Int64} (E : ws[1]? = some (ad 1, .inr (2, [.ref (ad 2), .ref (ad 3), .ref (ad 4), .ref (ad 5), .ref (ad 6), .ref (ad 7), .int g_size])) ∧ ws[2]? = some (ad 2, .inl (cI, 20, .inl g_heads)) ∧ ws[3]? = some (ad 3, .inl (cI, 20, .inl g_lengths)) ∧ ws[17]? = some (ad 17, .inr (0, [.ref (ad 1), .ref (ad 9), .ref (ad 18), .ref (ad 19), .ref (ad 20), .ref (ad 21)])) ∧ ws[18]? = some (ad 18, .inl (cJ, 4046, .inr (.inl h_prices))) ∧ ws[20]? = some (ad 20, .inl (cJ, 2040, .inr (.inl h_begun)))) {o : (Nat → Int32)} {k96 : (Nat → Int32) → Option ((Nat → Int32))} (hk96 : ∀ (h_choices : Nat → Int32), k96 h_choices = some o → KW l xX0_choose D (kT cI cB cJ cZ) ws z (kQv D (kT cI cB cJ cZ) [(19, (ad 19, .inl (cB, 1734, .inl o)))] ws z) 96 [] [] [(19, (ad 19, .inl (cB, 1734, .inl h_choices)))]) : ∀ (n : Nat) (x1 : Int32) (x2 : Int32) (x3 : Int32) (h_choices : Nat → Int32), lp_X0_choose_10 g_size g_heads g_lengths h_prices h_begun k96 n x1 x2 x3 h_choices = some o → KW l xX0_choose D (kT cI cB cJ cZ) ws z (kQv D (kT cI cB cJ cZ) [(19, (ad 19, .inl (cB, 1734, .inl o)))] ws z) 10 [(0, .ref (ad 17)), (1, .int x1), (2, .int x2), (3, .int x3)] [] [(19, (ad 19, .inl (cB, 1734, .inl h_choices)))] := by
  intro n
  induction n with
  | zero => intro x1 x2 x3 h_choices h; exact absurd h (by simp [lp_X0_choose_10])
  | succ n hk10 =>
    intro x1 x2 x3 h_choices h
    unfold lp_X0_choose_10 at h
    refine k_iload_n dX0_choose_10 3 rfl rfl ?_
    refine k_if_lt 96 dX0_choose_11 (by decide) h (fun h => ?_) (fun h => ?_)
    · skip
      refine k_sub [] rfl ?_
      exact hk96 _ h
    · skip
      refine k_aload_n dX0_choose_14 0 rfl rfl ?_
      refine k_get 17 0 E.2.2.2.1 rfl qX0_choose_wX0 (by decide) qX0_choose_f25 rfl dX0_choose_15 ?_
      refine k_getN 1 0 E.1 rfl qX0_choose_wX2 (by decide) (host := "KindParser") (by decide +kernel) rfl dX0_choose_18 ?_
      refine k_iload_n dX0_choose_21 3 rfl rfl ?_
      refine k_iald 2 0 E.2.1 rfl dX0_choose_22 h (fun v2 h => ?_)
      refine k_istore (i := 4) (lv' := fun x => [(4, .int x), (0, .ref (ad 17)), (1, .int x1), (2, .int x2), (3, .int x3)]) dX0_choose_23 (Nat.le_of_ble_eq_true rfl) (fun _ => rfl) h (fun x4_3 h => ?_)
      refine k_aload_n dX0_choose_25 1 rfl rfl ?_
      refine k_get 17 4 E.2.2.2.1 rfl qX0_choose_wX0 (by decide) qX0_choose_f19 rfl dX0_choose_26 ?_
      refine k_iload_n dX0_choose_29 4 rfl rfl ?_
      refine k_aload_n dX0_choose_30 1 rfl rfl ?_
      refine k_get 17 0 E.2.2.2.1 rfl qX0_choose_wX0 (by decide) qX0_choose_f25 rfl dX0_choose_31 ?_
      refine k_getN 1 1 E.1 rfl qX0_choose_wX2 (by decide) (host := "KindParser") (by decide +kernel) rfl dX0_choose_34 ?_
      refine k_iload_n dX0_choose_37 4 rfl rfl ?_
      refine k_iald 3 0 E.2.2.1 rfl dX0_choose_38 h (fun v4 h => ?_)
      obtain ⟨r5, hr5, h⟩ := Option.bind_eq_some_iff.mp h
      refine k_calliS (As := [.int x3, .int v4]) (st := [.ref (ad 20)]) (Lc := []) (L' := [(19, (ad 19, .inl (cB, 1734, .inl h_choices)))]) (r := r5) gX0_choose_X0_begunRow rfl rfl rfl hySX0_begunRow ⟨Nat.le_of_ble_eq_true rfl, Nat.le_of_ble_eq_true rfl⟩ rfl rfl (Nat.le_of_ble_eq_true rfl) dX0_choose_39 (fun w z hw => c_X0_begunRow (cI := cI) (cB := cB) (cJ := cJ) (cZ := cZ) (ad := ad) w z trivial  hr5) rfl rfl ?_
      refine k_iload_n dX0_choose_42 3 rfl rfl ?_
      refine k_iadd dX0_choose_43 ?_
      refine k_lald 20 2 E.2.2.2.2.2 rfl dX0_choose_44 h (fun v6 h => ?_)
      refine k_lconst (v := 1) dX0_choose_45 (by decide) ?_
      refine k_ladd dX0_choose_46 ?_
      refine k_lstore (i := 5) (lv' := fun x => [(5, .long x), (4, .int x4_3), (0, .ref (ad 17)), (1, .int x1), (2, .int x2), (3, .int x3)]) dX0_choose_47 (Nat.le_of_ble_eq_true rfl) (fun _ => rfl) h (fun x5_7 h => ?_)
      refine k_lload dX0_choose_49 0 rfl ?_
      refine k_ldc2 (v := 1152921504606846976) dX0_choose_51 qX0_choose_k65 ?_
      refine k_lcmp dX0_choose_54 ?_
      refine k_if_ge 90 dX0_choose_55 (by decide) h (fun h => ?_) (fun h => ?_)
      · skip
        refine k_sub [2, 3, 4, 5] rfl ?_
        exact wjn_X0_choose_90 (cI := cI) (cB := cB) (cJ := cJ) (cZ := cZ) (ad := ad) E hk10 _ _ _ _ h
      · skip
        refine k_lload dX0_choose_58 0 rfl ?_
        refine k_aload_n dX0_choose_60 2 rfl rfl ?_
        refine k_get 17 2 E.2.2.2.1 rfl qX0_choose_wX0 (by decide) qX0_choose_f11 rfl dX0_choose_61 ?_
        refine k_iload dX0_choose_64 1 rfl ?_
        refine k_iload_n dX0_choose_66 3 rfl rfl ?_
        refine k_iload_n dX0_choose_67 4 rfl rfl ?_
        obtain ⟨r9, hr9, h⟩ := Option.bind_eq_some_iff.mp h
        refine k_calliS (As := [.int x4_3, .int x1, .int x2]) (st := [.ref (ad 18), .long x5_7]) (Lc := []) (L' := [(19, (ad 19, .inl (cB, 1734, .inl h_choices)))]) (r := r9) gX0_choose_X0_spot rfl rfl rfl hySX0_spot ⟨Nat.le_of_ble_eq_true rfl, Nat.le_of_ble_eq_true rfl⟩ rfl rfl (Nat.le_of_ble_eq_true rfl) dX0_choose_68 (fun w z hw => c_X0_spot (cI := cI) (cB := cB) (cJ := cJ) (cZ := cZ) (ad := ad) w z trivial  hr9) rfl rfl ?_
        refine k_lald 18 2 E.2.2.2.2.1 rfl dX0_choose_71 h (fun v10 h => ?_)
        refine k_lcmp dX0_choose_72 ?_
        refine k_if_ne 90 dX0_choose_73 (by decide) h (fun h => ?_) (fun h => ?_)
        · skip
          refine k_aload_n dX0_choose_76 2 rfl rfl ?_
          refine k_get 17 3 E.2.2.2.1 rfl qX0_choose_wX0 (by decide) qX0_choose_f15 rfl dX0_choose_77 ?_
          refine k_iload dX0_choose_80 1 rfl ?_
          refine k_iload_n dX0_choose_82 3 rfl rfl ?_
          refine k_iload_n dX0_choose_83 4 rfl rfl ?_
          obtain ⟨r11, hr11, h⟩ := Option.bind_eq_some_iff.mp h
          refine k_calliS (As := [.int x4_3, .int x1, .int x2]) (st := [.ref (ad 19)]) (Lc := []) (L' := [(19, (ad 19, .inl (cB, 1734, .inl h_choices)))]) (r := r11) gX0_choose_X0_choiceSpot rfl rfl rfl hySX0_choiceSpot ⟨Nat.le_of_ble_eq_true rfl, Nat.le_of_ble_eq_true rfl⟩ rfl rfl (Nat.le_of_ble_eq_true rfl) dX0_choose_84 (fun w z hw => c_X0_choiceSpot (cI := cI) (cB := cB) (cJ := cJ) (cZ := cZ) (ad := ad) w z trivial  hr11) rfl rfl ?_
          refine k_iload_n dX0_choose_87 5 rfl rfl ?_
          refine k_i2b dX0_choose_88 ?_
          refine k_bast (L' := fun f => [(19, (ad 19, .inl (cB, 1734, .inl f)))]) 19 1 rfl rfl rfl dX0_choose_89 h (fun _ => rfl) (fun h_choices_12 h => ?_)
          refine k_sub [2, 3, 4, 5] rfl ?_
          exact wjn_X0_choose_90 (cI := cI) (cB := cB) (cJ := cJ) (cZ := cZ) (ad := ad) E hk10 _ _ _ _ h
        · skip
          refine k_sub [2, 3, 4, 5] rfl ?_
          exact wjn_X0_choose_90 (cI := cI) (cB := cB) (cJ := cJ) (cZ := cZ) (ad := ad) E hk10 _ _ _ _ h
set_option maxHeartbeats 4000000 in
set_option maxRecDepth 100000 in
/-- KindParser$Chart.choose -/
theorem c_X0_choose {l : Launch} {D : va_G} {cI cB cJ cZ : ClassId} {ad : Nat → Nat} (ws : va_W) (z : Nat) {g_size : Int32} {g_heads : Nat → Int32} {g_lengths : Nat → Int32} {h_prices : Nat → Int64} {h_choices : Nat → Int32} {h_begun : Nat → Int64} (E : ws[1]? = some (ad 1, .inr (2, [.ref (ad 2), .ref (ad 3), .ref (ad 4), .ref (ad 5), .ref (ad 6), .ref (ad 7), .int g_size])) ∧ ws[2]? = some (ad 2, .inl (cI, 20, .inl g_heads)) ∧ ws[3]? = some (ad 3, .inl (cI, 20, .inl g_lengths)) ∧ ws[17]? = some (ad 17, .inr (0, [.ref (ad 1), .ref (ad 9), .ref (ad 18), .ref (ad 19), .ref (ad 20), .ref (ad 21)])) ∧ ws[18]? = some (ad 18, .inl (cJ, 4046, .inr (.inl h_prices))) ∧ ws[20]? = some (ad 20, .inl (cJ, 2040, .inr (.inl h_begun)))) (e19 : ws[19]? = some (ad 19, .inl (cB, 1734, .inl h_choices))) {a1 : Int32} {a2 : Int32} {o : (Nat → Int32)} (h : f_X0_choose a1 a2 g_size g_heads g_lengths h_prices h_begun h_choices = some o) : Met l yX0_choose wsX0_choose rmX0_choose (kPc D (kT cI cB cJ cZ) [.ref (ad 17), .int a1, .int a2] ws z) (kQv D (kT cI cB cJ cZ) [(19, (ad 19, .inl (cB, 1734, .inl o)))] ws z) 0 0 (va_A ws z) := by
  refine KW.met (rm := rmX0_choose) (lv := [(0, .ref (ad 17)), (1, .int a1), (2, .int a2)]) (L := [(19, (ad 19, .inl (cB, 1734, .inl h_choices)))]) rfl (by decide) (Nat.le_of_ble_eq_true rfl) rfl (by intro q hq; simp only [List.mem_cons, List.not_mem_nil, or_false] at hq; rcases hq with rfl <;> assumption) ?_
  unfold f_X0_choose at h
  show KW l xX0_choose D (kT cI cB cJ cZ) ws z (kQv D (kT cI cB cJ cZ) [(19, (ad 19, .inl (cB, 1734, .inl o)))] ws z) 0 [(0, .ref (ad 17)), (1, .int a1), (2, .int a2)] [] [(19, (ad 19, .inl (cB, 1734, .inl h_choices)))]
  refine k_aload_n dX0_choose_0 0 rfl rfl ?_
  refine k_get 17 0 E.2.2.2.1 rfl qX0_choose_wX0 (by decide) qX0_choose_f25 rfl dX0_choose_1 ?_
  refine k_getN 1 6 E.1 rfl qX0_choose_wX2 (by decide) (host := "KindParser") (by decide +kernel) rfl dX0_choose_4 ?_
  refine k_iconst (v := 1) dX0_choose_7 (by decide) ?_
  refine k_isub dX0_choose_8 ?_
  refine k_istore_n (i := 3) (lv' := fun x => [(3, .int x), (0, .ref (ad 17)), (1, .int a1), (2, .int a2)]) dX0_choose_9 rfl (Nat.le_of_ble_eq_true rfl) (fun _ => rfl) h (fun x3_1 h => ?_)
  refine k_sub [1, 2, 3, 0] rfl ?_
  refine wlp_X0_choose_10 (cI := cI) (cB := cB) (cJ := cJ) (cZ := cZ) (ad := ad) E ?_ FU _ _ _ _ h
  · intro h_choices h
    obtain rfl := Option.some.inj h
    exact k_vret rfl dX0_choose_96
