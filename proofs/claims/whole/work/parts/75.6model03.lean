abbrev rmX6_fill : Room := { frames := 1, cells := 0, slots := 0, locals := 23 }
abbrev xX6_fill : KX := (rmX6_fill, cX6_fill, 11, none, RX6, wsX6_fill)
theorem hySX6_fill : yX6_fill.cls ≠ "java/lang/invoke/MethodHandle" ∧ yX6_fill.cls ≠ "java/lang/invoke/VarHandle" ∧ (parseMethodDescriptor yX6_fill.desc).map (fun d => d.parameters.length) = some 2 := by decide +kernel
theorem hyVX6_fill : yX6_fill.cls = RX6 ∧ yX6_fill.cls ≠ "java/lang/invoke/MethodHandle" ∧ yX6_fill.cls ≠ "java/lang/invoke/VarHandle" ∧ (parseMethodDescriptor yX6_fill.desc).map (fun d => d.parameters.length) = some 2 := ⟨rfl, hySX6_fill⟩
theorem qX6_fill_wX6 : ∀ w ∈ u_ws RX6 TX6 43, w ∈ wsX6_fill := by decide +kernel
theorem qX6_fill_f126 : Cond.fieldLink RX6 126 "KindParserModel" "tokens" "I" ∈ wsX6_fill := by decide +kernel
theorem qX6_fill_f54 : Cond.fieldLink RX6 54 "KindParserModel" "row" "[J" ∈ wsX6_fill := by decide +kernel
theorem qX6_fill_k138 : Cond.constantLong RX6 138 1152921504606846976 ∈ wsX6_fill := by decide +kernel
theorem qX6_fill_f13 : Cond.fieldLink RX6 13 "KindParserModel" "size" "[I" ∈ wsX6_fill := by decide +kernel
theorem qX6_fill_f16 : Cond.fieldLink RX6 16 "KindParserModel" "symbol" "[I" ∈ wsX6_fill := by decide +kernel
set_option maxHeartbeats 4000000 in
set_option maxRecDepth 100000 in
theorem wjn_X6_fill_27 {l : Launch} {D : va_G} {cI cB cJ cZ : ClassId} {ad : Nat → Nat} {ws : va_W} {z : Nat} {m_thrown : Int32} {m_rules : Int32} {m_length : Int32} {m_tree : Int32} {m_tokens : Int32} {m_comments : Int32} {m_parts : Int32} {m_end : Int32} {m_open : Int32} {m_column : Int32} {m_printed : Int32} {m_repaired : Int32} {m_paid : Int32} {m_size : Nat → Int32} {m_symbol : Nat → Int32} {m_sign : Nat → Int32} {m_best : Nat → Int64} (E : ws[37]? = some (ad 37, .inr (6, [.int m_thrown, .int m_rules, .ref (ad 38), .ref (ad 39), .ref (ad 40), .ref (ad 41), .ref (ad 42), .int m_length, .ref (ad 43), .int m_tree, .ref (ad 44), .int m_tokens, .ref (ad 45), .ref (ad 46), .ref (ad 47), .int m_comments, .ref (ad 48), .ref (ad 49), .ref (ad 50), .ref (ad 51), .ref (ad 52), .ref (ad 53), .int m_parts, .ref (ad 54), .ref (ad 55), .ref (ad 56), .ref (ad 57), .ref (ad 58), .ref (ad 59), .ref (ad 60), .ref (ad 61), .int m_end, .int m_open, .ref (ad 62), .ref (ad 63), .ref (ad 64), .ref (ad 65), .ref (ad 66), .int m_column, .int m_printed, .ref (ad 67), .int m_repaired, .int m_paid])) ∧ ws[39]? = some (ad 39, .inl (cI, 20, .inl m_size)) ∧ ws[40]? = some (ad 40, .inl (cI, 100, .inl m_symbol)) ∧ ws[47]? = some (ad 47, .inl (cI, 17, .inl m_sign)) ∧ ws[51]? = some (ad 51, .inl (cJ, 1734, .inr (.inl m_best)))) {o : (Nat → Int64)} {k2 : (Int32) → (Int32) → (Int32) → (Nat → Int64) → Option ((Nat → Int64))} (hk2 : ∀ (x1 : Int32) (x2 : Int32) (x3 : Int32) (m_row : Nat → Int64), k2 x1 x2 x3 m_row = some o → KW l xX6_fill D (kT cI cB cJ cZ) ws z (kQv D (kT cI cB cJ cZ) [(52, (ad 52, .inl (cJ, 102, .inr (.inl o))))] ws z) 2 [(0, .ref (ad 37)), (1, .int x1), (2, .int x2), (3, .int x3)] [] [(52, (ad 52, .inl (cJ, 102, .inr (.inl m_row))))]) : ∀ (x1 : Int32) (x2 : Int32) (x3 : Int32) (s1 : Int32) (s2 : Int64) (m_row : Nat → Int64), jn_X6_fill_27 m_tokens m_size m_symbol m_sign m_best k2 x1 x2 x3 s1 s2 m_row = some o → KW l xX6_fill D (kT cI cB cJ cZ) ws z (kQv D (kT cI cB cJ cZ) [(52, (ad 52, .inl (cJ, 102, .inr (.inl o))))] ws z) 27 [(0, .ref (ad 37)), (1, .int x1), (2, .int x2), (3, .int x3)] [.long s2, .int s1, .ref (ad 52)] [(52, (ad 52, .inl (cJ, 102, .inr (.inl m_row))))] := by
  intro x1 x2 x3 s1 s2 m_row h
  unfold jn_X6_fill_27 at h
  refine k_last (L' := fun f => [(52, (ad 52, .inl (cJ, 102, .inr (.inl f))))]) 52 2 rfl rfl rfl dX6_fill_27 h (fun _ => rfl) (fun m_row_2 h => ?_)
  refine k_iinc (i := 3) (lv' := fun x => [(3, .int x), (0, .ref (ad 37)), (1, .int x1), (2, .int x2)]) dX6_fill_28 3 rfl (Nat.le_of_ble_eq_true rfl) (fun _ => rfl) h (fun x3_3 h => ?_)
  refine k_goto 2 dX6_fill_31 (by decide) ?_
  refine k_sub [1, 2, 3, 0] rfl ?_
  exact hk2 _ _ _ _ h
set_option maxHeartbeats 4000000 in
set_option maxRecDepth 100000 in
theorem wlp_X6_fill_2 {l : Launch} {D : va_G} {cI cB cJ cZ : ClassId} {ad : Nat → Nat} {ws : va_W} {z : Nat} {m_thrown : Int32} {m_rules : Int32} {m_length : Int32} {m_tree : Int32} {m_tokens : Int32} {m_comments : Int32} {m_parts : Int32} {m_end : Int32} {m_open : Int32} {m_column : Int32} {m_printed : Int32} {m_repaired : Int32} {m_paid : Int32} {m_size : Nat → Int32} {m_symbol : Nat → Int32} {m_sign : Nat → Int32} {m_best : Nat → Int64} (E : ws[37]? = some (ad 37, .inr (6, [.int m_thrown, .int m_rules, .ref (ad 38), .ref (ad 39), .ref (ad 40), .ref (ad 41), .ref (ad 42), .int m_length, .ref (ad 43), .int m_tree, .ref (ad 44), .int m_tokens, .ref (ad 45), .ref (ad 46), .ref (ad 47), .int m_comments, .ref (ad 48), .ref (ad 49), .ref (ad 50), .ref (ad 51), .ref (ad 52), .ref (ad 53), .int m_parts, .ref (ad 54), .ref (ad 55), .ref (ad 56), .ref (ad 57), .ref (ad 58), .ref (ad 59), .ref (ad 60), .ref (ad 61), .int m_end, .int m_open, .ref (ad 62), .ref (ad 63), .ref (ad 64), .ref (ad 65), .ref (ad 66), .int m_column, .int m_printed, .ref (ad 67), .int m_repaired, .int m_paid])) ∧ ws[39]? = some (ad 39, .inl (cI, 20, .inl m_size)) ∧ ws[40]? = some (ad 40, .inl (cI, 100, .inl m_symbol)) ∧ ws[47]? = some (ad 47, .inl (cI, 17, .inl m_sign)) ∧ ws[51]? = some (ad 51, .inl (cJ, 1734, .inr (.inl m_best)))) {o : (Nat → Int64)} {k34 : (Int32) → (Int32) → (Nat → Int64) → Option ((Nat → Int64))} (hk34 : ∀ (x1 : Int32) (x2 : Int32) (m_row : Nat → Int64), k34 x1 x2 m_row = some o → KW l xX6_fill D (kT cI cB cJ cZ) ws z (kQv D (kT cI cB cJ cZ) [(52, (ad 52, .inl (cJ, 102, .inr (.inl o))))] ws z) 34 [(0, .ref (ad 37)), (1, .int x1), (2, .int x2)] [] [(52, (ad 52, .inl (cJ, 102, .inr (.inl m_row))))]) : ∀ (n : Nat) (x1 : Int32) (x2 : Int32) (x3 : Int32) (m_row : Nat → Int64), lp_X6_fill_2 m_tokens m_size m_symbol m_sign m_best k34 n x1 x2 x3 m_row = some o → KW l xX6_fill D (kT cI cB cJ cZ) ws z (kQv D (kT cI cB cJ cZ) [(52, (ad 52, .inl (cJ, 102, .inr (.inl o))))] ws z) 2 [(0, .ref (ad 37)), (1, .int x1), (2, .int x2), (3, .int x3)] [] [(52, (ad 52, .inl (cJ, 102, .inr (.inl m_row))))] := by
  intro n
  induction n with
  | zero => intro x1 x2 x3 m_row h; exact absurd h (by simp [lp_X6_fill_2])
  | succ n hk2 =>
    intro x1 x2 x3 m_row h
    unfold lp_X6_fill_2 at h
    refine k_iload_n dX6_fill_2 3 rfl rfl ?_
    refine k_aload_n dX6_fill_3 0 rfl rfl ?_
    refine k_get 37 11 E.1 rfl qX6_fill_wX6 (by decide) qX6_fill_f126 rfl dX6_fill_4 ?_
    refine k_icmp_gt 34 dX6_fill_7 (by decide) h (fun h => ?_) (fun h => ?_)
    · skip
      refine k_sub [0, 1, 2] rfl ?_
      exact hk34 _ _ _ h
    · skip
      refine k_aload_n dX6_fill_10 0 rfl rfl ?_
      refine k_get 37 20 E.1 rfl qX6_fill_wX6 (by decide) qX6_fill_f54 rfl dX6_fill_11 ?_
      refine k_iload_n dX6_fill_14 3 rfl rfl ?_
      refine k_iload_n dX6_fill_15 3 rfl rfl ?_
      refine k_iload_n dX6_fill_16 2 rfl rfl ?_
      refine k_icmp_ne 24 dX6_fill_17 (by decide) h (fun h => ?_) (fun h => ?_)
      · skip
        refine k_lconst (v := 0) dX6_fill_20 (by decide) ?_
        refine k_goto 27 dX6_fill_21 (by decide) ?_
        refine k_sub [0, 1, 2, 3] rfl ?_
        exact wjn_X6_fill_27 (cI := cI) (cB := cB) (cJ := cJ) (cZ := cZ) (ad := ad) E hk2 _ _ _ _ _ _ h
      · skip
        refine k_ldc2 (v := 1152921504606846976) dX6_fill_24 qX6_fill_k138 ?_
        refine k_sub [0, 1, 2, 3] rfl ?_
        exact wjn_X6_fill_27 (cI := cI) (cB := cB) (cJ := cJ) (cZ := cZ) (ad := ad) E hk2 _ _ _ _ _ _ h
set_option maxHeartbeats 4000000 in
set_option maxRecDepth 100000 in
theorem wjn_X6_fill_131 {l : Launch} {D : va_G} {cI cB cJ cZ : ClassId} {ad : Nat → Nat} {ws : va_W} {z : Nat} {m_thrown : Int32} {m_rules : Int32} {m_length : Int32} {m_tree : Int32} {m_tokens : Int32} {m_comments : Int32} {m_parts : Int32} {m_end : Int32} {m_open : Int32} {m_column : Int32} {m_printed : Int32} {m_repaired : Int32} {m_paid : Int32} {m_size : Nat → Int32} {m_symbol : Nat → Int32} {m_sign : Nat → Int32} {m_best : Nat → Int64} (E : ws[37]? = some (ad 37, .inr (6, [.int m_thrown, .int m_rules, .ref (ad 38), .ref (ad 39), .ref (ad 40), .ref (ad 41), .ref (ad 42), .int m_length, .ref (ad 43), .int m_tree, .ref (ad 44), .int m_tokens, .ref (ad 45), .ref (ad 46), .ref (ad 47), .int m_comments, .ref (ad 48), .ref (ad 49), .ref (ad 50), .ref (ad 51), .ref (ad 52), .ref (ad 53), .int m_parts, .ref (ad 54), .ref (ad 55), .ref (ad 56), .ref (ad 57), .ref (ad 58), .ref (ad 59), .ref (ad 60), .ref (ad 61), .int m_end, .int m_open, .ref (ad 62), .ref (ad 63), .ref (ad 64), .ref (ad 65), .ref (ad 66), .int m_column, .int m_printed, .ref (ad 67), .int m_repaired, .int m_paid])) ∧ ws[39]? = some (ad 39, .inl (cI, 20, .inl m_size)) ∧ ws[40]? = some (ad 40, .inl (cI, 100, .inl m_symbol)) ∧ ws[47]? = some (ad 47, .inl (cI, 17, .inl m_sign)) ∧ ws[51]? = some (ad 51, .inl (cJ, 1734, .inr (.inl m_best)))) {o : (Nat → Int64)} {k80 : (Int32) → (Int32) → (Int32) → (Int32) → (Int32) → (Int64) → (Int32) → (Nat → Int64) → Option ((Nat → Int64))} (hk80 : ∀ (x1 : Int32) (x2 : Int32) (x3 : Int32) (x4 : Int32) (x5 : Int32) (x6 : Int64) (x8 : Int32) (m_row : Nat → Int64), k80 x1 x2 x3 x4 x5 x6 x8 m_row = some o → KW l xX6_fill D (kT cI cB cJ cZ) ws z (kQv D (kT cI cB cJ cZ) [(52, (ad 52, .inl (cJ, 102, .inr (.inl o))))] ws z) 80 [(0, .ref (ad 37)), (1, .int x1), (2, .int x2), (3, .int x3), (4, .int x4), (5, .int x5), (6, .long x6), (8, .int x8)] [] [(52, (ad 52, .inl (cJ, 102, .inr (.inl m_row))))]) : ∀ (x1 : Int32) (x2 : Int32) (x3 : Int32) (x4 : Int32) (x5 : Int32) (x8 : Int32) (s0 : Int64) (m_row : Nat → Int64), jn_X6_fill_131 m_tokens m_size m_symbol m_sign m_best k80 x1 x2 x3 x4 x5 x8 s0 m_row = some o → KW l xX6_fill D (kT cI cB cJ cZ) ws z (kQv D (kT cI cB cJ cZ) [(52, (ad 52, .inl (cJ, 102, .inr (.inl o))))] ws z) 131 [(0, .ref (ad 37)), (1, .int x1), (2, .int x2), (3, .int x3), (4, .int x4), (5, .int x5), (8, .int x8)] [.long s0] [(52, (ad 52, .inl (cJ, 102, .inr (.inl m_row))))] := by
  intro x1 x2 x3 x4 x5 x8 s0 m_row h
  unfold jn_X6_fill_131 at h
  refine k_lstore (i := 6) (lv' := fun x => [(6, .long x), (0, .ref (ad 37)), (1, .int x1), (2, .int x2), (3, .int x3), (4, .int x4), (5, .int x5), (8, .int x8)]) dX6_fill_131 (Nat.le_of_ble_eq_true rfl) (fun _ => rfl) h (fun x6_15 h => ?_)
  refine k_iinc (i := 8) (lv' := fun x => [(8, .int x), (6, .long x6_15), (0, .ref (ad 37)), (1, .int x1), (2, .int x2), (3, .int x3), (4, .int x4), (5, .int x5)]) dX6_fill_133 7 rfl (Nat.le_of_ble_eq_true rfl) (fun _ => rfl) h (fun x8_16 h => ?_)
  refine k_goto 80 dX6_fill_136 (by decide) ?_
  refine k_sub [2, 3, 4, 5, 6, 7, 1, 0] rfl ?_
  exact hk80 _ _ _ _ _ _ _ _ h
set_option maxHeartbeats 4000000 in
set_option maxRecDepth 100000 in
theorem wlp_X6_fill_80 {l : Launch} {D : va_G} {cI cB cJ cZ : ClassId} {ad : Nat → Nat} {ws : va_W} {z : Nat} {m_thrown : Int32} {m_rules : Int32} {m_length : Int32} {m_tree : Int32} {m_tokens : Int32} {m_comments : Int32} {m_parts : Int32} {m_end : Int32} {m_open : Int32} {m_column : Int32} {m_printed : Int32} {m_repaired : Int32} {m_paid : Int32} {m_size : Nat → Int32} {m_symbol : Nat → Int32} {m_sign : Nat → Int32} {m_best : Nat → Int64} (E : ws[37]? = some (ad 37, .inr (6, [.int m_thrown, .int m_rules, .ref (ad 38), .ref (ad 39), .ref (ad 40), .ref (ad 41), .ref (ad 42), .int m_length, .ref (ad 43), .int m_tree, .ref (ad 44), .int m_tokens, .ref (ad 45), .ref (ad 46), .ref (ad 47), .int m_comments, .ref (ad 48), .ref (ad 49), .ref (ad 50), .ref (ad 51), .ref (ad 52), .ref (ad 53), .int m_parts, .ref (ad 54), .ref (ad 55), .ref (ad 56), .ref (ad 57), .ref (ad 58), .ref (ad 59), .ref (ad 60), .ref (ad 61), .int m_end, .int m_open, .ref (ad 62), .ref (ad 63), .ref (ad 64), .ref (ad 65), .ref (ad 66), .int m_column, .int m_printed, .ref (ad 67), .int m_repaired, .int m_paid])) ∧ ws[39]? = some (ad 39, .inl (cI, 20, .inl m_size)) ∧ ws[40]? = some (ad 40, .inl (cI, 100, .inl m_symbol)) ∧ ws[47]? = some (ad 47, .inl (cI, 17, .inl m_sign)) ∧ ws[51]? = some (ad 51, .inl (cJ, 1734, .inr (.inl m_best)))) {o : (Nat → Int64)} {k139 : (Int32) → (Int32) → (Int32) → (Int32) → (Int32) → (Int64) → (Nat → Int64) → Option ((Nat → Int64))} (hk139 : ∀ (x1 : Int32) (x2 : Int32) (x3 : Int32) (x4 : Int32) (x5 : Int32) (x6 : Int64) (m_row : Nat → Int64), k139 x1 x2 x3 x4 x5 x6 m_row = some o → KW l xX6_fill D (kT cI cB cJ cZ) ws z (kQv D (kT cI cB cJ cZ) [(52, (ad 52, .inl (cJ, 102, .inr (.inl o))))] ws z) 139 [(0, .ref (ad 37)), (1, .int x1), (2, .int x2), (3, .int x3), (4, .int x4), (5, .int x5), (6, .long x6)] [] [(52, (ad 52, .inl (cJ, 102, .inr (.inl m_row))))]) : ∀ (n : Nat) (x1 : Int32) (x2 : Int32) (x3 : Int32) (x4 : Int32) (x5 : Int32) (x6 : Int64) (x8 : Int32) (m_row : Nat → Int64), lp_X6_fill_80 m_tokens m_size m_symbol m_sign m_best k139 n x1 x2 x3 x4 x5 x6 x8 m_row = some o → KW l xX6_fill D (kT cI cB cJ cZ) ws z (kQv D (kT cI cB cJ cZ) [(52, (ad 52, .inl (cJ, 102, .inr (.inl o))))] ws z) 80 [(0, .ref (ad 37)), (1, .int x1), (2, .int x2), (3, .int x3), (4, .int x4), (5, .int x5), (6, .long x6), (8, .int x8)] [] [(52, (ad 52, .inl (cJ, 102, .inr (.inl m_row))))] := by
  intro n
  induction n with
  | zero => intro x1 x2 x3 x4 x5 x6 x8 m_row h; exact absurd h (by simp [lp_X6_fill_80])
  | succ n hk80 =>
    intro x1 x2 x3 x4 x5 x6 x8 m_row h
    unfold lp_X6_fill_80 at h
    refine k_iload dX6_fill_80 7 rfl ?_
    refine k_iload dX6_fill_82 5 rfl ?_
    refine k_icmp_gt 139 dX6_fill_84 (by decide) h (fun h => ?_) (fun h => ?_)
    · skip
      refine k_sub [0, 1, 2, 3, 4, 5, 6] rfl ?_
      exact hk139 _ _ _ _ _ _ _ h
    · skip
      refine k_aload_n dX6_fill_87 0 rfl rfl ?_
      refine k_get 37 20 E.1 rfl qX6_fill_wX6 (by decide) qX6_fill_f54 rfl dX6_fill_88 ?_
      refine k_bipush (v := 17) dX6_fill_91 (by decide) ?_
      refine k_iload_n dX6_fill_93 3 rfl rfl ?_
      refine k_iconst (v := 1) dX6_fill_94 (by decide) ?_
      refine k_isub dX6_fill_95 ?_
      refine k_imul dX6_fill_96 ?_
      refine k_iload dX6_fill_97 7 rfl ?_
      refine k_iadd dX6_fill_99 ?_
      refine k_lald 52 2 rfl rfl dX6_fill_100 h (fun v11 h => ?_)
      refine k_aload_n dX6_fill_101 0 rfl rfl ?_
      refine k_iload dX6_fill_102 4 rfl ?_
      refine k_iload dX6_fill_104 7 rfl ?_
      refine k_iload dX6_fill_106 5 rfl ?_
      obtain ⟨r12, hr12, h⟩ := Option.bind_eq_some_iff.mp h
      refine k_calllV (As := [.int x4, .int x8, .int x5]) (st := [.long v11]) (Lc := []) (L' := [(52, (ad 52, .inl (cJ, 102, .inr (.inl m_row))))]) (r := r12) gX6_fill_X6_price rfl rfl rfl hyVX6_price ⟨Nat.le_of_ble_eq_true rfl, Nat.le_of_ble_eq_true rfl⟩ rfl rfl (Nat.le_of_ble_eq_true rfl) 37 E.1 rfl dX6_fill_108 (fun w z hw => c_X6_price (cI := cI) (cB := cB) (cJ := cJ) (cZ := cZ) (ad := ad) w z ⟨((hw 37).trans E.1), ((hw 47).trans E.2.2.2.1), ((hw 51).trans E.2.2.2.2)⟩  hr12) rfl rfl ?_
      obtain ⟨r13, hr13, h⟩ := Option.bind_eq_some_iff.mp h
      refine k_calllS (As := [.long v11, .long r12]) (st := []) (Lc := []) (L' := [(52, (ad 52, .inl (cJ, 102, .inr (.inl m_row))))]) (r := r13) gX6_fill_X6_sum rfl rfl rfl hySX6_sum ⟨Nat.le_of_ble_eq_true rfl, Nat.le_of_ble_eq_true rfl⟩ rfl rfl (Nat.le_of_ble_eq_true rfl) dX6_fill_111 (fun w z hw => c_X6_sum (cI := cI) (cB := cB) (cJ := cJ) (cZ := cZ) (ad := ad) w z trivial  hr13) rfl rfl ?_
      refine k_lstore (i := 9) (lv' := fun x => [(9, .long x), (0, .ref (ad 37)), (1, .int x1), (2, .int x2), (3, .int x3), (4, .int x4), (5, .int x5), (6, .long x6), (8, .int x8)]) dX6_fill_114 (Nat.le_of_ble_eq_true rfl) (fun _ => rfl) h (fun x9_14 h => ?_)
      refine k_lload dX6_fill_116 0 rfl ?_
      refine k_lload dX6_fill_118 7 rfl ?_
      refine k_lcmp dX6_fill_120 ?_
      refine k_if_ge 129 dX6_fill_121 (by decide) h (fun h => ?_) (fun h => ?_)
      · skip
        refine k_lload dX6_fill_129 7 rfl ?_
        refine k_sub [1, 2, 3, 4, 5, 6, 8] rfl ?_
        exact wjn_X6_fill_131 (cI := cI) (cB := cB) (cJ := cJ) (cZ := cZ) (ad := ad) E hk80 _ _ _ _ _ _ _ _ h
      · skip
        refine k_lload dX6_fill_124 0 rfl ?_
        refine k_goto 131 dX6_fill_126 (by decide) ?_
        refine k_sub [1, 2, 3, 4, 5, 6, 8] rfl ?_
        exact wjn_X6_fill_131 (cI := cI) (cB := cB) (cJ := cJ) (cZ := cZ) (ad := ad) E hk80 _ _ _ _ _ _ _ _ h
set_option maxHeartbeats 4000000 in
set_option maxRecDepth 100000 in
theorem wlp_X6_fill_63 {l : Launch} {D : va_G} {cI cB cJ cZ : ClassId} {ad : Nat → Nat} {ws : va_W} {z : Nat} {m_thrown : Int32} {m_rules : Int32} {m_length : Int32} {m_tree : Int32} {m_tokens : Int32} {m_comments : Int32} {m_parts : Int32} {m_end : Int32} {m_open : Int32} {m_column : Int32} {m_printed : Int32} {m_repaired : Int32} {m_paid : Int32} {m_size : Nat → Int32} {m_symbol : Nat → Int32} {m_sign : Nat → Int32} {m_best : Nat → Int64} (E : ws[37]? = some (ad 37, .inr (6, [.int m_thrown, .int m_rules, .ref (ad 38), .ref (ad 39), .ref (ad 40), .ref (ad 41), .ref (ad 42), .int m_length, .ref (ad 43), .int m_tree, .ref (ad 44), .int m_tokens, .ref (ad 45), .ref (ad 46), .ref (ad 47), .int m_comments, .ref (ad 48), .ref (ad 49), .ref (ad 50), .ref (ad 51), .ref (ad 52), .ref (ad 53), .int m_parts, .ref (ad 54), .ref (ad 55), .ref (ad 56), .ref (ad 57), .ref (ad 58), .ref (ad 59), .ref (ad 60), .ref (ad 61), .int m_end, .int m_open, .ref (ad 62), .ref (ad 63), .ref (ad 64), .ref (ad 65), .ref (ad 66), .int m_column, .int m_printed, .ref (ad 67), .int m_repaired, .int m_paid])) ∧ ws[39]? = some (ad 39, .inl (cI, 20, .inl m_size)) ∧ ws[40]? = some (ad 40, .inl (cI, 100, .inl m_symbol)) ∧ ws[47]? = some (ad 47, .inl (cI, 17, .inl m_sign)) ∧ ws[51]? = some (ad 51, .inl (cJ, 1734, .inr (.inl m_best)))) {o : (Nat → Int64)} {k159 : (Int32) → (Int32) → (Int32) → (Nat → Int64) → Option ((Nat → Int64))} (hk159 : ∀ (x1 : Int32) (x2 : Int32) (x3 : Int32) (m_row : Nat → Int64), k159 x1 x2 x3 m_row = some o → KW l xX6_fill D (kT cI cB cJ cZ) ws z (kQv D (kT cI cB cJ cZ) [(52, (ad 52, .inl (cJ, 102, .inr (.inl o))))] ws z) 159 [(0, .ref (ad 37)), (1, .int x1), (2, .int x2), (3, .int x3)] [] [(52, (ad 52, .inl (cJ, 102, .inr (.inl m_row))))]) : ∀ (n : Nat) (x1 : Int32) (x2 : Int32) (x3 : Int32) (x4 : Int32) (x5 : Int32) (m_row : Nat → Int64), lp_X6_fill_63 m_tokens m_size m_symbol m_sign m_best k159 n x1 x2 x3 x4 x5 m_row = some o → KW l xX6_fill D (kT cI cB cJ cZ) ws z (kQv D (kT cI cB cJ cZ) [(52, (ad 52, .inl (cJ, 102, .inr (.inl o))))] ws z) 63 [(0, .ref (ad 37)), (1, .int x1), (2, .int x2), (3, .int x3), (4, .int x4), (5, .int x5)] [] [(52, (ad 52, .inl (cJ, 102, .inr (.inl m_row))))] := by
  intro n
  induction n with
  | zero => intro x1 x2 x3 x4 x5 m_row h; exact absurd h (by simp [lp_X6_fill_63])
  | succ n hk63 =>
    intro x1 x2 x3 x4 x5 m_row h
    unfold lp_X6_fill_63 at h
    refine k_iload dX6_fill_63 5 rfl ?_
    refine k_aload_n dX6_fill_65 0 rfl rfl ?_
    refine k_get 37 11 E.1 rfl qX6_fill_wX6 (by decide) qX6_fill_f126 rfl dX6_fill_66 ?_
    refine k_icmp_gt 159 dX6_fill_69 (by decide) h (fun h => ?_) (fun h => ?_)
    · skip
      refine k_sub [0, 1, 2, 3] rfl ?_
      exact hk159 _ _ _ _ h
    · skip
      refine k_ldc2 (v := 1152921504606846976) dX6_fill_72 qX6_fill_k138 ?_
      refine k_lstore (i := 6) (lv' := fun x => [(6, .long x), (0, .ref (ad 37)), (1, .int x1), (2, .int x2), (3, .int x3), (4, .int x4), (5, .int x5)]) dX6_fill_75 (Nat.le_of_ble_eq_true rfl) (fun _ => rfl) h (fun x6_9 h => ?_)
      refine k_iload_n dX6_fill_77 3 rfl rfl ?_
      refine k_istore (i := 8) (lv' := fun x => [(8, .int x), (6, .long x6_9), (0, .ref (ad 37)), (1, .int x1), (2, .int x2), (3, .int x3), (4, .int x4), (5, .int x5)]) dX6_fill_78 (Nat.le_of_ble_eq_true rfl) (fun _ => rfl) h (fun x8_10 h => ?_)
      refine k_sub [2, 3, 4, 5, 6, 7, 1, 0] rfl ?_
      refine wlp_X6_fill_80 (cI := cI) (cB := cB) (cJ := cJ) (cZ := cZ) (ad := ad) E ?_ FU _ _ _ _ _ _ _ _ h
      · intro x1 x2 x3 x4 x5 x6 m_row h
        refine k_aload_n dX6_fill_139 0 rfl rfl ?_
        refine k_get 37 20 E.1 rfl qX6_fill_wX6 (by decide) qX6_fill_f54 rfl dX6_fill_140 ?_
        refine k_bipush (v := 17) dX6_fill_143 (by decide) ?_
        refine k_iload_n dX6_fill_145 3 rfl rfl ?_
        refine k_imul dX6_fill_146 ?_
        refine k_iload dX6_fill_147 5 rfl ?_
        refine k_iadd dX6_fill_149 ?_
        refine k_lload dX6_fill_150 6 rfl ?_
        refine k_last (L' := fun f => [(52, (ad 52, .inl (cJ, 102, .inr (.inl f))))]) 52 2 rfl rfl rfl dX6_fill_152 h (fun _ => rfl) (fun m_row_17 h => ?_)
        refine k_iinc (i := 5) (lv' := fun x => [(5, .int x), (0, .ref (ad 37)), (1, .int x1), (2, .int x2), (3, .int x3), (4, .int x4), (6, .long x6)]) dX6_fill_153 5 rfl (Nat.le_of_ble_eq_true rfl) (fun _ => rfl) h (fun x5_18 h => ?_)
        refine k_goto 63 dX6_fill_156 (by decide) ?_
        refine k_sub [1, 2, 3, 4, 5, 0] rfl ?_
        exact hk63 _ _ _ _ _ _ h
set_option maxHeartbeats 4000000 in
set_option maxRecDepth 100000 in
theorem wlp_X6_fill_36 {l : Launch} {D : va_G} {cI cB cJ cZ : ClassId} {ad : Nat → Nat} {ws : va_W} {z : Nat} {m_thrown : Int32} {m_rules : Int32} {m_length : Int32} {m_tree : Int32} {m_tokens : Int32} {m_comments : Int32} {m_parts : Int32} {m_end : Int32} {m_open : Int32} {m_column : Int32} {m_printed : Int32} {m_repaired : Int32} {m_paid : Int32} {m_size : Nat → Int32} {m_symbol : Nat → Int32} {m_sign : Nat → Int32} {m_best : Nat → Int64} (E : ws[37]? = some (ad 37, .inr (6, [.int m_thrown, .int m_rules, .ref (ad 38), .ref (ad 39), .ref (ad 40), .ref (ad 41), .ref (ad 42), .int m_length, .ref (ad 43), .int m_tree, .ref (ad 44), .int m_tokens, .ref (ad 45), .ref (ad 46), .ref (ad 47), .int m_comments, .ref (ad 48), .ref (ad 49), .ref (ad 50), .ref (ad 51), .ref (ad 52), .ref (ad 53), .int m_parts, .ref (ad 54), .ref (ad 55), .ref (ad 56), .ref (ad 57), .ref (ad 58), .ref (ad 59), .ref (ad 60), .ref (ad 61), .int m_end, .int m_open, .ref (ad 62), .ref (ad 63), .ref (ad 64), .ref (ad 65), .ref (ad 66), .int m_column, .int m_printed, .ref (ad 67), .int m_repaired, .int m_paid])) ∧ ws[39]? = some (ad 39, .inl (cI, 20, .inl m_size)) ∧ ws[40]? = some (ad 40, .inl (cI, 100, .inl m_symbol)) ∧ ws[47]? = some (ad 47, .inl (cI, 17, .inl m_sign)) ∧ ws[51]? = some (ad 51, .inl (cJ, 1734, .inr (.inl m_best)))) {o : (Nat → Int64)} {k165 : (Nat → Int64) → Option ((Nat → Int64))} (hk165 : ∀ (m_row : Nat → Int64), k165 m_row = some o → KW l xX6_fill D (kT cI cB cJ cZ) ws z (kQv D (kT cI cB cJ cZ) [(52, (ad 52, .inl (cJ, 102, .inr (.inl o))))] ws z) 165 [] [] [(52, (ad 52, .inl (cJ, 102, .inr (.inl m_row))))]) : ∀ (n : Nat) (x1 : Int32) (x2 : Int32) (x3 : Int32) (m_row : Nat → Int64), lp_X6_fill_36 m_tokens m_size m_symbol m_sign m_best k165 n x1 x2 x3 m_row = some o → KW l xX6_fill D (kT cI cB cJ cZ) ws z (kQv D (kT cI cB cJ cZ) [(52, (ad 52, .inl (cJ, 102, .inr (.inl o))))] ws z) 36 [(0, .ref (ad 37)), (1, .int x1), (2, .int x2), (3, .int x3)] [] [(52, (ad 52, .inl (cJ, 102, .inr (.inl m_row))))] := by
  intro n
  induction n with
  | zero => intro x1 x2 x3 m_row h; exact absurd h (by simp [lp_X6_fill_36])
  | succ n hk36 =>
    intro x1 x2 x3 m_row h
    unfold lp_X6_fill_36 at h
    refine k_iload_n dX6_fill_36 3 rfl rfl ?_
    refine k_aload_n dX6_fill_37 0 rfl rfl ?_
    refine k_get 37 3 E.1 rfl qX6_fill_wX6 (by decide) qX6_fill_f13 rfl dX6_fill_38 ?_
    refine k_iload_n dX6_fill_41 1 rfl rfl ?_
    refine k_iald 39 0 E.2.1 rfl dX6_fill_42 h (fun v5 h => ?_)
    refine k_icmp_gt 165 dX6_fill_43 (by decide) h (fun h => ?_) (fun h => ?_)
    · skip
      refine k_sub [] rfl ?_
      exact hk165 _ h
    · skip
      refine k_aload_n dX6_fill_46 0 rfl rfl ?_
      refine k_get 37 4 E.1 rfl qX6_fill_wX6 (by decide) qX6_fill_f16 rfl dX6_fill_47 ?_
      refine k_iconst (v := 5) dX6_fill_50 (by decide) ?_
      refine k_iload_n dX6_fill_51 1 rfl rfl ?_
      refine k_imul dX6_fill_52 ?_
      refine k_iload_n dX6_fill_53 3 rfl rfl ?_
      refine k_iadd dX6_fill_54 ?_
      refine k_iconst (v := 1) dX6_fill_55 (by decide) ?_
      refine k_isub dX6_fill_56 ?_
      refine k_iald 40 0 E.2.2.1 rfl dX6_fill_57 h (fun v6 h => ?_)
      refine k_istore (i := 4) (lv' := fun x => [(4, .int x), (0, .ref (ad 37)), (1, .int x1), (2, .int x2), (3, .int x3)]) dX6_fill_58 (Nat.le_of_ble_eq_true rfl) (fun _ => rfl) h (fun x4_7 h => ?_)
      refine k_iload_n dX6_fill_60 3 rfl rfl ?_
      refine k_istore (i := 5) (lv' := fun x => [(5, .int x), (4, .int x4_7), (0, .ref (ad 37)), (1, .int x1), (2, .int x2), (3, .int x3)]) dX6_fill_61 (Nat.le_of_ble_eq_true rfl) (fun _ => rfl) h (fun x5_8 h => ?_)
      refine k_sub [2, 3, 4, 5, 1, 0] rfl ?_
      refine wlp_X6_fill_63 (cI := cI) (cB := cB) (cJ := cJ) (cZ := cZ) (ad := ad) E ?_ FU _ _ _ _ _ _ h
      · intro x1 x2 x3 m_row h
        refine k_iinc (i := 3) (lv' := fun x => [(3, .int x), (0, .ref (ad 37)), (1, .int x1), (2, .int x2)]) dX6_fill_159 3 rfl (Nat.le_of_ble_eq_true rfl) (fun _ => rfl) h (fun x3_19 h => ?_)
        refine k_goto 36 dX6_fill_162 (by decide) ?_
        refine k_sub [1, 2, 3, 0] rfl ?_
        exact hk36 _ _ _ _ h
set_option maxHeartbeats 4000000 in
set_option maxRecDepth 100000 in
/-- KindParserModel.fill -/
theorem c_X6_fill {l : Launch} {D : va_G} {cI cB cJ cZ : ClassId} {ad : Nat → Nat} (ws : va_W) (z : Nat) {m_thrown : Int32} {m_rules : Int32} {m_length : Int32} {m_tree : Int32} {m_tokens : Int32} {m_comments : Int32} {m_parts : Int32} {m_end : Int32} {m_open : Int32} {m_column : Int32} {m_printed : Int32} {m_repaired : Int32} {m_paid : Int32} {m_size : Nat → Int32} {m_symbol : Nat → Int32} {m_sign : Nat → Int32} {m_best : Nat → Int64} {m_row : Nat → Int64} (E : ws[37]? = some (ad 37, .inr (6, [.int m_thrown, .int m_rules, .ref (ad 38), .ref (ad 39), .ref (ad 40), .ref (ad 41), .ref (ad 42), .int m_length, .ref (ad 43), .int m_tree, .ref (ad 44), .int m_tokens, .ref (ad 45), .ref (ad 46), .ref (ad 47), .int m_comments, .ref (ad 48), .ref (ad 49), .ref (ad 50), .ref (ad 51), .ref (ad 52), .ref (ad 53), .int m_parts, .ref (ad 54), .ref (ad 55), .ref (ad 56), .ref (ad 57), .ref (ad 58), .ref (ad 59), .ref (ad 60), .ref (ad 61), .int m_end, .int m_open, .ref (ad 62), .ref (ad 63), .ref (ad 64), .ref (ad 65), .ref (ad 66), .int m_column, .int m_printed, .ref (ad 67), .int m_repaired, .int m_paid])) ∧ ws[39]? = some (ad 39, .inl (cI, 20, .inl m_size)) ∧ ws[40]? = some (ad 40, .inl (cI, 100, .inl m_symbol)) ∧ ws[47]? = some (ad 47, .inl (cI, 17, .inl m_sign)) ∧ ws[51]? = some (ad 51, .inl (cJ, 1734, .inr (.inl m_best)))) (e52 : ws[52]? = some (ad 52, .inl (cJ, 102, .inr (.inl m_row)))) {a1 : Int32} {a2 : Int32} {o : (Nat → Int64)} (h : f_X6_fill a1 a2 m_tokens m_size m_symbol m_sign m_best m_row = some o) : Met l yX6_fill wsX6_fill rmX6_fill (kPc D (kT cI cB cJ cZ) [.ref (ad 37), .int a1, .int a2] ws z) (kQv D (kT cI cB cJ cZ) [(52, (ad 52, .inl (cJ, 102, .inr (.inl o))))] ws z) 0 0 (va_A ws z) := by
  refine KW.met (rm := rmX6_fill) (lv := [(0, .ref (ad 37)), (1, .int a1), (2, .int a2)]) (L := [(52, (ad 52, .inl (cJ, 102, .inr (.inl m_row))))]) rfl (by decide) (Nat.le_of_ble_eq_true rfl) rfl (by intro q hq; simp only [List.mem_cons, List.not_mem_nil, or_false] at hq; rcases hq with rfl <;> assumption) ?_
  unfold f_X6_fill at h
  show KW l xX6_fill D (kT cI cB cJ cZ) ws z (kQv D (kT cI cB cJ cZ) [(52, (ad 52, .inl (cJ, 102, .inr (.inl o))))] ws z) 0 [(0, .ref (ad 37)), (1, .int a1), (2, .int a2)] [] [(52, (ad 52, .inl (cJ, 102, .inr (.inl m_row))))]
  refine k_iload_n dX6_fill_0 2 rfl rfl ?_
  refine k_istore_n (i := 3) (lv' := fun x => [(3, .int x), (0, .ref (ad 37)), (1, .int a1), (2, .int a2)]) dX6_fill_1 rfl (Nat.le_of_ble_eq_true rfl) (fun _ => rfl) h (fun x3_1 h => ?_)
  refine k_sub [1, 2, 3, 0] rfl ?_
  refine wlp_X6_fill_2 (cI := cI) (cB := cB) (cJ := cJ) (cZ := cZ) (ad := ad) E ?_ FU _ _ _ _ h
  · intro x1 x2 m_row h
    refine k_iconst (v := 1) dX6_fill_34 (by decide) ?_
    refine k_istore_n (i := 3) (lv' := fun x => [(3, .int x), (0, .ref (ad 37)), (1, .int x1), (2, .int x2)]) dX6_fill_35 rfl (Nat.le_of_ble_eq_true rfl) (fun _ => rfl) h (fun x3_4 h => ?_)
    refine k_sub [1, 2, 3, 0] rfl ?_
    refine wlp_X6_fill_36 (cI := cI) (cB := cB) (cJ := cJ) (cZ := cZ) (ad := ad) E ?_ FU _ _ _ _ h
    · intro m_row h
      obtain rfl := Option.some.inj h
      exact k_vret rfl dX6_fill_165
abbrev rmX6_prices : Room := { frames := 2, cells := 0, slots := 0, locals := 53 }
abbrev xX6_prices : KX := (rmX6_prices, cX6_prices, 8, none, RX6, wsX6_prices)
theorem hySX6_prices : yX6_prices.cls ≠ "java/lang/invoke/MethodHandle" ∧ yX6_prices.cls ≠ "java/lang/invoke/VarHandle" ∧ (parseMethodDescriptor yX6_prices.desc).map (fun d => d.parameters.length) = some 0 := by decide +kernel
theorem hyVX6_prices : yX6_prices.cls = RX6 ∧ yX6_prices.cls ≠ "java/lang/invoke/MethodHandle" ∧ yX6_prices.cls ≠ "java/lang/invoke/VarHandle" ∧ (parseMethodDescriptor yX6_prices.desc).map (fun d => d.parameters.length) = some 0 := ⟨rfl, hySX6_prices⟩
theorem qX6_prices_wX6 : ∀ w ∈ u_ws RX6 TX6 43, w ∈ wsX6_prices := by decide +kernel
theorem qX6_prices_f50 : Cond.fieldLink RX6 50 "KindParserModel" "best" "[J" ∈ wsX6_prices := by decide +kernel
theorem qX6_prices_k138 : Cond.constantLong RX6 138 1152921504606846976 ∈ wsX6_prices := by decide +kernel
theorem qX6_prices_f126 : Cond.fieldLink RX6 126 "KindParserModel" "tokens" "I" ∈ wsX6_prices := by decide +kernel
theorem qX6_prices_f110 : Cond.fieldLink RX6 110 "KindParserModel" "rules" "I" ∈ wsX6_prices := by decide +kernel
theorem qX6_prices_f7 : Cond.fieldLink RX6 7 "KindParserModel" "head" "[I" ∈ wsX6_prices := by decide +kernel
theorem qX6_prices_f54 : Cond.fieldLink RX6 54 "KindParserModel" "row" "[J" ∈ wsX6_prices := by decide +kernel
theorem qX6_prices_f13 : Cond.fieldLink RX6 13 "KindParserModel" "size" "[I" ∈ wsX6_prices := by decide +kernel
set_option maxHeartbeats 4000000 in
set_option maxRecDepth 100000 in
theorem wlp_X6_prices_2 {l : Launch} {D : va_G} {cI cB cJ cZ : ClassId} {ad : Nat → Nat} {ws : va_W} {z : Nat} {m_thrown : Int32} {m_rules : Int32} {m_length : Int32} {m_tree : Int32} {m_tokens : Int32} {m_comments : Int32} {m_parts : Int32} {m_end : Int32} {m_open : Int32} {m_column : Int32} {m_printed : Int32} {m_repaired : Int32} {m_paid : Int32} {m_head : Nat → Int32} {m_size : Nat → Int32} {m_symbol : Nat → Int32} {m_sign : Nat → Int32} (E : ws[37]? = some (ad 37, .inr (6, [.int m_thrown, .int m_rules, .ref (ad 38), .ref (ad 39), .ref (ad 40), .ref (ad 41), .ref (ad 42), .int m_length, .ref (ad 43), .int m_tree, .ref (ad 44), .int m_tokens, .ref (ad 45), .ref (ad 46), .ref (ad 47), .int m_comments, .ref (ad 48), .ref (ad 49), .ref (ad 50), .ref (ad 51), .ref (ad 52), .ref (ad 53), .int m_parts, .ref (ad 54), .ref (ad 55), .ref (ad 56), .ref (ad 57), .ref (ad 58), .ref (ad 59), .ref (ad 60), .ref (ad 61), .int m_end, .int m_open, .ref (ad 62), .ref (ad 63), .ref (ad 64), .ref (ad 65), .ref (ad 66), .int m_column, .int m_printed, .ref (ad 67), .int m_repaired, .int m_paid])) ∧ ws[38]? = some (ad 38, .inl (cI, 20, .inl m_head)) ∧ ws[39]? = some (ad 39, .inl (cI, 20, .inl m_size)) ∧ ws[40]? = some (ad 40, .inl (cI, 100, .inl m_symbol)) ∧ ws[47]? = some (ad 47, .inl (cI, 17, .inl m_sign))) {o : (Nat → Int64) × (Nat → Int64)} {k24 : (Nat → Int64) → (Nat → Int64) → Option ((Nat → Int64) × (Nat → Int64))} (hk24 : ∀ (m_best : Nat → Int64) (m_row : Nat → Int64), k24 m_best m_row = some o → KW l xX6_prices D (kT cI cB cJ cZ) ws z (kQv D (kT cI cB cJ cZ) [(51, (ad 51, .inl (cJ, 1734, .inr (.inl o.1)))), (52, (ad 52, .inl (cJ, 102, .inr (.inl o.2))))] ws z) 24 [(0, .ref (ad 37))] [] [(51, (ad 51, .inl (cJ, 1734, .inr (.inl m_best)))), (52, (ad 52, .inl (cJ, 102, .inr (.inl m_row))))]) : ∀ (n : Nat) (x1 : Int32) (m_best : Nat → Int64) (m_row : Nat → Int64), lp_X6_prices_2 m_rules m_tokens m_head m_size m_symbol m_sign k24 n x1 m_best m_row = some o → KW l xX6_prices D (kT cI cB cJ cZ) ws z (kQv D (kT cI cB cJ cZ) [(51, (ad 51, .inl (cJ, 1734, .inr (.inl o.1)))), (52, (ad 52, .inl (cJ, 102, .inr (.inl o.2))))] ws z) 2 [(0, .ref (ad 37)), (1, .int x1)] [] [(51, (ad 51, .inl (cJ, 1734, .inr (.inl m_best)))), (52, (ad 52, .inl (cJ, 102, .inr (.inl m_row))))] := by
  intro n
  induction n with
  | zero => intro x1 m_best m_row h; exact absurd h (by simp [lp_X6_prices_2])
  | succ n hk2 =>
    intro x1 m_best m_row h
    unfold lp_X6_prices_2 at h
    refine k_iload_n dX6_prices_2 1 rfl rfl ?_
    refine k_sipush (v := 1734) dX6_prices_3 (by decide) ?_
    refine k_icmp_ge 24 dX6_prices_6 (by decide) h (fun h => ?_) (fun h => ?_)
    · skip
      refine k_sub [0] rfl ?_
      exact hk24 _ _ h
    · skip
      refine k_aload_n dX6_prices_9 0 rfl rfl ?_
      refine k_get 37 19 E.1 rfl qX6_prices_wX6 (by decide) qX6_prices_f50 rfl dX6_prices_10 ?_
      refine k_iload_n dX6_prices_13 1 rfl rfl ?_
      refine k_ldc2 (v := 1152921504606846976) dX6_prices_14 qX6_prices_k138 ?_
      refine k_last (L' := fun f => [(51, (ad 51, .inl (cJ, 1734, .inr (.inl f)))), (52, (ad 52, .inl (cJ, 102, .inr (.inl m_row))))]) 51 2 rfl rfl rfl dX6_prices_17 h (fun _ => rfl) (fun m_best_2 h => ?_)
      refine k_iinc (i := 1) (lv' := fun x => [(1, .int x), (0, .ref (ad 37))]) dX6_prices_18 1 rfl (Nat.le_of_ble_eq_true rfl) (fun _ => rfl) h (fun x1_3 h => ?_)
      refine k_goto 2 dX6_prices_21 (by decide) ?_
      refine k_sub [1, 0] rfl ?_
      exact hk2 _ _ _ h
set_option maxHeartbeats 4000000 in
set_option maxRecDepth 100000 in
theorem wjn_X6_prices_169 {l : Launch} {D : va_G} {cI cB cJ cZ : ClassId} {ad : Nat → Nat} {ws : va_W} {z : Nat} {m_thrown : Int32} {m_rules : Int32} {m_length : Int32} {m_tree : Int32} {m_tokens : Int32} {m_comments : Int32} {m_parts : Int32} {m_end : Int32} {m_open : Int32} {m_column : Int32} {m_printed : Int32} {m_repaired : Int32} {m_paid : Int32} {m_head : Nat → Int32} {m_size : Nat → Int32} {m_symbol : Nat → Int32} {m_sign : Nat → Int32} (E : ws[37]? = some (ad 37, .inr (6, [.int m_thrown, .int m_rules, .ref (ad 38), .ref (ad 39), .ref (ad 40), .ref (ad 41), .ref (ad 42), .int m_length, .ref (ad 43), .int m_tree, .ref (ad 44), .int m_tokens, .ref (ad 45), .ref (ad 46), .ref (ad 47), .int m_comments, .ref (ad 48), .ref (ad 49), .ref (ad 50), .ref (ad 51), .ref (ad 52), .ref (ad 53), .int m_parts, .ref (ad 54), .ref (ad 55), .ref (ad 56), .ref (ad 57), .ref (ad 58), .ref (ad 59), .ref (ad 60), .ref (ad 61), .int m_end, .int m_open, .ref (ad 62), .ref (ad 63), .ref (ad 64), .ref (ad 65), .ref (ad 66), .int m_column, .int m_printed, .ref (ad 67), .int m_repaired, .int m_paid])) ∧ ws[38]? = some (ad 38, .inl (cI, 20, .inl m_head)) ∧ ws[39]? = some (ad 39, .inl (cI, 20, .inl m_size)) ∧ ws[40]? = some (ad 40, .inl (cI, 100, .inl m_symbol)) ∧ ws[47]? = some (ad 47, .inl (cI, 17, .inl m_sign))) {o : (Nat → Int64) × (Nat → Int64)} {k60 : (Int32) → (Int32) → (Int32) → (Int32) → (Nat → Int64) → (Nat → Int64) → Option ((Nat → Int64) × (Nat → Int64))} (hk60 : ∀ (x1 : Int32) (x2 : Int32) (x3 : Int32) (x4 : Int32) (m_best : Nat → Int64) (m_row : Nat → Int64), k60 x1 x2 x3 x4 m_best m_row = some o → KW l xX6_prices D (kT cI cB cJ cZ) ws z (kQv D (kT cI cB cJ cZ) [(51, (ad 51, .inl (cJ, 1734, .inr (.inl o.1)))), (52, (ad 52, .inl (cJ, 102, .inr (.inl o.2))))] ws z) 60 [(0, .ref (ad 37)), (1, .int x1), (2, .int x2), (3, .int x3), (4, .int x4)] [] [(51, (ad 51, .inl (cJ, 1734, .inr (.inl m_best)))), (52, (ad 52, .inl (cJ, 102, .inr (.inl m_row))))]) : ∀ (x1 : Int32) (x2 : Int32) (x3 : Int32) (x4 : Int32) (s1 : Int32) (s2 : Int64) (m_best : Nat → Int64) (m_row : Nat → Int64), jn_X6_prices_169 m_rules m_tokens m_head m_size m_symbol m_sign k60 x1 x2 x3 x4 s1 s2 m_best m_row = some o → KW l xX6_prices D (kT cI cB cJ cZ) ws z (kQv D (kT cI cB cJ cZ) [(51, (ad 51, .inl (cJ, 1734, .inr (.inl o.1)))), (52, (ad 52, .inl (cJ, 102, .inr (.inl o.2))))] ws z) 169 [(0, .ref (ad 37)), (1, .int x1), (2, .int x2), (3, .int x3), (4, .int x4)] [.long s2, .int s1, .ref (ad 51)] [(51, (ad 51, .inl (cJ, 1734, .inr (.inl m_best)))), (52, (ad 52, .inl (cJ, 102, .inr (.inl m_row))))] := by
  intro x1 x2 x3 x4 s1 s2 m_best m_row h
  unfold jn_X6_prices_169 at h
  refine k_last (L' := fun f => [(51, (ad 51, .inl (cJ, 1734, .inr (.inl f)))), (52, (ad 52, .inl (cJ, 102, .inr (.inl m_row))))]) 51 2 rfl rfl rfl dX6_prices_169 h (fun _ => rfl) (fun m_best_20 h => ?_)
  refine k_iinc (i := 4) (lv' := fun x => [(4, .int x), (0, .ref (ad 37)), (1, .int x1), (2, .int x2), (3, .int x3)]) dX6_prices_170 4 rfl (Nat.le_of_ble_eq_true rfl) (fun _ => rfl) h (fun x4_21 h => ?_)
  refine k_goto 60 dX6_prices_173 (by decide) ?_
  refine k_sub [1, 2, 3, 4, 0] rfl ?_
  exact hk60 _ _ _ _ _ _ h
set_option maxHeartbeats 4000000 in
set_option maxRecDepth 100000 in
theorem wjn_X6_prices_137 {l : Launch} {D : va_G} {cI cB cJ cZ : ClassId} {ad : Nat → Nat} {ws : va_W} {z : Nat} {m_thrown : Int32} {m_rules : Int32} {m_length : Int32} {m_tree : Int32} {m_tokens : Int32} {m_comments : Int32} {m_parts : Int32} {m_end : Int32} {m_open : Int32} {m_column : Int32} {m_printed : Int32} {m_repaired : Int32} {m_paid : Int32} {m_head : Nat → Int32} {m_size : Nat → Int32} {m_symbol : Nat → Int32} {m_sign : Nat → Int32} (E : ws[37]? = some (ad 37, .inr (6, [.int m_thrown, .int m_rules, .ref (ad 38), .ref (ad 39), .ref (ad 40), .ref (ad 41), .ref (ad 42), .int m_length, .ref (ad 43), .int m_tree, .ref (ad 44), .int m_tokens, .ref (ad 45), .ref (ad 46), .ref (ad 47), .int m_comments, .ref (ad 48), .ref (ad 49), .ref (ad 50), .ref (ad 51), .ref (ad 52), .ref (ad 53), .int m_parts, .ref (ad 54), .ref (ad 55), .ref (ad 56), .ref (ad 57), .ref (ad 58), .ref (ad 59), .ref (ad 60), .ref (ad 61), .int m_end, .int m_open, .ref (ad 62), .ref (ad 63), .ref (ad 64), .ref (ad 65), .ref (ad 66), .int m_column, .int m_printed, .ref (ad 67), .int m_repaired, .int m_paid])) ∧ ws[38]? = some (ad 38, .inl (cI, 20, .inl m_head)) ∧ ws[39]? = some (ad 39, .inl (cI, 20, .inl m_size)) ∧ ws[40]? = some (ad 40, .inl (cI, 100, .inl m_symbol)) ∧ ws[47]? = some (ad 47, .inl (cI, 17, .inl m_sign))) {o : (Nat → Int64) × (Nat → Int64)} {k60 : (Int32) → (Int32) → (Int32) → (Int32) → (Nat → Int64) → (Nat → Int64) → Option ((Nat → Int64) × (Nat → Int64))} (hk60 : ∀ (x1 : Int32) (x2 : Int32) (x3 : Int32) (x4 : Int32) (m_best : Nat → Int64) (m_row : Nat → Int64), k60 x1 x2 x3 x4 m_best m_row = some o → KW l xX6_prices D (kT cI cB cJ cZ) ws z (kQv D (kT cI cB cJ cZ) [(51, (ad 51, .inl (cJ, 1734, .inr (.inl o.1)))), (52, (ad 52, .inl (cJ, 102, .inr (.inl o.2))))] ws z) 60 [(0, .ref (ad 37)), (1, .int x1), (2, .int x2), (3, .int x3), (4, .int x4)] [] [(51, (ad 51, .inl (cJ, 1734, .inr (.inl m_best)))), (52, (ad 52, .inl (cJ, 102, .inr (.inl m_row))))]) : ∀ (x1 : Int32) (x3 : Int32) (x4 : Int32) (x5 : Int32) (x6 : Int64) (s0 : Int32) (m_best : Nat → Int64) (m_row : Nat → Int64), jn_X6_prices_137 m_rules m_tokens m_head m_size m_symbol m_sign k60 x1 x3 x4 x5 x6 s0 m_best m_row = some o → KW l xX6_prices D (kT cI cB cJ cZ) ws z (kQv D (kT cI cB cJ cZ) [(51, (ad 51, .inl (cJ, 1734, .inr (.inl o.1)))), (52, (ad 52, .inl (cJ, 102, .inr (.inl o.2))))] ws z) 137 [(0, .ref (ad 37)), (1, .int x1), (3, .int x3), (4, .int x4), (5, .int x5), (6, .long x6)] [.int s0] [(51, (ad 51, .inl (cJ, 1734, .inr (.inl m_best)))), (52, (ad 52, .inl (cJ, 102, .inr (.inl m_row))))] := by
  intro x1 x3 x4 x5 x6 s0 m_best m_row h
  unfold jn_X6_prices_137 at h
  refine k_istore_n (i := 2) (lv' := fun x => [(2, .int x), (0, .ref (ad 37)), (1, .int x1), (3, .int x3), (4, .int x4), (5, .int x5), (6, .long x6)]) dX6_prices_137 rfl (Nat.le_of_ble_eq_true rfl) (fun _ => rfl) h (fun x2_17 h => ?_)
  refine k_aload_n dX6_prices_138 1 rfl rfl ?_
  refine k_get 37 19 E.1 rfl qX6_prices_wX6 (by decide) qX6_prices_f50 rfl dX6_prices_139 ?_
  refine k_iload dX6_prices_142 5 rfl ?_
  refine k_lload dX6_prices_144 6 rfl ?_
  refine k_aload_n dX6_prices_146 1 rfl rfl ?_
  refine k_get 37 19 E.1 rfl qX6_prices_wX6 (by decide) qX6_prices_f50 rfl dX6_prices_147 ?_
  refine k_iload dX6_prices_150 5 rfl ?_
  refine k_lald 51 2 rfl rfl dX6_prices_152 h (fun v18 h => ?_)
  refine k_lcmp dX6_prices_153 ?_
  refine k_if_ge 162 dX6_prices_154 (by decide) h (fun h => ?_) (fun h => ?_)
  · skip
    refine k_aload_n dX6_prices_162 1 rfl rfl ?_
    refine k_get 37 19 E.1 rfl qX6_prices_wX6 (by decide) qX6_prices_f50 rfl dX6_prices_163 ?_
    refine k_iload dX6_prices_166 5 rfl ?_
    refine k_lald 51 2 rfl rfl dX6_prices_168 h (fun v19 h => ?_)
    refine k_sub [1, 2, 0, 3, 4] rfl ?_
    exact wjn_X6_prices_169 (cI := cI) (cB := cB) (cJ := cJ) (cZ := cZ) (ad := ad) E hk60 _ _ _ _ _ _ _ _ h
  · skip
    refine k_lload dX6_prices_157 6 rfl ?_
    refine k_goto 169 dX6_prices_159 (by decide) ?_
    refine k_sub [1, 2, 0, 3, 4] rfl ?_
    exact wjn_X6_prices_169 (cI := cI) (cB := cB) (cJ := cJ) (cZ := cZ) (ad := ad) E hk60 _ _ _ _ _ _ _ _ h
set_option maxHeartbeats 4000000 in
set_option maxRecDepth 100000 in
theorem wjn_X6_prices_132 {l : Launch} {D : va_G} {cI cB cJ cZ : ClassId} {ad : Nat → Nat} {ws : va_W} {z : Nat} {m_thrown : Int32} {m_rules : Int32} {m_length : Int32} {m_tree : Int32} {m_tokens : Int32} {m_comments : Int32} {m_parts : Int32} {m_end : Int32} {m_open : Int32} {m_column : Int32} {m_printed : Int32} {m_repaired : Int32} {m_paid : Int32} {m_head : Nat → Int32} {m_size : Nat → Int32} {m_symbol : Nat → Int32} {m_sign : Nat → Int32} (E : ws[37]? = some (ad 37, .inr (6, [.int m_thrown, .int m_rules, .ref (ad 38), .ref (ad 39), .ref (ad 40), .ref (ad 41), .ref (ad 42), .int m_length, .ref (ad 43), .int m_tree, .ref (ad 44), .int m_tokens, .ref (ad 45), .ref (ad 46), .ref (ad 47), .int m_comments, .ref (ad 48), .ref (ad 49), .ref (ad 50), .ref (ad 51), .ref (ad 52), .ref (ad 53), .int m_parts, .ref (ad 54), .ref (ad 55), .ref (ad 56), .ref (ad 57), .ref (ad 58), .ref (ad 59), .ref (ad 60), .ref (ad 61), .int m_end, .int m_open, .ref (ad 62), .ref (ad 63), .ref (ad 64), .ref (ad 65), .ref (ad 66), .int m_column, .int m_printed, .ref (ad 67), .int m_repaired, .int m_paid])) ∧ ws[38]? = some (ad 38, .inl (cI, 20, .inl m_head)) ∧ ws[39]? = some (ad 39, .inl (cI, 20, .inl m_size)) ∧ ws[40]? = some (ad 40, .inl (cI, 100, .inl m_symbol)) ∧ ws[47]? = some (ad 47, .inl (cI, 17, .inl m_sign))) {o : (Nat → Int64) × (Nat → Int64)} {k60 : (Int32) → (Int32) → (Int32) → (Int32) → (Nat → Int64) → (Nat → Int64) → Option ((Nat → Int64) × (Nat → Int64))} (hk60 : ∀ (x1 : Int32) (x2 : Int32) (x3 : Int32) (x4 : Int32) (m_best : Nat → Int64) (m_row : Nat → Int64), k60 x1 x2 x3 x4 m_best m_row = some o → KW l xX6_prices D (kT cI cB cJ cZ) ws z (kQv D (kT cI cB cJ cZ) [(51, (ad 51, .inl (cJ, 1734, .inr (.inl o.1)))), (52, (ad 52, .inl (cJ, 102, .inr (.inl o.2))))] ws z) 60 [(0, .ref (ad 37)), (1, .int x1), (2, .int x2), (3, .int x3), (4, .int x4)] [] [(51, (ad 51, .inl (cJ, 1734, .inr (.inl m_best)))), (52, (ad 52, .inl (cJ, 102, .inr (.inl m_row))))]) : ∀ (x1 : Int32) (x3 : Int32) (x4 : Int32) (x5 : Int32) (x6 : Int64) (m_best : Nat → Int64) (m_row : Nat → Int64), jn_X6_prices_132 m_rules m_tokens m_head m_size m_symbol m_sign k60 x1 x3 x4 x5 x6 m_best m_row = some o → KW l xX6_prices D (kT cI cB cJ cZ) ws z (kQv D (kT cI cB cJ cZ) [(51, (ad 51, .inl (cJ, 1734, .inr (.inl o.1)))), (52, (ad 52, .inl (cJ, 102, .inr (.inl o.2))))] ws z) 132 [(0, .ref (ad 37)), (1, .int x1), (3, .int x3), (4, .int x4), (5, .int x5), (6, .long x6)] [] [(51, (ad 51, .inl (cJ, 1734, .inr (.inl m_best)))), (52, (ad 52, .inl (cJ, 102, .inr (.inl m_row))))] := by
  intro x1 x3 x4 x5 x6 m_best m_row h
  unfold jn_X6_prices_132 at h
  refine k_iconst (v := 1) dX6_prices_132 (by decide) ?_
  refine k_goto 137 dX6_prices_133 (by decide) ?_
  refine k_sub [0, 1, 2, 3, 4, 5] rfl ?_
  exact wjn_X6_prices_137 (cI := cI) (cB := cB) (cJ := cJ) (cZ := cZ) (ad := ad) E hk60 _ _ _ _ _ _ _ _ h
set_option maxHeartbeats 4000000 in
set_option maxRecDepth 100000 in
theorem wlp_X6_prices_60 {l : Launch} {D : va_G} {cI cB cJ cZ : ClassId} {ad : Nat → Nat} {ws : va_W} {z : Nat} {m_thrown : Int32} {m_rules : Int32} {m_length : Int32} {m_tree : Int32} {m_tokens : Int32} {m_comments : Int32} {m_parts : Int32} {m_end : Int32} {m_open : Int32} {m_column : Int32} {m_printed : Int32} {m_repaired : Int32} {m_paid : Int32} {m_head : Nat → Int32} {m_size : Nat → Int32} {m_symbol : Nat → Int32} {m_sign : Nat → Int32} (E : ws[37]? = some (ad 37, .inr (6, [.int m_thrown, .int m_rules, .ref (ad 38), .ref (ad 39), .ref (ad 40), .ref (ad 41), .ref (ad 42), .int m_length, .ref (ad 43), .int m_tree, .ref (ad 44), .int m_tokens, .ref (ad 45), .ref (ad 46), .ref (ad 47), .int m_comments, .ref (ad 48), .ref (ad 49), .ref (ad 50), .ref (ad 51), .ref (ad 52), .ref (ad 53), .int m_parts, .ref (ad 54), .ref (ad 55), .ref (ad 56), .ref (ad 57), .ref (ad 58), .ref (ad 59), .ref (ad 60), .ref (ad 61), .int m_end, .int m_open, .ref (ad 62), .ref (ad 63), .ref (ad 64), .ref (ad 65), .ref (ad 66), .int m_column, .int m_printed, .ref (ad 67), .int m_repaired, .int m_paid])) ∧ ws[38]? = some (ad 38, .inl (cI, 20, .inl m_head)) ∧ ws[39]? = some (ad 39, .inl (cI, 20, .inl m_size)) ∧ ws[40]? = some (ad 40, .inl (cI, 100, .inl m_symbol)) ∧ ws[47]? = some (ad 47, .inl (cI, 17, .inl m_sign))) {o : (Nat → Int64) × (Nat → Int64)} {k176 : (Int32) → (Int32) → (Int32) → (Nat → Int64) → (Nat → Int64) → Option ((Nat → Int64) × (Nat → Int64))} (hk176 : ∀ (x1 : Int32) (x2 : Int32) (x3 : Int32) (m_best : Nat → Int64) (m_row : Nat → Int64), k176 x1 x2 x3 m_best m_row = some o → KW l xX6_prices D (kT cI cB cJ cZ) ws z (kQv D (kT cI cB cJ cZ) [(51, (ad 51, .inl (cJ, 1734, .inr (.inl o.1)))), (52, (ad 52, .inl (cJ, 102, .inr (.inl o.2))))] ws z) 176 [(0, .ref (ad 37)), (1, .int x1), (2, .int x2), (3, .int x3)] [] [(51, (ad 51, .inl (cJ, 1734, .inr (.inl m_best)))), (52, (ad 52, .inl (cJ, 102, .inr (.inl m_row))))]) : ∀ (n : Nat) (x1 : Int32) (x2 : Int32) (x3 : Int32) (x4 : Int32) (m_best : Nat → Int64) (m_row : Nat → Int64), lp_X6_prices_60 m_rules m_tokens m_head m_size m_symbol m_sign k176 n x1 x2 x3 x4 m_best m_row = some o → KW l xX6_prices D (kT cI cB cJ cZ) ws z (kQv D (kT cI cB cJ cZ) [(51, (ad 51, .inl (cJ, 1734, .inr (.inl o.1)))), (52, (ad 52, .inl (cJ, 102, .inr (.inl o.2))))] ws z) 60 [(0, .ref (ad 37)), (1, .int x1), (2, .int x2), (3, .int x3), (4, .int x4)] [] [(51, (ad 51, .inl (cJ, 1734, .inr (.inl m_best)))), (52, (ad 52, .inl (cJ, 102, .inr (.inl m_row))))] := by
  intro n
  induction n with
  | zero => intro x1 x2 x3 x4 m_best m_row h; exact absurd h (by simp [lp_X6_prices_60])
  | succ n hk60 =>
    intro x1 x2 x3 x4 m_best m_row h
    unfold lp_X6_prices_60 at h
    refine k_iload dX6_prices_60 4 rfl ?_
    refine k_aload_n dX6_prices_62 0 rfl rfl ?_
    refine k_get 37 11 E.1 rfl qX6_prices_wX6 (by decide) qX6_prices_f126 rfl dX6_prices_63 ?_
    refine k_icmp_gt 176 dX6_prices_66 (by decide) h (fun h => ?_) (fun h => ?_)
    · skip
      refine k_sub [0, 1, 2, 3] rfl ?_
      exact hk176 _ _ _ _ _ h
    · skip
      refine k_sipush (v := 289) dX6_prices_69 (by decide) ?_
      refine k_aload_n dX6_prices_72 0 rfl rfl ?_
      refine k_get 37 2 E.1 rfl qX6_prices_wX6 (by decide) qX6_prices_f7 rfl dX6_prices_73 ?_
      refine k_iload_n dX6_prices_76 3 rfl rfl ?_
      refine k_iald 38 0 E.2.1 rfl dX6_prices_77 h (fun v10 h => ?_)
      refine k_bipush (v := 9) dX6_prices_78 (by decide) ?_
      refine k_isub dX6_prices_80 ?_
      refine k_imul dX6_prices_81 ?_
      refine k_bipush (v := 17) dX6_prices_82 (by decide) ?_
      refine k_iload_n dX6_prices_84 1 rfl rfl ?_
      refine k_imul dX6_prices_85 ?_
      refine k_iadd dX6_prices_86 ?_
      refine k_iload dX6_prices_87 4 rfl ?_
      refine k_iadd dX6_prices_89 ?_
      refine k_istore (i := 5) (lv' := fun x => [(5, .int x), (0, .ref (ad 37)), (1, .int x1), (2, .int x2), (3, .int x3), (4, .int x4)]) dX6_prices_90 (Nat.le_of_ble_eq_true rfl) (fun _ => rfl) h (fun x5_11 h => ?_)
      refine k_aload_n dX6_prices_92 1 rfl rfl ?_
      refine k_get 37 20 E.1 rfl qX6_prices_wX6 (by decide) qX6_prices_f54 rfl dX6_prices_93 ?_
      refine k_bipush (v := 17) dX6_prices_96 (by decide) ?_
      refine k_aload_n dX6_prices_98 1 rfl rfl ?_
      refine k_get 37 3 E.1 rfl qX6_prices_wX6 (by decide) qX6_prices_f13 rfl dX6_prices_99 ?_
      refine k_iload_n dX6_prices_102 4 rfl rfl ?_
      refine k_iald 39 0 E.2.2.1 rfl dX6_prices_103 h (fun v12 h => ?_)
      refine k_imul dX6_prices_104 ?_
      refine k_iload dX6_prices_105 5 rfl ?_
      refine k_iadd dX6_prices_107 ?_
      refine k_lald 52 2 rfl rfl dX6_prices_108 h (fun v13 h => ?_)
      refine k_lconst (v := 1) dX6_prices_109 (by decide) ?_
      obtain ⟨r14, hr14, h⟩ := Option.bind_eq_some_iff.mp h
      refine k_calllS (As := [.long v13, .long 1]) (st := []) (Lc := []) (L' := [(51, (ad 51, .inl (cJ, 1734, .inr (.inl m_best)))), (52, (ad 52, .inl (cJ, 102, .inr (.inl m_row))))]) (r := r14) gX6_prices_X6_sum rfl rfl rfl hySX6_sum ⟨Nat.le_of_ble_eq_true rfl, Nat.le_of_ble_eq_true rfl⟩ rfl rfl (Nat.le_of_ble_eq_true rfl) dX6_prices_110 (fun w z hw => c_X6_sum (cI := cI) (cB := cB) (cJ := cJ) (cZ := cZ) (ad := ad) w z trivial  hr14) rfl rfl ?_
      refine k_lstore (i := 6) (lv' := fun x => [(6, .long x), (5, .int x5_11), (0, .ref (ad 37)), (1, .int x1), (2, .int x2), (3, .int x3), (4, .int x4)]) dX6_prices_113 (Nat.le_of_ble_eq_true rfl) (fun _ => rfl) h (fun x6_15 h => ?_)
      refine k_iload_n dX6_prices_115 4 rfl rfl ?_
      refine k_if_ne 132 dX6_prices_116 (by decide) h (fun h => ?_) (fun h => ?_)
      · skip
        refine k_lload dX6_prices_119 0 rfl ?_
        refine k_aload_n dX6_prices_121 2 rfl rfl ?_
        refine k_get 37 19 E.1 rfl qX6_prices_wX6 (by decide) qX6_prices_f50 rfl dX6_prices_122 ?_
        refine k_iload dX6_prices_125 1 rfl ?_
        refine k_lald 51 2 rfl rfl dX6_prices_127 h (fun v16 h => ?_)
        refine k_lcmp dX6_prices_128 ?_
        refine k_if_ge 136 dX6_prices_129 (by decide) h (fun h => ?_) (fun h => ?_)
        · skip
          refine k_iconst (v := 0) dX6_prices_136 (by decide) ?_
          refine k_sub [2, 3, 5, 6, 1, 0] rfl ?_
          exact wjn_X6_prices_137 (cI := cI) (cB := cB) (cJ := cJ) (cZ := cZ) (ad := ad) E hk60 _ _ _ _ _ _ _ _ h
        · skip
          refine k_sub [2, 3, 5, 6, 1, 0] rfl ?_
          exact wjn_X6_prices_132 (cI := cI) (cB := cB) (cJ := cJ) (cZ := cZ) (ad := ad) E hk60 _ _ _ _ _ _ _ h
      · skip
        refine k_sub [2, 3, 5, 6, 1, 0] rfl ?_
        exact wjn_X6_prices_132 (cI := cI) (cB := cB) (cJ := cJ) (cZ := cZ) (ad := ad) E hk60 _ _ _ _ _ _ _ h
set_option maxHeartbeats 4000000 in
set_option maxRecDepth 100000 in
theorem wlp_X6_prices_43 {l : Launch} {D : va_G} {cI cB cJ cZ : ClassId} {ad : Nat → Nat} {ws : va_W} {z : Nat} {m_thrown : Int32} {m_rules : Int32} {m_length : Int32} {m_tree : Int32} {m_tokens : Int32} {m_comments : Int32} {m_parts : Int32} {m_end : Int32} {m_open : Int32} {m_column : Int32} {m_printed : Int32} {m_repaired : Int32} {m_paid : Int32} {m_head : Nat → Int32} {m_size : Nat → Int32} {m_symbol : Nat → Int32} {m_sign : Nat → Int32} (E : ws[37]? = some (ad 37, .inr (6, [.int m_thrown, .int m_rules, .ref (ad 38), .ref (ad 39), .ref (ad 40), .ref (ad 41), .ref (ad 42), .int m_length, .ref (ad 43), .int m_tree, .ref (ad 44), .int m_tokens, .ref (ad 45), .ref (ad 46), .ref (ad 47), .int m_comments, .ref (ad 48), .ref (ad 49), .ref (ad 50), .ref (ad 51), .ref (ad 52), .ref (ad 53), .int m_parts, .ref (ad 54), .ref (ad 55), .ref (ad 56), .ref (ad 57), .ref (ad 58), .ref (ad 59), .ref (ad 60), .ref (ad 61), .int m_end, .int m_open, .ref (ad 62), .ref (ad 63), .ref (ad 64), .ref (ad 65), .ref (ad 66), .int m_column, .int m_printed, .ref (ad 67), .int m_repaired, .int m_paid])) ∧ ws[38]? = some (ad 38, .inl (cI, 20, .inl m_head)) ∧ ws[39]? = some (ad 39, .inl (cI, 20, .inl m_size)) ∧ ws[40]? = some (ad 40, .inl (cI, 100, .inl m_symbol)) ∧ ws[47]? = some (ad 47, .inl (cI, 17, .inl m_sign))) {o : (Nat → Int64) × (Nat → Int64)} {k182 : (Int32) → (Int32) → (Nat → Int64) → (Nat → Int64) → Option ((Nat → Int64) × (Nat → Int64))} (hk182 : ∀ (x1 : Int32) (x2 : Int32) (m_best : Nat → Int64) (m_row : Nat → Int64), k182 x1 x2 m_best m_row = some o → KW l xX6_prices D (kT cI cB cJ cZ) ws z (kQv D (kT cI cB cJ cZ) [(51, (ad 51, .inl (cJ, 1734, .inr (.inl o.1)))), (52, (ad 52, .inl (cJ, 102, .inr (.inl o.2))))] ws z) 182 [(0, .ref (ad 37)), (1, .int x1), (2, .int x2)] [] [(51, (ad 51, .inl (cJ, 1734, .inr (.inl m_best)))), (52, (ad 52, .inl (cJ, 102, .inr (.inl m_row))))]) : ∀ (n : Nat) (x1 : Int32) (x2 : Int32) (x3 : Int32) (m_best : Nat → Int64) (m_row : Nat → Int64), lp_X6_prices_43 m_rules m_tokens m_head m_size m_symbol m_sign k182 n x1 x2 x3 m_best m_row = some o → KW l xX6_prices D (kT cI cB cJ cZ) ws z (kQv D (kT cI cB cJ cZ) [(51, (ad 51, .inl (cJ, 1734, .inr (.inl o.1)))), (52, (ad 52, .inl (cJ, 102, .inr (.inl o.2))))] ws z) 43 [(0, .ref (ad 37)), (1, .int x1), (2, .int x2), (3, .int x3)] [] [(51, (ad 51, .inl (cJ, 1734, .inr (.inl m_best)))), (52, (ad 52, .inl (cJ, 102, .inr (.inl m_row))))] := by
  intro n
  induction n with
  | zero => intro x1 x2 x3 m_best m_row h; exact absurd h (by simp [lp_X6_prices_43])
  | succ n hk43 =>
    intro x1 x2 x3 m_best m_row h
    unfold lp_X6_prices_43 at h
    refine k_iload_n dX6_prices_43 3 rfl rfl ?_
    refine k_aload_n dX6_prices_44 0 rfl rfl ?_
    refine k_get 37 1 E.1 rfl qX6_prices_wX6 (by decide) qX6_prices_f110 rfl dX6_prices_45 ?_
    refine k_icmp_ge 182 dX6_prices_48 (by decide) h (fun h => ?_) (fun h => ?_)
    · skip
      refine k_sub [0, 1, 2] rfl ?_
      exact hk182 _ _ _ _ h
    · skip
      refine k_aload_n dX6_prices_51 0 rfl rfl ?_
      refine k_iload_n dX6_prices_52 3 rfl rfl ?_
      refine k_iload_n dX6_prices_53 1 rfl rfl ?_
      obtain ⟨r8, hr8, h⟩ := Option.bind_eq_some_iff.mp h
      refine k_callvV (As := [.int x3, .int x1]) (st := []) (Lc := [(52, (ad 52, .inl (cJ, 102, .inr (.inl r8))))]) (L' := [(51, (ad 51, .inl (cJ, 1734, .inr (.inl m_best)))), (52, (ad 52, .inl (cJ, 102, .inr (.inl r8))))]) gX6_prices_X6_fill rfl rfl rfl hyVX6_fill ⟨Nat.le_of_ble_eq_true rfl, Nat.le_of_ble_eq_true rfl⟩ rfl rfl (Nat.le_of_ble_eq_true rfl) 37 E.1 rfl dX6_prices_54 (fun w z hw => c_X6_fill (cI := cI) (cB := cB) (cJ := cJ) (cZ := cZ) (ad := ad) w z ⟨((hw 37).trans E.1), ((hw 39).trans E.2.2.1), ((hw 40).trans E.2.2.2.1), ((hw 47).trans E.2.2.2.2), (hw 51)⟩ (hw 52) hr8) rfl rfl ?_
      refine k_iload_n dX6_prices_57 1 rfl rfl ?_
      refine k_istore (i := 4) (lv' := fun x => [(4, .int x), (0, .ref (ad 37)), (1, .int x1), (2, .int x2), (3, .int x3)]) dX6_prices_58 (Nat.le_of_ble_eq_true rfl) (fun _ => rfl) h (fun x4_9 h => ?_)
      refine k_sub [1, 2, 3, 4, 0] rfl ?_
      refine wlp_X6_prices_60 (cI := cI) (cB := cB) (cJ := cJ) (cZ := cZ) (ad := ad) E ?_ FU _ _ _ _ _ _ h
      · intro x1 x2 x3 m_best m_row h
        refine k_iinc (i := 3) (lv' := fun x => [(3, .int x), (0, .ref (ad 37)), (1, .int x1), (2, .int x2)]) dX6_prices_176 3 rfl (Nat.le_of_ble_eq_true rfl) (fun _ => rfl) h (fun x3_22 h => ?_)
        refine k_goto 43 dX6_prices_179 (by decide) ?_
        refine k_sub [1, 2, 3, 0] rfl ?_
        exact hk43 _ _ _ _ _ h
set_option maxHeartbeats 4000000 in
set_option maxRecDepth 100000 in
theorem wlp_X6_prices_35 {l : Launch} {D : va_G} {cI cB cJ cZ : ClassId} {ad : Nat → Nat} {ws : va_W} {z : Nat} {m_thrown : Int32} {m_rules : Int32} {m_length : Int32} {m_tree : Int32} {m_tokens : Int32} {m_comments : Int32} {m_parts : Int32} {m_end : Int32} {m_open : Int32} {m_column : Int32} {m_printed : Int32} {m_repaired : Int32} {m_paid : Int32} {m_head : Nat → Int32} {m_size : Nat → Int32} {m_symbol : Nat → Int32} {m_sign : Nat → Int32} (E : ws[37]? = some (ad 37, .inr (6, [.int m_thrown, .int m_rules, .ref (ad 38), .ref (ad 39), .ref (ad 40), .ref (ad 41), .ref (ad 42), .int m_length, .ref (ad 43), .int m_tree, .ref (ad 44), .int m_tokens, .ref (ad 45), .ref (ad 46), .ref (ad 47), .int m_comments, .ref (ad 48), .ref (ad 49), .ref (ad 50), .ref (ad 51), .ref (ad 52), .ref (ad 53), .int m_parts, .ref (ad 54), .ref (ad 55), .ref (ad 56), .ref (ad 57), .ref (ad 58), .ref (ad 59), .ref (ad 60), .ref (ad 61), .int m_end, .int m_open, .ref (ad 62), .ref (ad 63), .ref (ad 64), .ref (ad 65), .ref (ad 66), .int m_column, .int m_printed, .ref (ad 67), .int m_repaired, .int m_paid])) ∧ ws[38]? = some (ad 38, .inl (cI, 20, .inl m_head)) ∧ ws[39]? = some (ad 39, .inl (cI, 20, .inl m_size)) ∧ ws[40]? = some (ad 40, .inl (cI, 100, .inl m_symbol)) ∧ ws[47]? = some (ad 47, .inl (cI, 17, .inl m_sign))) {o : (Nat → Int64) × (Nat → Int64)} {k185 : (Int32) → (Nat → Int64) → (Nat → Int64) → Option ((Nat → Int64) × (Nat → Int64))} (hk185 : ∀ (x1 : Int32) (m_best : Nat → Int64) (m_row : Nat → Int64), k185 x1 m_best m_row = some o → KW l xX6_prices D (kT cI cB cJ cZ) ws z (kQv D (kT cI cB cJ cZ) [(51, (ad 51, .inl (cJ, 1734, .inr (.inl o.1)))), (52, (ad 52, .inl (cJ, 102, .inr (.inl o.2))))] ws z) 185 [(0, .ref (ad 37)), (1, .int x1)] [] [(51, (ad 51, .inl (cJ, 1734, .inr (.inl m_best)))), (52, (ad 52, .inl (cJ, 102, .inr (.inl m_row))))]) : ∀ (n : Nat) (x1 : Int32) (x2 : Int32) (m_best : Nat → Int64) (m_row : Nat → Int64), lp_X6_prices_35 m_rules m_tokens m_head m_size m_symbol m_sign k185 n x1 x2 m_best m_row = some o → KW l xX6_prices D (kT cI cB cJ cZ) ws z (kQv D (kT cI cB cJ cZ) [(51, (ad 51, .inl (cJ, 1734, .inr (.inl o.1)))), (52, (ad 52, .inl (cJ, 102, .inr (.inl o.2))))] ws z) 35 [(0, .ref (ad 37)), (1, .int x1), (2, .int x2)] [] [(51, (ad 51, .inl (cJ, 1734, .inr (.inl m_best)))), (52, (ad 52, .inl (cJ, 102, .inr (.inl m_row))))] := by
  intro n
  induction n with
  | zero => intro x1 x2 m_best m_row h; exact absurd h (by simp [lp_X6_prices_35])
  | succ n hk35 =>
    intro x1 x2 m_best m_row h
    unfold lp_X6_prices_35 at h
    refine k_iload_n dX6_prices_35 2 rfl rfl ?_
    refine k_if_eq 185 dX6_prices_36 (by decide) h (fun h => ?_) (fun h => ?_)
    · skip
      refine k_sub [0, 1] rfl ?_
      exact hk185 _ _ _ h
    · skip
      refine k_iconst (v := 0) dX6_prices_39 (by decide) ?_
      refine k_istore_n (i := 2) (lv' := fun x => [(2, .int x), (0, .ref (ad 37)), (1, .int x1)]) dX6_prices_40 rfl (Nat.le_of_ble_eq_true rfl) (fun _ => rfl) h (fun x2_6 h => ?_)
      refine k_iconst (v := 0) dX6_prices_41 (by decide) ?_
      refine k_istore_n (i := 3) (lv' := fun x => [(3, .int x), (2, .int x2_6), (0, .ref (ad 37)), (1, .int x1)]) dX6_prices_42 rfl (Nat.le_of_ble_eq_true rfl) (fun _ => rfl) h (fun x3_7 h => ?_)
      refine k_sub [2, 3, 1, 0] rfl ?_
      refine wlp_X6_prices_43 (cI := cI) (cB := cB) (cJ := cJ) (cZ := cZ) (ad := ad) E ?_ FU _ _ _ _ _ h
      · intro x1 x2 m_best m_row h
        refine k_goto 35 dX6_prices_182 (by decide) ?_
        refine k_sub [0, 1, 2] rfl ?_
        exact hk35 _ _ _ _ h
set_option maxHeartbeats 4000000 in
set_option maxRecDepth 100000 in
theorem wlp_X6_prices_29 {l : Launch} {D : va_G} {cI cB cJ cZ : ClassId} {ad : Nat → Nat} {ws : va_W} {z : Nat} {m_thrown : Int32} {m_rules : Int32} {m_length : Int32} {m_tree : Int32} {m_tokens : Int32} {m_comments : Int32} {m_parts : Int32} {m_end : Int32} {m_open : Int32} {m_column : Int32} {m_printed : Int32} {m_repaired : Int32} {m_paid : Int32} {m_head : Nat → Int32} {m_size : Nat → Int32} {m_symbol : Nat → Int32} {m_sign : Nat → Int32} (E : ws[37]? = some (ad 37, .inr (6, [.int m_thrown, .int m_rules, .ref (ad 38), .ref (ad 39), .ref (ad 40), .ref (ad 41), .ref (ad 42), .int m_length, .ref (ad 43), .int m_tree, .ref (ad 44), .int m_tokens, .ref (ad 45), .ref (ad 46), .ref (ad 47), .int m_comments, .ref (ad 48), .ref (ad 49), .ref (ad 50), .ref (ad 51), .ref (ad 52), .ref (ad 53), .int m_parts, .ref (ad 54), .ref (ad 55), .ref (ad 56), .ref (ad 57), .ref (ad 58), .ref (ad 59), .ref (ad 60), .ref (ad 61), .int m_end, .int m_open, .ref (ad 62), .ref (ad 63), .ref (ad 64), .ref (ad 65), .ref (ad 66), .int m_column, .int m_printed, .ref (ad 67), .int m_repaired, .int m_paid])) ∧ ws[38]? = some (ad 38, .inl (cI, 20, .inl m_head)) ∧ ws[39]? = some (ad 39, .inl (cI, 20, .inl m_size)) ∧ ws[40]? = some (ad 40, .inl (cI, 100, .inl m_symbol)) ∧ ws[47]? = some (ad 47, .inl (cI, 17, .inl m_sign))) {o : (Nat → Int64) × (Nat → Int64)} {k191 : (Nat → Int64) → (Nat → Int64) → Option ((Nat → Int64) × (Nat → Int64))} (hk191 : ∀ (m_best : Nat → Int64) (m_row : Nat → Int64), k191 m_best m_row = some o → KW l xX6_prices D (kT cI cB cJ cZ) ws z (kQv D (kT cI cB cJ cZ) [(51, (ad 51, .inl (cJ, 1734, .inr (.inl o.1)))), (52, (ad 52, .inl (cJ, 102, .inr (.inl o.2))))] ws z) 191 [] [] [(51, (ad 51, .inl (cJ, 1734, .inr (.inl m_best)))), (52, (ad 52, .inl (cJ, 102, .inr (.inl m_row))))]) : ∀ (n : Nat) (x1 : Int32) (m_best : Nat → Int64) (m_row : Nat → Int64), lp_X6_prices_29 m_rules m_tokens m_head m_size m_symbol m_sign k191 n x1 m_best m_row = some o → KW l xX6_prices D (kT cI cB cJ cZ) ws z (kQv D (kT cI cB cJ cZ) [(51, (ad 51, .inl (cJ, 1734, .inr (.inl o.1)))), (52, (ad 52, .inl (cJ, 102, .inr (.inl o.2))))] ws z) 29 [(0, .ref (ad 37)), (1, .int x1)] [] [(51, (ad 51, .inl (cJ, 1734, .inr (.inl m_best)))), (52, (ad 52, .inl (cJ, 102, .inr (.inl m_row))))] := by
  intro n
  induction n with
  | zero => intro x1 m_best m_row h; exact absurd h (by simp [lp_X6_prices_29])
  | succ n hk29 =>
    intro x1 m_best m_row h
    unfold lp_X6_prices_29 at h
    refine k_iload_n dX6_prices_29 1 rfl rfl ?_
    refine k_if_lt 191 dX6_prices_30 (by decide) h (fun h => ?_) (fun h => ?_)
    · skip
      refine k_sub [] rfl ?_
      exact hk191 _ _ h
    · skip
      refine k_iconst (v := 1) dX6_prices_33 (by decide) ?_
      refine k_istore_n (i := 2) (lv' := fun x => [(2, .int x), (0, .ref (ad 37)), (1, .int x1)]) dX6_prices_34 rfl (Nat.le_of_ble_eq_true rfl) (fun _ => rfl) h (fun x2_5 h => ?_)
      refine k_sub [1, 2, 0] rfl ?_
      refine wlp_X6_prices_35 (cI := cI) (cB := cB) (cJ := cJ) (cZ := cZ) (ad := ad) E ?_ FU _ _ _ _ h
      · intro x1 m_best m_row h
        refine k_iinc (i := 1) (lv' := fun x => [(1, .int x), (0, .ref (ad 37))]) dX6_prices_185 1 rfl (Nat.le_of_ble_eq_true rfl) (fun _ => rfl) h (fun x1_23 h => ?_)
        refine k_goto 29 dX6_prices_188 (by decide) ?_
        refine k_sub [1, 0] rfl ?_
        exact hk29 _ _ _ h
set_option maxHeartbeats 4000000 in
set_option maxRecDepth 100000 in
/-- KindParserModel.prices -/
theorem c_X6_prices {l : Launch} {D : va_G} {cI cB cJ cZ : ClassId} {ad : Nat → Nat} (ws : va_W) (z : Nat) {m_thrown : Int32} {m_rules : Int32} {m_length : Int32} {m_tree : Int32} {m_tokens : Int32} {m_comments : Int32} {m_parts : Int32} {m_end : Int32} {m_open : Int32} {m_column : Int32} {m_printed : Int32} {m_repaired : Int32} {m_paid : Int32} {m_head : Nat → Int32} {m_size : Nat → Int32} {m_symbol : Nat → Int32} {m_sign : Nat → Int32} {m_best : Nat → Int64} {m_row : Nat → Int64} (E : ws[37]? = some (ad 37, .inr (6, [.int m_thrown, .int m_rules, .ref (ad 38), .ref (ad 39), .ref (ad 40), .ref (ad 41), .ref (ad 42), .int m_length, .ref (ad 43), .int m_tree, .ref (ad 44), .int m_tokens, .ref (ad 45), .ref (ad 46), .ref (ad 47), .int m_comments, .ref (ad 48), .ref (ad 49), .ref (ad 50), .ref (ad 51), .ref (ad 52), .ref (ad 53), .int m_parts, .ref (ad 54), .ref (ad 55), .ref (ad 56), .ref (ad 57), .ref (ad 58), .ref (ad 59), .ref (ad 60), .ref (ad 61), .int m_end, .int m_open, .ref (ad 62), .ref (ad 63), .ref (ad 64), .ref (ad 65), .ref (ad 66), .int m_column, .int m_printed, .ref (ad 67), .int m_repaired, .int m_paid])) ∧ ws[38]? = some (ad 38, .inl (cI, 20, .inl m_head)) ∧ ws[39]? = some (ad 39, .inl (cI, 20, .inl m_size)) ∧ ws[40]? = some (ad 40, .inl (cI, 100, .inl m_symbol)) ∧ ws[47]? = some (ad 47, .inl (cI, 17, .inl m_sign))) (e51 : ws[51]? = some (ad 51, .inl (cJ, 1734, .inr (.inl m_best)))) (e52 : ws[52]? = some (ad 52, .inl (cJ, 102, .inr (.inl m_row))))  {o : (Nat → Int64) × (Nat → Int64)} (h : f_X6_prices m_rules m_tokens m_head m_size m_symbol m_sign m_best m_row = some o) : Met l yX6_prices wsX6_prices rmX6_prices (kPc D (kT cI cB cJ cZ) [.ref (ad 37)] ws z) (kQv D (kT cI cB cJ cZ) [(51, (ad 51, .inl (cJ, 1734, .inr (.inl o.1)))), (52, (ad 52, .inl (cJ, 102, .inr (.inl o.2))))] ws z) 0 0 (va_A ws z) := by
  refine KW.met (rm := rmX6_prices) (lv := [(0, .ref (ad 37))]) (L := [(51, (ad 51, .inl (cJ, 1734, .inr (.inl m_best)))), (52, (ad 52, .inl (cJ, 102, .inr (.inl m_row))))]) rfl (by decide) (Nat.le_of_ble_eq_true rfl) rfl (by intro q hq; simp only [List.mem_cons, List.not_mem_nil, or_false] at hq; rcases hq with rfl | rfl <;> assumption) ?_
  unfold f_X6_prices at h
  show KW l xX6_prices D (kT cI cB cJ cZ) ws z (kQv D (kT cI cB cJ cZ) [(51, (ad 51, .inl (cJ, 1734, .inr (.inl o.1)))), (52, (ad 52, .inl (cJ, 102, .inr (.inl o.2))))] ws z) 0 [(0, .ref (ad 37))] [] [(51, (ad 51, .inl (cJ, 1734, .inr (.inl m_best)))), (52, (ad 52, .inl (cJ, 102, .inr (.inl m_row))))]
  refine k_iconst (v := 0) dX6_prices_0 (by decide) ?_
  refine k_istore_n (i := 1) (lv' := fun x => [(1, .int x), (0, .ref (ad 37))]) dX6_prices_1 rfl (Nat.le_of_ble_eq_true rfl) (fun _ => rfl) h (fun x1_1 h => ?_)
  refine k_sub [1, 0] rfl ?_
  refine wlp_X6_prices_2 (cI := cI) (cB := cB) (cJ := cJ) (cZ := cZ) (ad := ad) E ?_ FU _ _ _ h
  · intro m_best m_row h
    refine k_aload_n dX6_prices_24 0 rfl rfl ?_
    refine k_get 37 11 E.1 rfl qX6_prices_wX6 (by decide) qX6_prices_f126 rfl dX6_prices_25 ?_
    refine k_istore_n (i := 1) (lv' := fun x => [(1, .int x), (0, .ref (ad 37))]) dX6_prices_28 rfl (Nat.le_of_ble_eq_true rfl) (fun _ => rfl) h (fun x1_4 h => ?_)
    refine k_sub [1, 0] rfl ?_
    refine wlp_X6_prices_29 (cI := cI) (cB := cB) (cJ := cJ) (cZ := cZ) (ad := ad) E ?_ FU _ _ _ h
    · intro m_best m_row h
      obtain rfl := Option.some.inj h
      exact k_vret rfl dX6_prices_191
abbrev rmX6_push : Room := { frames := 0, cells := 0, slots := 0, locals := 0 }
abbrev xX6_push : KX := (rmX6_push, cX6_push, 6, none, RX6, wsX6_push)
theorem hySX6_push : yX6_push.cls ≠ "java/lang/invoke/MethodHandle" ∧ yX6_push.cls ≠ "java/lang/invoke/VarHandle" ∧ (parseMethodDescriptor yX6_push.desc).map (fun d => d.parameters.length) = some 5 := by decide +kernel
theorem hyVX6_push : yX6_push.cls = RX6 ∧ yX6_push.cls ≠ "java/lang/invoke/MethodHandle" ∧ yX6_push.cls ≠ "java/lang/invoke/VarHandle" ∧ (parseMethodDescriptor yX6_push.desc).map (fun d => d.parameters.length) = some 5 := ⟨rfl, hySX6_push⟩
theorem qX6_push_wX6 : ∀ w ∈ u_ws RX6 TX6 43, w ∈ wsX6_push := by decide +kernel
theorem qX6_push_f84 : Cond.fieldLink RX6 84 "KindParserModel" "waiting" "[I" ∈ wsX6_push := by decide +kernel
theorem qX6_push_f154 : Cond.fieldLink RX6 154 "KindParserModel" "open" "I" ∈ wsX6_push := by decide +kernel
set_option maxHeartbeats 4000000 in
set_option maxRecDepth 100000 in
/-- KindParserModel.push -/
theorem c_X6_push {l : Launch} {D : va_G} {cI cB cJ cZ : ClassId} {ad : Nat → Nat} (ws : va_W) (z : Nat) {m_thrown : Int32} {m_rules : Int32} {m_length : Int32} {m_tree : Int32} {m_tokens : Int32} {m_comments : Int32} {m_parts : Int32} {m_end : Int32} {m_open : Int32} {m_column : Int32} {m_printed : Int32} {m_repaired : Int32} {m_paid : Int32} {m_waiting : Nat → Int32} (E : True) (e37 : ws[37]? = some (ad 37, .inr (6, [.int m_thrown, .int m_rules, .ref (ad 38), .ref (ad 39), .ref (ad 40), .ref (ad 41), .ref (ad 42), .int m_length, .ref (ad 43), .int m_tree, .ref (ad 44), .int m_tokens, .ref (ad 45), .ref (ad 46), .ref (ad 47), .int m_comments, .ref (ad 48), .ref (ad 49), .ref (ad 50), .ref (ad 51), .ref (ad 52), .ref (ad 53), .int m_parts, .ref (ad 54), .ref (ad 55), .ref (ad 56), .ref (ad 57), .ref (ad 58), .ref (ad 59), .ref (ad 60), .ref (ad 61), .int m_end, .int m_open, .ref (ad 62), .ref (ad 63), .ref (ad 64), .ref (ad 65), .ref (ad 66), .int m_column, .int m_printed, .ref (ad 67), .int m_repaired, .int m_paid]))) (e62 : ws[62]? = some (ad 62, .inl (cI, 4000, .inl m_waiting))) {a1 : Int32} {a2 : Int32} {a3 : Int32} {a4 : Int32} {a5 : Int32} {o : (Int32) × (Nat → Int32)} (h : f_X6_push a1 a2 a3 a4 a5 m_open m_waiting = some o) : Met l yX6_push wsX6_push rmX6_push (kPc D (kT cI cB cJ cZ) [.ref (ad 37), .int a1, .int a2, .int a3, .int a4, .int a5] ws z) (kQv D (kT cI cB cJ cZ) [(37, (ad 37, .inr (6, [.int m_thrown, .int m_rules, .ref (ad 38), .ref (ad 39), .ref (ad 40), .ref (ad 41), .ref (ad 42), .int m_length, .ref (ad 43), .int m_tree, .ref (ad 44), .int m_tokens, .ref (ad 45), .ref (ad 46), .ref (ad 47), .int m_comments, .ref (ad 48), .ref (ad 49), .ref (ad 50), .ref (ad 51), .ref (ad 52), .ref (ad 53), .int m_parts, .ref (ad 54), .ref (ad 55), .ref (ad 56), .ref (ad 57), .ref (ad 58), .ref (ad 59), .ref (ad 60), .ref (ad 61), .int m_end, .int o.1, .ref (ad 62), .ref (ad 63), .ref (ad 64), .ref (ad 65), .ref (ad 66), .int m_column, .int m_printed, .ref (ad 67), .int m_repaired, .int m_paid]))), (62, (ad 62, .inl (cI, 4000, .inl o.2)))] ws z) 0 0 (va_A ws z) := by
  refine KW.met (rm := rmX6_push) (lv := [(0, .ref (ad 37)), (1, .int a1), (2, .int a2), (3, .int a3), (4, .int a4), (5, .int a5)]) (L := [(37, (ad 37, .inr (6, [.int m_thrown, .int m_rules, .ref (ad 38), .ref (ad 39), .ref (ad 40), .ref (ad 41), .ref (ad 42), .int m_length, .ref (ad 43), .int m_tree, .ref (ad 44), .int m_tokens, .ref (ad 45), .ref (ad 46), .ref (ad 47), .int m_comments, .ref (ad 48), .ref (ad 49), .ref (ad 50), .ref (ad 51), .ref (ad 52), .ref (ad 53), .int m_parts, .ref (ad 54), .ref (ad 55), .ref (ad 56), .ref (ad 57), .ref (ad 58), .ref (ad 59), .ref (ad 60), .ref (ad 61), .int m_end, .int m_open, .ref (ad 62), .ref (ad 63), .ref (ad 64), .ref (ad 65), .ref (ad 66), .int m_column, .int m_printed, .ref (ad 67), .int m_repaired, .int m_paid]))), (62, (ad 62, .inl (cI, 4000, .inl m_waiting)))]) rfl (by decide) (Nat.le_of_ble_eq_true rfl) rfl (by intro q hq; simp only [List.mem_cons, List.not_mem_nil, or_false] at hq; rcases hq with rfl | rfl <;> assumption) ?_
  unfold f_X6_push at h
  show KW l xX6_push D (kT cI cB cJ cZ) ws z (kQv D (kT cI cB cJ cZ) [(37, (ad 37, .inr (6, [.int m_thrown, .int m_rules, .ref (ad 38), .ref (ad 39), .ref (ad 40), .ref (ad 41), .ref (ad 42), .int m_length, .ref (ad 43), .int m_tree, .ref (ad 44), .int m_tokens, .ref (ad 45), .ref (ad 46), .ref (ad 47), .int m_comments, .ref (ad 48), .ref (ad 49), .ref (ad 50), .ref (ad 51), .ref (ad 52), .ref (ad 53), .int m_parts, .ref (ad 54), .ref (ad 55), .ref (ad 56), .ref (ad 57), .ref (ad 58), .ref (ad 59), .ref (ad 60), .ref (ad 61), .int m_end, .int o.1, .ref (ad 62), .ref (ad 63), .ref (ad 64), .ref (ad 65), .ref (ad 66), .int m_column, .int m_printed, .ref (ad 67), .int m_repaired, .int m_paid]))), (62, (ad 62, .inl (cI, 4000, .inl o.2)))] ws z) 0 [(0, .ref (ad 37)), (1, .int a1), (2, .int a2), (3, .int a3), (4, .int a4), (5, .int a5)] [] [(37, (ad 37, .inr (6, [.int m_thrown, .int m_rules, .ref (ad 38), .ref (ad 39), .ref (ad 40), .ref (ad 41), .ref (ad 42), .int m_length, .ref (ad 43), .int m_tree, .ref (ad 44), .int m_tokens, .ref (ad 45), .ref (ad 46), .ref (ad 47), .int m_comments, .ref (ad 48), .ref (ad 49), .ref (ad 50), .ref (ad 51), .ref (ad 52), .ref (ad 53), .int m_parts, .ref (ad 54), .ref (ad 55), .ref (ad 56), .ref (ad 57), .ref (ad 58), .ref (ad 59), .ref (ad 60), .ref (ad 61), .int m_end, .int m_open, .ref (ad 62), .ref (ad 63), .ref (ad 64), .ref (ad 65), .ref (ad 66), .int m_column, .int m_printed, .ref (ad 67), .int m_repaired, .int m_paid]))), (62, (ad 62, .inl (cI, 4000, .inl m_waiting)))]
  refine k_aload_n dX6_push_0 0 rfl rfl ?_
  refine k_get 37 33 rfl rfl qX6_push_wX6 (by decide) qX6_push_f84 rfl dX6_push_1 ?_
  refine k_iconst (v := 5) dX6_push_4 (by decide) ?_
  refine k_aload_n dX6_push_5 0 rfl rfl ?_
  refine k_get 37 32 rfl rfl qX6_push_wX6 (by decide) qX6_push_f154 rfl dX6_push_6 ?_
  refine k_imul dX6_push_9 ?_
  refine k_iload_n dX6_push_10 1 rfl rfl ?_
  refine k_iast (L' := fun f => [(37, (ad 37, .inr (6, [.int m_thrown, .int m_rules, .ref (ad 38), .ref (ad 39), .ref (ad 40), .ref (ad 41), .ref (ad 42), .int m_length, .ref (ad 43), .int m_tree, .ref (ad 44), .int m_tokens, .ref (ad 45), .ref (ad 46), .ref (ad 47), .int m_comments, .ref (ad 48), .ref (ad 49), .ref (ad 50), .ref (ad 51), .ref (ad 52), .ref (ad 53), .int m_parts, .ref (ad 54), .ref (ad 55), .ref (ad 56), .ref (ad 57), .ref (ad 58), .ref (ad 59), .ref (ad 60), .ref (ad 61), .int m_end, .int m_open, .ref (ad 62), .ref (ad 63), .ref (ad 64), .ref (ad 65), .ref (ad 66), .int m_column, .int m_printed, .ref (ad 67), .int m_repaired, .int m_paid]))), (62, (ad 62, .inl (cI, 4000, .inl f)))]) 62 0 rfl rfl rfl dX6_push_11 h (fun _ => rfl) (fun m_waiting_1 h => ?_)
  refine k_aload_n dX6_push_12 0 rfl rfl ?_
  refine k_get 37 33 rfl rfl qX6_push_wX6 (by decide) qX6_push_f84 rfl dX6_push_13 ?_
  refine k_iconst (v := 5) dX6_push_16 (by decide) ?_
  refine k_aload_n dX6_push_17 0 rfl rfl ?_
  refine k_get 37 32 rfl rfl qX6_push_wX6 (by decide) qX6_push_f154 rfl dX6_push_18 ?_
  refine k_imul dX6_push_21 ?_
  refine k_iconst (v := 1) dX6_push_22 (by decide) ?_
  refine k_iadd dX6_push_23 ?_
  refine k_iload_n dX6_push_24 2 rfl rfl ?_
  refine k_iast (L' := fun f => [(37, (ad 37, .inr (6, [.int m_thrown, .int m_rules, .ref (ad 38), .ref (ad 39), .ref (ad 40), .ref (ad 41), .ref (ad 42), .int m_length, .ref (ad 43), .int m_tree, .ref (ad 44), .int m_tokens, .ref (ad 45), .ref (ad 46), .ref (ad 47), .int m_comments, .ref (ad 48), .ref (ad 49), .ref (ad 50), .ref (ad 51), .ref (ad 52), .ref (ad 53), .int m_parts, .ref (ad 54), .ref (ad 55), .ref (ad 56), .ref (ad 57), .ref (ad 58), .ref (ad 59), .ref (ad 60), .ref (ad 61), .int m_end, .int m_open, .ref (ad 62), .ref (ad 63), .ref (ad 64), .ref (ad 65), .ref (ad 66), .int m_column, .int m_printed, .ref (ad 67), .int m_repaired, .int m_paid]))), (62, (ad 62, .inl (cI, 4000, .inl f)))]) 62 0 rfl rfl rfl dX6_push_25 h (fun _ => rfl) (fun m_waiting_2 h => ?_)
  refine k_aload_n dX6_push_26 0 rfl rfl ?_
  refine k_get 37 33 rfl rfl qX6_push_wX6 (by decide) qX6_push_f84 rfl dX6_push_27 ?_
  refine k_iconst (v := 5) dX6_push_30 (by decide) ?_
  refine k_aload_n dX6_push_31 0 rfl rfl ?_
  refine k_get 37 32 rfl rfl qX6_push_wX6 (by decide) qX6_push_f154 rfl dX6_push_32 ?_
  refine k_imul dX6_push_35 ?_
  refine k_iconst (v := 2) dX6_push_36 (by decide) ?_
  refine k_iadd dX6_push_37 ?_
  refine k_iload_n dX6_push_38 3 rfl rfl ?_
  refine k_iast (L' := fun f => [(37, (ad 37, .inr (6, [.int m_thrown, .int m_rules, .ref (ad 38), .ref (ad 39), .ref (ad 40), .ref (ad 41), .ref (ad 42), .int m_length, .ref (ad 43), .int m_tree, .ref (ad 44), .int m_tokens, .ref (ad 45), .ref (ad 46), .ref (ad 47), .int m_comments, .ref (ad 48), .ref (ad 49), .ref (ad 50), .ref (ad 51), .ref (ad 52), .ref (ad 53), .int m_parts, .ref (ad 54), .ref (ad 55), .ref (ad 56), .ref (ad 57), .ref (ad 58), .ref (ad 59), .ref (ad 60), .ref (ad 61), .int m_end, .int m_open, .ref (ad 62), .ref (ad 63), .ref (ad 64), .ref (ad 65), .ref (ad 66), .int m_column, .int m_printed, .ref (ad 67), .int m_repaired, .int m_paid]))), (62, (ad 62, .inl (cI, 4000, .inl f)))]) 62 0 rfl rfl rfl dX6_push_39 h (fun _ => rfl) (fun m_waiting_3 h => ?_)
  refine k_aload_n dX6_push_40 0 rfl rfl ?_
  refine k_get 37 33 rfl rfl qX6_push_wX6 (by decide) qX6_push_f84 rfl dX6_push_41 ?_
  refine k_iconst (v := 5) dX6_push_44 (by decide) ?_
  refine k_aload_n dX6_push_45 0 rfl rfl ?_
  refine k_get 37 32 rfl rfl qX6_push_wX6 (by decide) qX6_push_f154 rfl dX6_push_46 ?_
  refine k_imul dX6_push_49 ?_
  refine k_iconst (v := 3) dX6_push_50 (by decide) ?_
  refine k_iadd dX6_push_51 ?_
  refine k_iload dX6_push_52 4 rfl ?_
  refine k_iast (L' := fun f => [(37, (ad 37, .inr (6, [.int m_thrown, .int m_rules, .ref (ad 38), .ref (ad 39), .ref (ad 40), .ref (ad 41), .ref (ad 42), .int m_length, .ref (ad 43), .int m_tree, .ref (ad 44), .int m_tokens, .ref (ad 45), .ref (ad 46), .ref (ad 47), .int m_comments, .ref (ad 48), .ref (ad 49), .ref (ad 50), .ref (ad 51), .ref (ad 52), .ref (ad 53), .int m_parts, .ref (ad 54), .ref (ad 55), .ref (ad 56), .ref (ad 57), .ref (ad 58), .ref (ad 59), .ref (ad 60), .ref (ad 61), .int m_end, .int m_open, .ref (ad 62), .ref (ad 63), .ref (ad 64), .ref (ad 65), .ref (ad 66), .int m_column, .int m_printed, .ref (ad 67), .int m_repaired, .int m_paid]))), (62, (ad 62, .inl (cI, 4000, .inl f)))]) 62 0 rfl rfl rfl dX6_push_54 h (fun _ => rfl) (fun m_waiting_4 h => ?_)
  refine k_aload_n dX6_push_55 0 rfl rfl ?_
  refine k_get 37 33 rfl rfl qX6_push_wX6 (by decide) qX6_push_f84 rfl dX6_push_56 ?_
  refine k_iconst (v := 5) dX6_push_59 (by decide) ?_
  refine k_aload_n dX6_push_60 0 rfl rfl ?_
  refine k_get 37 32 rfl rfl qX6_push_wX6 (by decide) qX6_push_f154 rfl dX6_push_61 ?_
  refine k_imul dX6_push_64 ?_
  refine k_iconst (v := 4) dX6_push_65 (by decide) ?_
  refine k_iadd dX6_push_66 ?_
  refine k_iload dX6_push_67 5 rfl ?_
  refine k_iast (L' := fun f => [(37, (ad 37, .inr (6, [.int m_thrown, .int m_rules, .ref (ad 38), .ref (ad 39), .ref (ad 40), .ref (ad 41), .ref (ad 42), .int m_length, .ref (ad 43), .int m_tree, .ref (ad 44), .int m_tokens, .ref (ad 45), .ref (ad 46), .ref (ad 47), .int m_comments, .ref (ad 48), .ref (ad 49), .ref (ad 50), .ref (ad 51), .ref (ad 52), .ref (ad 53), .int m_parts, .ref (ad 54), .ref (ad 55), .ref (ad 56), .ref (ad 57), .ref (ad 58), .ref (ad 59), .ref (ad 60), .ref (ad 61), .int m_end, .int m_open, .ref (ad 62), .ref (ad 63), .ref (ad 64), .ref (ad 65), .ref (ad 66), .int m_column, .int m_printed, .ref (ad 67), .int m_repaired, .int m_paid]))), (62, (ad 62, .inl (cI, 4000, .inl f)))]) 62 0 rfl rfl rfl dX6_push_69 h (fun _ => rfl) (fun m_waiting_5 h => ?_)
  refine k_aload_n dX6_push_70 0 rfl rfl ?_
  refine k_dup dX6_push_71 rfl ?_
  refine k_get 37 32 rfl rfl qX6_push_wX6 (by decide) qX6_push_f154 rfl dX6_push_72 ?_
  refine k_iconst (v := 1) dX6_push_75 (by decide) ?_
  refine k_iadd dX6_push_76 ?_
  refine k_put (L' := [(37, (ad 37, .inr (6, [.int m_thrown, .int m_rules, .ref (ad 38), .ref (ad 39), .ref (ad 40), .ref (ad 41), .ref (ad 42), .int m_length, .ref (ad 43), .int m_tree, .ref (ad 44), .int m_tokens, .ref (ad 45), .ref (ad 46), .ref (ad 47), .int m_comments, .ref (ad 48), .ref (ad 49), .ref (ad 50), .ref (ad 51), .ref (ad 52), .ref (ad 53), .int m_parts, .ref (ad 54), .ref (ad 55), .ref (ad 56), .ref (ad 57), .ref (ad 58), .ref (ad 59), .ref (ad 60), .ref (ad 61), .int m_end, .int (m_open + 1), .ref (ad 62), .ref (ad 63), .ref (ad 64), .ref (ad 65), .ref (ad 66), .int m_column, .int m_printed, .ref (ad 67), .int m_repaired, .int m_paid]))), (62, (ad 62, .inl (cI, 4000, .inl m_waiting_5)))]) 37 32 rfl rfl qX6_push_wX6 (by decide) tyX6 tyX6_ok nmX6 rfl qX6_push_f154 rfl (tyX6_ok 32 (by decide)) rfl rfl (Nat.le_of_ble_eq_true rfl) dX6_push_77 rfl ?_
  obtain rfl := Option.some.inj h
  exact k_vret rfl dX6_push_80
abbrev rmX6_choose : Room := { frames := 2, cells := 0, slots := 0, locals := 53 }
abbrev xX6_choose : KX := (rmX6_choose, cX6_choose, 9, some .int, RX6, wsX6_choose)
theorem hySX6_choose : yX6_choose.cls ≠ "java/lang/invoke/MethodHandle" ∧ yX6_choose.cls ≠ "java/lang/invoke/VarHandle" ∧ (parseMethodDescriptor yX6_choose.desc).map (fun d => d.parameters.length) = some 3 := by decide +kernel
theorem hyVX6_choose : yX6_choose.cls = RX6 ∧ yX6_choose.cls ≠ "java/lang/invoke/MethodHandle" ∧ yX6_choose.cls ≠ "java/lang/invoke/VarHandle" ∧ (parseMethodDescriptor yX6_choose.desc).map (fun d => d.parameters.length) = some 3 := ⟨rfl, hySX6_choose⟩
theorem qX6_choose_wX6 : ∀ w ∈ u_ws RX6 TX6 43, w ∈ wsX6_choose := by decide +kernel
theorem qX6_choose_f50 : Cond.fieldLink RX6 50 "KindParserModel" "best" "[J" ∈ wsX6_choose := by decide +kernel
theorem qX6_choose_f110 : Cond.fieldLink RX6 110 "KindParserModel" "rules" "I" ∈ wsX6_choose := by decide +kernel
theorem qX6_choose_f7 : Cond.fieldLink RX6 7 "KindParserModel" "head" "[I" ∈ wsX6_choose := by decide +kernel
theorem qX6_choose_f54 : Cond.fieldLink RX6 54 "KindParserModel" "row" "[J" ∈ wsX6_choose := by decide +kernel
theorem qX6_choose_f13 : Cond.fieldLink RX6 13 "KindParserModel" "size" "[I" ∈ wsX6_choose := by decide +kernel
theorem qX6_choose_f57 : Cond.fieldLink RX6 57 "KindParserModel" "cut" "[I" ∈ wsX6_choose := by decide +kernel
theorem qX6_choose_f16 : Cond.fieldLink RX6 16 "KindParserModel" "symbol" "[I" ∈ wsX6_choose := by decide +kernel
set_option maxHeartbeats 4000000 in
set_option maxRecDepth 100000 in
theorem wlp_X6_choose_115 {l : Launch} {D : va_G} {cI cB cJ cZ : ClassId} {ad : Nat → Nat} {ws : va_W} {z : Nat} {m_thrown : Int32} {m_rules : Int32} {m_length : Int32} {m_tree : Int32} {m_tokens : Int32} {m_comments : Int32} {m_parts : Int32} {m_end : Int32} {m_open : Int32} {m_column : Int32} {m_printed : Int32} {m_repaired : Int32} {m_paid : Int32} {m_head : Nat → Int32} {m_size : Nat → Int32} {m_symbol : Nat → Int32} {m_sign : Nat → Int32} {m_best : Nat → Int64} (E : ws[37]? = some (ad 37, .inr (6, [.int m_thrown, .int m_rules, .ref (ad 38), .ref (ad 39), .ref (ad 40), .ref (ad 41), .ref (ad 42), .int m_length, .ref (ad 43), .int m_tree, .ref (ad 44), .int m_tokens, .ref (ad 45), .ref (ad 46), .ref (ad 47), .int m_comments, .ref (ad 48), .ref (ad 49), .ref (ad 50), .ref (ad 51), .ref (ad 52), .ref (ad 53), .int m_parts, .ref (ad 54), .ref (ad 55), .ref (ad 56), .ref (ad 57), .ref (ad 58), .ref (ad 59), .ref (ad 60), .ref (ad 61), .int m_end, .int m_open, .ref (ad 62), .ref (ad 63), .ref (ad 64), .ref (ad 65), .ref (ad 66), .int m_column, .int m_printed, .ref (ad 67), .int m_repaired, .int m_paid])) ∧ ws[38]? = some (ad 38, .inl (cI, 20, .inl m_head)) ∧ ws[39]? = some (ad 39, .inl (cI, 20, .inl m_size)) ∧ ws[40]? = some (ad 40, .inl (cI, 100, .inl m_symbol)) ∧ ws[47]? = some (ad 47, .inl (cI, 17, .inl m_sign)) ∧ ws[51]? = some (ad 51, .inl (cJ, 1734, .inr (.inl m_best)))) {o : Int32 × (Nat → Int64) × (Nat → Int32)} {k188 : (Int32) → (Int32) → (Int32) → (Nat → Int64) → (Nat → Int32) → Option (Int32 × (Nat → Int64) × (Nat → Int32))} (hk188 : ∀ (x6 : Int32) (x7 : Int32) (x8 : Int32) (m_row : Nat → Int64) (m_cut : Nat → Int32), k188 x6 x7 x8 m_row m_cut = some o → KW l xX6_choose D (kT cI cB cJ cZ) ws z (kQi D (kT cI cB cJ cZ) o.1 [(52, (ad 52, .inl (cJ, 102, .inr (.inl o.2.1)))), (53, (ad 53, .inl (cI, 6, .inl o.2.2)))] ws z) 188 [(0, .ref (ad 37)), (6, .int x6), (7, .int x7), (8, .int x8)] [] [(52, (ad 52, .inl (cJ, 102, .inr (.inl m_row)))), (53, (ad 53, .inl (cI, 6, .inl m_cut)))]) : ∀ (n : Nat) (x6 : Int32) (x7 : Int32) (x8 : Int32) (m_row : Nat → Int64) (m_cut : Nat → Int32), lp_X6_choose_115 m_rules m_tokens m_head m_size m_symbol m_sign m_best k188 n x6 x7 x8 m_row m_cut = some o → KW l xX6_choose D (kT cI cB cJ cZ) ws z (kQi D (kT cI cB cJ cZ) o.1 [(52, (ad 52, .inl (cJ, 102, .inr (.inl o.2.1)))), (53, (ad 53, .inl (cI, 6, .inl o.2.2)))] ws z) 115 [(0, .ref (ad 37)), (6, .int x6), (7, .int x7), (8, .int x8)] [] [(52, (ad 52, .inl (cJ, 102, .inr (.inl m_row)))), (53, (ad 53, .inl (cI, 6, .inl m_cut)))] := by
  intro n
  induction n with
  | zero => intro x6 x7 x8 m_row m_cut h; exact absurd h (by simp [lp_X6_choose_115])
  | succ n hk115 =>
    intro x6 x7 x8 m_row m_cut h
    unfold lp_X6_choose_115 at h
    refine k_aload_n dX6_choose_115 0 rfl rfl ?_
    refine k_get 37 20 E.1 rfl qX6_choose_wX6 (by decide) qX6_choose_f54 rfl dX6_choose_116 ?_
    refine k_bipush (v := 17) dX6_choose_119 (by decide) ?_
    refine k_iload dX6_choose_121 2 rfl ?_
    refine k_iconst (v := 1) dX6_choose_123 (by decide) ?_
    refine k_isub dX6_choose_124 ?_
    refine k_imul dX6_choose_125 ?_
    refine k_iload dX6_choose_126 3 rfl ?_
    refine k_iadd dX6_choose_128 ?_
    refine k_lald 52 2 rfl rfl dX6_choose_129 h (fun v15 h => ?_)
    refine k_aload_n dX6_choose_130 0 rfl rfl ?_
    refine k_aload_n dX6_choose_131 0 rfl rfl ?_
    refine k_get 37 4 E.1 rfl qX6_choose_wX6 (by decide) qX6_choose_f16 rfl dX6_choose_132 ?_
    refine k_iconst (v := 5) dX6_choose_135 (by decide) ?_
    refine k_iload dX6_choose_136 1 rfl ?_
    refine k_imul dX6_choose_138 ?_
    refine k_iload dX6_choose_139 2 rfl ?_
    refine k_iadd dX6_choose_141 ?_
    refine k_iconst (v := 1) dX6_choose_142 (by decide) ?_
    refine k_isub dX6_choose_143 ?_
    refine k_iald 40 0 E.2.2.2.1 rfl dX6_choose_144 h (fun v16 h => ?_)
    refine k_iload dX6_choose_145 3 rfl ?_
    refine k_aload_n dX6_choose_147 0 rfl rfl ?_
    refine k_get 37 21 E.1 rfl qX6_choose_wX6 (by decide) qX6_choose_f57 rfl dX6_choose_148 ?_
    refine k_iload dX6_choose_151 2 rfl ?_
    refine k_iald 53 0 rfl rfl dX6_choose_153 h (fun v17 h => ?_)
    obtain ⟨r18, hr18, h⟩ := Option.bind_eq_some_iff.mp h
    refine k_calllV (As := [.int v16, .int x8, .int v17]) (st := [.long v15]) (Lc := []) (L' := [(52, (ad 52, .inl (cJ, 102, .inr (.inl m_row)))), (53, (ad 53, .inl (cI, 6, .inl m_cut)))]) (r := r18) gX6_choose_X6_price rfl rfl rfl hyVX6_price ⟨Nat.le_of_ble_eq_true rfl, Nat.le_of_ble_eq_true rfl⟩ rfl rfl (Nat.le_of_ble_eq_true rfl) 37 E.1 rfl dX6_choose_154 (fun w z hw => c_X6_price (cI := cI) (cB := cB) (cJ := cJ) (cZ := cZ) (ad := ad) w z ⟨((hw 37).trans E.1), ((hw 47).trans E.2.2.2.2.1), ((hw 51).trans E.2.2.2.2.2)⟩  hr18) rfl rfl ?_
    obtain ⟨r19, hr19, h⟩ := Option.bind_eq_some_iff.mp h
    refine k_calllS (As := [.long v15, .long r18]) (st := []) (Lc := []) (L' := [(52, (ad 52, .inl (cJ, 102, .inr (.inl m_row)))), (53, (ad 53, .inl (cI, 6, .inl m_cut)))]) (r := r19) gX6_choose_X6_sum rfl rfl rfl hySX6_sum ⟨Nat.le_of_ble_eq_true rfl, Nat.le_of_ble_eq_true rfl⟩ rfl rfl (Nat.le_of_ble_eq_true rfl) dX6_choose_157 (fun w z hw => c_X6_sum (cI := cI) (cB := cB) (cJ := cJ) (cZ := cZ) (ad := ad) w z trivial  hr19) rfl rfl ?_
    refine k_aload_n dX6_choose_160 0 rfl rfl ?_
    refine k_get 37 20 E.1 rfl qX6_choose_wX6 (by decide) qX6_choose_f54 rfl dX6_choose_161 ?_
    refine k_bipush (v := 17) dX6_choose_164 (by decide) ?_
    refine k_iload dX6_choose_166 2 rfl ?_
    refine k_imul dX6_choose_168 ?_
    refine k_aload_n dX6_choose_169 0 rfl rfl ?_
    refine k_get 37 21 E.1 rfl qX6_choose_wX6 (by decide) qX6_choose_f57 rfl dX6_choose_170 ?_
    refine k_iload dX6_choose_173 2 rfl ?_
    refine k_iald 53 0 rfl rfl dX6_choose_175 h (fun v20 h => ?_)
    refine k_iadd dX6_choose_176 ?_
    refine k_lald 52 2 rfl rfl dX6_choose_177 h (fun v21 h => ?_)
    refine k_lcmp dX6_choose_178 ?_
    refine k_if_eq 188 dX6_choose_179 (by decide) h (fun h => ?_) (fun h => ?_)
    · skip
      refine k_sub [0, 1, 2, 3] rfl ?_
      exact hk188 _ _ _ _ _ h
    · skip
      refine k_iinc (i := 8) (lv' := fun x => [(8, .int x), (0, .ref (ad 37)), (6, .int x6), (7, .int x7)]) dX6_choose_182 3 rfl (Nat.le_of_ble_eq_true rfl) (fun _ => rfl) h (fun x8_22 h => ?_)
      refine k_goto 115 dX6_choose_185 (by decide) ?_
      refine k_sub [1, 2, 3, 0] rfl ?_
      exact hk115 _ _ _ _ _ h
set_option maxHeartbeats 4000000 in
set_option maxRecDepth 100000 in
theorem wlp_X6_choose_101 {l : Launch} {D : va_G} {cI cB cJ cZ : ClassId} {ad : Nat → Nat} {ws : va_W} {z : Nat} {m_thrown : Int32} {m_rules : Int32} {m_length : Int32} {m_tree : Int32} {m_tokens : Int32} {m_comments : Int32} {m_parts : Int32} {m_end : Int32} {m_open : Int32} {m_column : Int32} {m_printed : Int32} {m_repaired : Int32} {m_paid : Int32} {m_head : Nat → Int32} {m_size : Nat → Int32} {m_symbol : Nat → Int32} {m_sign : Nat → Int32} {m_best : Nat → Int64} (E : ws[37]? = some (ad 37, .inr (6, [.int m_thrown, .int m_rules, .ref (ad 38), .ref (ad 39), .ref (ad 40), .ref (ad 41), .ref (ad 42), .int m_length, .ref (ad 43), .int m_tree, .ref (ad 44), .int m_tokens, .ref (ad 45), .ref (ad 46), .ref (ad 47), .int m_comments, .ref (ad 48), .ref (ad 49), .ref (ad 50), .ref (ad 51), .ref (ad 52), .ref (ad 53), .int m_parts, .ref (ad 54), .ref (ad 55), .ref (ad 56), .ref (ad 57), .ref (ad 58), .ref (ad 59), .ref (ad 60), .ref (ad 61), .int m_end, .int m_open, .ref (ad 62), .ref (ad 63), .ref (ad 64), .ref (ad 65), .ref (ad 66), .int m_column, .int m_printed, .ref (ad 67), .int m_repaired, .int m_paid])) ∧ ws[38]? = some (ad 38, .inl (cI, 20, .inl m_head)) ∧ ws[39]? = some (ad 39, .inl (cI, 20, .inl m_size)) ∧ ws[40]? = some (ad 40, .inl (cI, 100, .inl m_symbol)) ∧ ws[47]? = some (ad 47, .inl (cI, 17, .inl m_sign)) ∧ ws[51]? = some (ad 51, .inl (cJ, 1734, .inr (.inl m_best)))) {o : Int32 × (Nat → Int64) × (Nat → Int32)} {k205 : (Int32) → (Nat → Int64) → (Nat → Int32) → Option (Int32 × (Nat → Int64) × (Nat → Int32))} (hk205 : ∀ (x6 : Int32) (m_row : Nat → Int64) (m_cut : Nat → Int32), k205 x6 m_row m_cut = some o → KW l xX6_choose D (kT cI cB cJ cZ) ws z (kQi D (kT cI cB cJ cZ) o.1 [(52, (ad 52, .inl (cJ, 102, .inr (.inl o.2.1)))), (53, (ad 53, .inl (cI, 6, .inl o.2.2)))] ws z) 205 [(6, .int x6)] [] [(52, (ad 52, .inl (cJ, 102, .inr (.inl m_row)))), (53, (ad 53, .inl (cI, 6, .inl m_cut)))]) : ∀ (n : Nat) (x6 : Int32) (x7 : Int32) (m_row : Nat → Int64) (m_cut : Nat → Int32), lp_X6_choose_101 m_rules m_tokens m_head m_size m_symbol m_sign m_best k205 n x6 x7 m_row m_cut = some o → KW l xX6_choose D (kT cI cB cJ cZ) ws z (kQi D (kT cI cB cJ cZ) o.1 [(52, (ad 52, .inl (cJ, 102, .inr (.inl o.2.1)))), (53, (ad 53, .inl (cI, 6, .inl o.2.2)))] ws z) 101 [(0, .ref (ad 37)), (6, .int x6), (7, .int x7)] [] [(52, (ad 52, .inl (cJ, 102, .inr (.inl m_row)))), (53, (ad 53, .inl (cI, 6, .inl m_cut)))] := by
  intro n
  induction n with
  | zero => intro x6 x7 m_row m_cut h; exact absurd h (by simp [lp_X6_choose_101])
  | succ n hk101 =>
    intro x6 x7 m_row m_cut h
    unfold lp_X6_choose_101 at h
    refine k_iload dX6_choose_101 2 rfl ?_
    refine k_if_le 205 dX6_choose_103 (by decide) h (fun h => ?_) (fun h => ?_)
    · skip
      refine k_sub [1] rfl ?_
      exact hk205 _ _ _ h
    · skip
      refine k_aload_n dX6_choose_106 0 rfl rfl ?_
      refine k_get 37 21 E.1 rfl qX6_choose_wX6 (by decide) qX6_choose_f57 rfl dX6_choose_107 ?_
      refine k_iload dX6_choose_110 2 rfl ?_
      refine k_iald 53 0 rfl rfl dX6_choose_112 h (fun v13 h => ?_)
      refine k_istore (i := 8) (lv' := fun x => [(8, .int x), (0, .ref (ad 37)), (6, .int x6), (7, .int x7)]) dX6_choose_113 (Nat.le_of_ble_eq_true rfl) (fun _ => rfl) h (fun x8_14 h => ?_)
      refine k_sub [1, 2, 3, 0] rfl ?_
      refine wlp_X6_choose_115 (cI := cI) (cB := cB) (cJ := cJ) (cZ := cZ) (ad := ad) E ?_ FU _ _ _ _ _ h
      · intro x6 x7 x8 m_row m_cut h
        refine k_aload_n dX6_choose_188 0 rfl rfl ?_
        refine k_get 37 21 E.1 rfl qX6_choose_wX6 (by decide) qX6_choose_f57 rfl dX6_choose_189 ?_
        refine k_iload dX6_choose_192 2 rfl ?_
        refine k_iconst (v := 1) dX6_choose_194 (by decide) ?_
        refine k_isub dX6_choose_195 ?_
        refine k_iload dX6_choose_196 3 rfl ?_
        refine k_iast (L' := fun f => [(52, (ad 52, .inl (cJ, 102, .inr (.inl m_row)))), (53, (ad 53, .inl (cI, 6, .inl f)))]) 53 0 rfl rfl rfl dX6_choose_198 h (fun _ => rfl) (fun m_cut_23 h => ?_)
        refine k_iinc (i := 7) (lv' := fun x => [(7, .int x), (0, .ref (ad 37)), (6, .int x6), (8, .int x8)]) dX6_choose_199 2 rfl (Nat.le_of_ble_eq_true rfl) (fun _ => rfl) h (fun x7_24 h => ?_)
        refine k_goto 101 dX6_choose_202 (by decide) ?_
        refine k_sub [1, 2, 0] rfl ?_
        exact hk101 _ _ _ _ h
set_option maxHeartbeats 4000000 in
set_option maxRecDepth 100000 in
theorem wjn_X6_choose_208 {l : Launch} {D : va_G} {cI cB cJ cZ : ClassId} {ad : Nat → Nat} {ws : va_W} {z : Nat} {m_thrown : Int32} {m_rules : Int32} {m_length : Int32} {m_tree : Int32} {m_tokens : Int32} {m_comments : Int32} {m_parts : Int32} {m_end : Int32} {m_open : Int32} {m_column : Int32} {m_printed : Int32} {m_repaired : Int32} {m_paid : Int32} {m_head : Nat → Int32} {m_size : Nat → Int32} {m_symbol : Nat → Int32} {m_sign : Nat → Int32} {m_best : Nat → Int64} (E : ws[37]? = some (ad 37, .inr (6, [.int m_thrown, .int m_rules, .ref (ad 38), .ref (ad 39), .ref (ad 40), .ref (ad 41), .ref (ad 42), .int m_length, .ref (ad 43), .int m_tree, .ref (ad 44), .int m_tokens, .ref (ad 45), .ref (ad 46), .ref (ad 47), .int m_comments, .ref (ad 48), .ref (ad 49), .ref (ad 50), .ref (ad 51), .ref (ad 52), .ref (ad 53), .int m_parts, .ref (ad 54), .ref (ad 55), .ref (ad 56), .ref (ad 57), .ref (ad 58), .ref (ad 59), .ref (ad 60), .ref (ad 61), .int m_end, .int m_open, .ref (ad 62), .ref (ad 63), .ref (ad 64), .ref (ad 65), .ref (ad 66), .int m_column, .int m_printed, .ref (ad 67), .int m_repaired, .int m_paid])) ∧ ws[38]? = some (ad 38, .inl (cI, 20, .inl m_head)) ∧ ws[39]? = some (ad 39, .inl (cI, 20, .inl m_size)) ∧ ws[40]? = some (ad 40, .inl (cI, 100, .inl m_symbol)) ∧ ws[47]? = some (ad 47, .inl (cI, 17, .inl m_sign)) ∧ ws[51]? = some (ad 51, .inl (cJ, 1734, .inr (.inl m_best)))) {o : Int32 × (Nat → Int64) × (Nat → Int32)} {k25 : (Int32) → (Int32) → (Int32) → (Int64) → (Int32) → (Nat → Int64) → (Nat → Int32) → Option (Int32 × (Nat → Int64) × (Nat → Int32))} (hk25 : ∀ (x1 : Int32) (x2 : Int32) (x3 : Int32) (x4 : Int64) (x6 : Int32) (m_row : Nat → Int64) (m_cut : Nat → Int32), k25 x1 x2 x3 x4 x6 m_row m_cut = some o → KW l xX6_choose D (kT cI cB cJ cZ) ws z (kQi D (kT cI cB cJ cZ) o.1 [(52, (ad 52, .inl (cJ, 102, .inr (.inl o.2.1)))), (53, (ad 53, .inl (cI, 6, .inl o.2.2)))] ws z) 25 [(0, .ref (ad 37)), (1, .int x1), (2, .int x2), (3, .int x3), (4, .long x4), (6, .int x6)] [] [(52, (ad 52, .inl (cJ, 102, .inr (.inl m_row)))), (53, (ad 53, .inl (cI, 6, .inl m_cut)))]) : ∀ (x1 : Int32) (x2 : Int32) (x3 : Int32) (x4 : Int64) (x6 : Int32) (m_row : Nat → Int64) (m_cut : Nat → Int32), jn_X6_choose_208 m_rules m_tokens m_head m_size m_symbol m_sign m_best k25 x1 x2 x3 x4 x6 m_row m_cut = some o → KW l xX6_choose D (kT cI cB cJ cZ) ws z (kQi D (kT cI cB cJ cZ) o.1 [(52, (ad 52, .inl (cJ, 102, .inr (.inl o.2.1)))), (53, (ad 53, .inl (cI, 6, .inl o.2.2)))] ws z) 208 [(0, .ref (ad 37)), (1, .int x1), (2, .int x2), (3, .int x3), (4, .long x4), (6, .int x6)] [] [(52, (ad 52, .inl (cJ, 102, .inr (.inl m_row)))), (53, (ad 53, .inl (cI, 6, .inl m_cut)))] := by
  intro x1 x2 x3 x4 x6 m_row m_cut h
  unfold jn_X6_choose_208 at h
  refine k_iinc (i := 6) (lv' := fun x => [(6, .int x), (0, .ref (ad 37)), (1, .int x1), (2, .int x2), (3, .int x3), (4, .long x4)]) dX6_choose_208 5 rfl (Nat.le_of_ble_eq_true rfl) (fun _ => rfl) h (fun x6_25 h => ?_)
  refine k_goto 25 dX6_choose_211 (by decide) ?_
  refine k_sub [1, 2, 3, 4, 5, 0] rfl ?_
  exact hk25 _ _ _ _ _ _ _ h
set_option maxHeartbeats 4000000 in
set_option maxRecDepth 100000 in
theorem wlp_X6_choose_25 {l : Launch} {D : va_G} {cI cB cJ cZ : ClassId} {ad : Nat → Nat} {ws : va_W} {z : Nat} {m_thrown : Int32} {m_rules : Int32} {m_length : Int32} {m_tree : Int32} {m_tokens : Int32} {m_comments : Int32} {m_parts : Int32} {m_end : Int32} {m_open : Int32} {m_column : Int32} {m_printed : Int32} {m_repaired : Int32} {m_paid : Int32} {m_head : Nat → Int32} {m_size : Nat → Int32} {m_symbol : Nat → Int32} {m_sign : Nat → Int32} {m_best : Nat → Int64} (E : ws[37]? = some (ad 37, .inr (6, [.int m_thrown, .int m_rules, .ref (ad 38), .ref (ad 39), .ref (ad 40), .ref (ad 41), .ref (ad 42), .int m_length, .ref (ad 43), .int m_tree, .ref (ad 44), .int m_tokens, .ref (ad 45), .ref (ad 46), .ref (ad 47), .int m_comments, .ref (ad 48), .ref (ad 49), .ref (ad 50), .ref (ad 51), .ref (ad 52), .ref (ad 53), .int m_parts, .ref (ad 54), .ref (ad 55), .ref (ad 56), .ref (ad 57), .ref (ad 58), .ref (ad 59), .ref (ad 60), .ref (ad 61), .int m_end, .int m_open, .ref (ad 62), .ref (ad 63), .ref (ad 64), .ref (ad 65), .ref (ad 66), .int m_column, .int m_printed, .ref (ad 67), .int m_repaired, .int m_paid])) ∧ ws[38]? = some (ad 38, .inl (cI, 20, .inl m_head)) ∧ ws[39]? = some (ad 39, .inl (cI, 20, .inl m_size)) ∧ ws[40]? = some (ad 40, .inl (cI, 100, .inl m_symbol)) ∧ ws[47]? = some (ad 47, .inl (cI, 17, .inl m_sign)) ∧ ws[51]? = some (ad 51, .inl (cJ, 1734, .inr (.inl m_best)))) {o : Int32 × (Nat → Int64) × (Nat → Int32)} {k214 : (Nat → Int64) → (Nat → Int32) → Option (Int32 × (Nat → Int64) × (Nat → Int32))} (hk214 : ∀ (m_row : Nat → Int64) (m_cut : Nat → Int32), k214 m_row m_cut = some o → KW l xX6_choose D (kT cI cB cJ cZ) ws z (kQi D (kT cI cB cJ cZ) o.1 [(52, (ad 52, .inl (cJ, 102, .inr (.inl o.2.1)))), (53, (ad 53, .inl (cI, 6, .inl o.2.2)))] ws z) 214 [] [] [(52, (ad 52, .inl (cJ, 102, .inr (.inl m_row)))), (53, (ad 53, .inl (cI, 6, .inl m_cut)))]) : ∀ (n : Nat) (x1 : Int32) (x2 : Int32) (x3 : Int32) (x4 : Int64) (x6 : Int32) (m_row : Nat → Int64) (m_cut : Nat → Int32), lp_X6_choose_25 m_rules m_tokens m_head m_size m_symbol m_sign m_best k214 n x1 x2 x3 x4 x6 m_row m_cut = some o → KW l xX6_choose D (kT cI cB cJ cZ) ws z (kQi D (kT cI cB cJ cZ) o.1 [(52, (ad 52, .inl (cJ, 102, .inr (.inl o.2.1)))), (53, (ad 53, .inl (cI, 6, .inl o.2.2)))] ws z) 25 [(0, .ref (ad 37)), (1, .int x1), (2, .int x2), (3, .int x3), (4, .long x4), (6, .int x6)] [] [(52, (ad 52, .inl (cJ, 102, .inr (.inl m_row)))), (53, (ad 53, .inl (cI, 6, .inl m_cut)))] := by
  intro n
  induction n with
  | zero => intro x1 x2 x3 x4 x6 m_row m_cut h; exact absurd h (by simp [lp_X6_choose_25])
  | succ n hk25 =>
    intro x1 x2 x3 x4 x6 m_row m_cut h
    unfold lp_X6_choose_25 at h
    refine k_iload dX6_choose_25 5 rfl ?_
    refine k_aload_n dX6_choose_27 0 rfl rfl ?_
    refine k_get 37 1 E.1 rfl qX6_choose_wX6 (by decide) qX6_choose_f110 rfl dX6_choose_28 ?_
    refine k_icmp_ge 214 dX6_choose_31 (by decide) h (fun h => ?_) (fun h => ?_)
    · skip
      refine k_sub [] rfl ?_
      exact hk214 _ _ h
    · skip
      refine k_aload_n dX6_choose_34 0 rfl rfl ?_
      refine k_get 37 2 E.1 rfl qX6_choose_wX6 (by decide) qX6_choose_f7 rfl dX6_choose_35 ?_
      refine k_iload dX6_choose_38 5 rfl ?_
      refine k_iald 38 0 E.2.1 rfl dX6_choose_40 h (fun v4 h => ?_)
      refine k_iload_n dX6_choose_41 1 rfl rfl ?_
      refine k_icmp_ne 208 dX6_choose_42 (by decide) h (fun h => ?_) (fun h => ?_)
      · skip
        refine k_aload_n dX6_choose_45 0 rfl rfl ?_
        refine k_iload dX6_choose_46 5 rfl ?_
        refine k_iload_n dX6_choose_48 2 rfl rfl ?_
        obtain ⟨r5, hr5, h⟩ := Option.bind_eq_some_iff.mp h
        refine k_callvV (As := [.int x6, .int x2]) (st := []) (Lc := [(52, (ad 52, .inl (cJ, 102, .inr (.inl r5))))]) (L' := [(52, (ad 52, .inl (cJ, 102, .inr (.inl r5)))), (53, (ad 53, .inl (cI, 6, .inl m_cut)))]) gX6_choose_X6_fill rfl rfl rfl hyVX6_fill ⟨Nat.le_of_ble_eq_true rfl, Nat.le_of_ble_eq_true rfl⟩ rfl rfl (Nat.le_of_ble_eq_true rfl) 37 E.1 rfl dX6_choose_49 (fun w z hw => c_X6_fill (cI := cI) (cB := cB) (cJ := cJ) (cZ := cZ) (ad := ad) w z ⟨((hw 37).trans E.1), ((hw 39).trans E.2.2.1), ((hw 40).trans E.2.2.2.1), ((hw 47).trans E.2.2.2.2.1), ((hw 51).trans E.2.2.2.2.2)⟩ (hw 52) hr5) rfl rfl ?_
        refine k_aload_n dX6_choose_52 0 rfl rfl ?_
        refine k_get 37 20 E.1 rfl qX6_choose_wX6 (by decide) qX6_choose_f54 rfl dX6_choose_53 ?_
        refine k_bipush (v := 17) dX6_choose_56 (by decide) ?_
        refine k_aload_n dX6_choose_58 0 rfl rfl ?_
        refine k_get 37 3 E.1 rfl qX6_choose_wX6 (by decide) qX6_choose_f13 rfl dX6_choose_59 ?_
        refine k_iload dX6_choose_62 5 rfl ?_
        refine k_iald 39 0 E.2.2.1 rfl dX6_choose_64 h (fun v6 h => ?_)
        refine k_imul dX6_choose_65 ?_
        refine k_iload_n dX6_choose_66 3 rfl rfl ?_
        refine k_iadd dX6_choose_67 ?_
        refine k_lald 52 2 rfl rfl dX6_choose_68 h (fun v7 h => ?_)
        refine k_lconst (v := 1) dX6_choose_69 (by decide) ?_
        obtain ⟨r8, hr8, h⟩ := Option.bind_eq_some_iff.mp h
        refine k_calllS (As := [.long v7, .long 1]) (st := []) (Lc := []) (L' := [(52, (ad 52, .inl (cJ, 102, .inr (.inl r5)))), (53, (ad 53, .inl (cI, 6, .inl m_cut)))]) (r := r8) gX6_choose_X6_sum rfl rfl rfl hySX6_sum ⟨Nat.le_of_ble_eq_true rfl, Nat.le_of_ble_eq_true rfl⟩ rfl rfl (Nat.le_of_ble_eq_true rfl) dX6_choose_70 (fun w z hw => c_X6_sum (cI := cI) (cB := cB) (cJ := cJ) (cZ := cZ) (ad := ad) w z trivial  hr8) rfl rfl ?_
        refine k_lload dX6_choose_73 4 rfl ?_
        refine k_lcmp dX6_choose_75 ?_
        refine k_if_ne 208 dX6_choose_76 (by decide) h (fun h => ?_) (fun h => ?_)
        · skip
          refine k_aload_n dX6_choose_79 0 rfl rfl ?_
          refine k_get 37 21 E.1 rfl qX6_choose_wX6 (by decide) qX6_choose_f57 rfl dX6_choose_80 ?_
          refine k_aload_n dX6_choose_83 0 rfl rfl ?_
          refine k_get 37 3 E.1 rfl qX6_choose_wX6 (by decide) qX6_choose_f13 rfl dX6_choose_84 ?_
          refine k_iload dX6_choose_87 5 rfl ?_
          refine k_iald 39 0 E.2.2.1 rfl dX6_choose_89 h (fun v9 h => ?_)
          refine k_iload_n dX6_choose_90 3 rfl rfl ?_
          refine k_iast (L' := fun f => [(52, (ad 52, .inl (cJ, 102, .inr (.inl r5)))), (53, (ad 53, .inl (cI, 6, .inl f)))]) 53 0 rfl rfl rfl dX6_choose_91 h (fun _ => rfl) (fun m_cut_10 h => ?_)
          refine k_aload_n dX6_choose_92 0 rfl rfl ?_
          refine k_get 37 3 E.1 rfl qX6_choose_wX6 (by decide) qX6_choose_f13 rfl dX6_choose_93 ?_
          refine k_iload dX6_choose_96 5 rfl ?_
          refine k_iald 39 0 E.2.2.1 rfl dX6_choose_98 h (fun v11 h => ?_)
          refine k_istore (i := 7) (lv' := fun x => [(7, .int x), (0, .ref (ad 37)), (1, .int x1), (2, .int x2), (3, .int x3), (4, .long x4), (6, .int x6)]) dX6_choose_99 (Nat.le_of_ble_eq_true rfl) (fun _ => rfl) h (fun x7_12 h => ?_)
          refine k_sub [1, 6, 0] rfl ?_
          refine wlp_X6_choose_101 (cI := cI) (cB := cB) (cJ := cJ) (cZ := cZ) (ad := ad) E ?_ FU _ _ _ _ h
          · intro x6 m_row m_cut h
            refine k_iload dX6_choose_205 0 rfl ?_
            obtain rfl := Option.some.inj h
            exact k_iret rfl dX6_choose_207
        · skip
          refine k_sub [0, 1, 2, 3, 4, 5] rfl ?_
          exact wjn_X6_choose_208 (cI := cI) (cB := cB) (cJ := cJ) (cZ := cZ) (ad := ad) E hk25 _ _ _ _ _ _ _ h
      · skip
        refine k_sub [0, 1, 2, 3, 4, 5] rfl ?_
        exact wjn_X6_choose_208 (cI := cI) (cB := cB) (cJ := cJ) (cZ := cZ) (ad := ad) E hk25 _ _ _ _ _ _ _ h
set_option maxHeartbeats 4000000 in
set_option maxRecDepth 100000 in
/-- KindParserModel.choose -/
theorem c_X6_choose {l : Launch} {D : va_G} {cI cB cJ cZ : ClassId} {ad : Nat → Nat} (ws : va_W) (z : Nat) {m_thrown : Int32} {m_rules : Int32} {m_length : Int32} {m_tree : Int32} {m_tokens : Int32} {m_comments : Int32} {m_parts : Int32} {m_end : Int32} {m_open : Int32} {m_column : Int32} {m_printed : Int32} {m_repaired : Int32} {m_paid : Int32} {m_head : Nat → Int32} {m_size : Nat → Int32} {m_symbol : Nat → Int32} {m_sign : Nat → Int32} {m_best : Nat → Int64} {m_row : Nat → Int64} {m_cut : Nat → Int32} (E : ws[37]? = some (ad 37, .inr (6, [.int m_thrown, .int m_rules, .ref (ad 38), .ref (ad 39), .ref (ad 40), .ref (ad 41), .ref (ad 42), .int m_length, .ref (ad 43), .int m_tree, .ref (ad 44), .int m_tokens, .ref (ad 45), .ref (ad 46), .ref (ad 47), .int m_comments, .ref (ad 48), .ref (ad 49), .ref (ad 50), .ref (ad 51), .ref (ad 52), .ref (ad 53), .int m_parts, .ref (ad 54), .ref (ad 55), .ref (ad 56), .ref (ad 57), .ref (ad 58), .ref (ad 59), .ref (ad 60), .ref (ad 61), .int m_end, .int m_open, .ref (ad 62), .ref (ad 63), .ref (ad 64), .ref (ad 65), .ref (ad 66), .int m_column, .int m_printed, .ref (ad 67), .int m_repaired, .int m_paid])) ∧ ws[38]? = some (ad 38, .inl (cI, 20, .inl m_head)) ∧ ws[39]? = some (ad 39, .inl (cI, 20, .inl m_size)) ∧ ws[40]? = some (ad 40, .inl (cI, 100, .inl m_symbol)) ∧ ws[47]? = some (ad 47, .inl (cI, 17, .inl m_sign)) ∧ ws[51]? = some (ad 51, .inl (cJ, 1734, .inr (.inl m_best)))) (e52 : ws[52]? = some (ad 52, .inl (cJ, 102, .inr (.inl m_row)))) (e53 : ws[53]? = some (ad 53, .inl (cI, 6, .inl m_cut))) {a1 : Int32} {a2 : Int32} {a3 : Int32} {o : Int32 × (Nat → Int64) × (Nat → Int32)} (h : f_X6_choose a1 a2 a3 m_rules m_tokens m_head m_size m_symbol m_sign m_best m_row m_cut = some o) : Met l yX6_choose wsX6_choose rmX6_choose (kPc D (kT cI cB cJ cZ) [.ref (ad 37), .int a1, .int a2, .int a3] ws z) (kQi D (kT cI cB cJ cZ) o.1 [(52, (ad 52, .inl (cJ, 102, .inr (.inl o.2.1)))), (53, (ad 53, .inl (cI, 6, .inl o.2.2)))] ws z) 0 0 (va_A ws z) := by
  refine KW.met (rm := rmX6_choose) (lv := [(0, .ref (ad 37)), (1, .int a1), (2, .int a2), (3, .int a3)]) (L := [(52, (ad 52, .inl (cJ, 102, .inr (.inl m_row)))), (53, (ad 53, .inl (cI, 6, .inl m_cut)))]) rfl (by decide) (Nat.le_of_ble_eq_true rfl) rfl (by intro q hq; simp only [List.mem_cons, List.not_mem_nil, or_false] at hq; rcases hq with rfl | rfl <;> assumption) ?_
  unfold f_X6_choose at h
  show KW l xX6_choose D (kT cI cB cJ cZ) ws z (kQi D (kT cI cB cJ cZ) o.1 [(52, (ad 52, .inl (cJ, 102, .inr (.inl o.2.1)))), (53, (ad 53, .inl (cI, 6, .inl o.2.2)))] ws z) 0 [(0, .ref (ad 37)), (1, .int a1), (2, .int a2), (3, .int a3)] [] [(52, (ad 52, .inl (cJ, 102, .inr (.inl m_row)))), (53, (ad 53, .inl (cI, 6, .inl m_cut)))]
  refine k_aload_n dX6_choose_0 0 rfl rfl ?_
  refine k_get 37 19 E.1 rfl qX6_choose_wX6 (by decide) qX6_choose_f50 rfl dX6_choose_1 ?_
  refine k_sipush (v := 289) dX6_choose_4 (by decide) ?_
  refine k_iload_n dX6_choose_7 1 rfl rfl ?_
  refine k_bipush (v := 9) dX6_choose_8 (by decide) ?_
  refine k_isub dX6_choose_10 ?_
  refine k_imul dX6_choose_11 ?_
  refine k_bipush (v := 17) dX6_choose_12 (by decide) ?_
  refine k_iload_n dX6_choose_14 2 rfl rfl ?_
  refine k_imul dX6_choose_15 ?_
  refine k_iadd dX6_choose_16 ?_
  refine k_iload_n dX6_choose_17 3 rfl rfl ?_
  refine k_iadd dX6_choose_18 ?_
  refine k_lald 51 2 E.2.2.2.2.2 rfl dX6_choose_19 h (fun v1 h => ?_)
  refine k_lstore (i := 4) (lv' := fun x => [(4, .long x), (0, .ref (ad 37)), (1, .int a1), (2, .int a2), (3, .int a3)]) dX6_choose_20 (Nat.le_of_ble_eq_true rfl) (fun _ => rfl) h (fun x4_2 h => ?_)
  refine k_iconst (v := 0) dX6_choose_22 (by decide) ?_
  refine k_istore (i := 6) (lv' := fun x => [(6, .int x), (4, .long x4_2), (0, .ref (ad 37)), (1, .int a1), (2, .int a2), (3, .int a3)]) dX6_choose_23 (Nat.le_of_ble_eq_true rfl) (fun _ => rfl) h (fun x6_3 h => ?_)
  refine k_sub [2, 3, 4, 5, 1, 0] rfl ?_
  refine wlp_X6_choose_25 (cI := cI) (cB := cB) (cJ := cJ) (cZ := cZ) (ad := ad) E ?_ FU _ _ _ _ _ _ _ h
  · intro m_row m_cut h
    refine k_iconst (v := (-1)) dX6_choose_214 (by decide) ?_
    obtain rfl := Option.some.inj h
    exact k_iret rfl dX6_choose_215
