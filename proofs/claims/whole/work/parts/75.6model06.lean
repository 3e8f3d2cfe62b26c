abbrev rmX6_putTokens : Room := { frames := 1, cells := 0, slots := 0, locals := 21 }
abbrev xX6_putTokens : KX := (rmX6_putTokens, cX6_putTokens, 9, none, RX6, wsX6_putTokens)
theorem hySX6_putTokens : yX6_putTokens.cls ≠ "java/lang/invoke/MethodHandle" ∧ yX6_putTokens.cls ≠ "java/lang/invoke/VarHandle" ∧ (parseMethodDescriptor yX6_putTokens.desc).map (fun d => d.parameters.length) = some 3 := by decide +kernel
theorem hyVX6_putTokens : yX6_putTokens.cls = RX6 ∧ yX6_putTokens.cls ≠ "java/lang/invoke/MethodHandle" ∧ yX6_putTokens.cls ≠ "java/lang/invoke/VarHandle" ∧ (parseMethodDescriptor yX6_putTokens.desc).map (fun d => d.parameters.length) = some 3 := ⟨rfl, hySX6_putTokens⟩
theorem qX6_putTokens_wX6 : ∀ w ∈ u_ws RX6 TX6 43, w ∈ wsX6_putTokens := by decide +kernel
theorem qX6_putTokens_f47 : Cond.fieldLink RX6 47 "KindParserModel" "firstComment" "[I" ∈ wsX6_putTokens := by decide +kernel
theorem qX6_putTokens_f44 : Cond.fieldLink RX6 44 "KindParserModel" "commentLength" "[I" ∈ wsX6_putTokens := by decide +kernel
theorem qX6_putTokens_f29 : Cond.fieldLink RX6 29 "KindParserModel" "kept" "[I" ∈ wsX6_putTokens := by decide +kernel
theorem qX6_putTokens_f41 : Cond.fieldLink RX6 41 "KindParserModel" "commentAt" "[I" ∈ wsX6_putTokens := by decide +kernel
theorem qX6_putTokens_f35 : Cond.fieldLink RX6 35 "KindParserModel" "tokenLength" "[I" ∈ wsX6_putTokens := by decide +kernel
theorem qX6_putTokens_f32 : Cond.fieldLink RX6 32 "KindParserModel" "tokenAt" "[I" ∈ wsX6_putTokens := by decide +kernel
set_option maxHeartbeats 4000000 in
set_option maxRecDepth 100000 in
theorem wlp_X6_putTokens_63 {l : Launch} {D : va_G} {cI cB cJ cZ : ClassId} {ad : Nat → Nat} {ws : va_W} {z : Nat} {m_thrown : Int32} {m_rules : Int32} {m_length : Int32} {m_tree : Int32} {m_tokens : Int32} {m_comments : Int32} {m_parts : Int32} {m_end : Int32} {m_open : Int32} {m_repaired : Int32} {m_paid : Int32} {m_kept : Nat → Int32} {m_tokenAt : Nat → Int32} {m_tokenLength : Nat → Int32} {m_commentAt : Nat → Int32} {m_commentLength : Nat → Int32} {m_firstComment : Nat → Int32} (E : ws[44]? = some (ad 44, .inl (cI, 80, .inl m_kept)) ∧ ws[45]? = some (ad 45, .inl (cI, 17, .inl m_tokenAt)) ∧ ws[46]? = some (ad 46, .inl (cI, 17, .inl m_tokenLength)) ∧ ws[48]? = some (ad 48, .inl (cI, 41, .inl m_commentAt)) ∧ ws[49]? = some (ad 49, .inl (cI, 41, .inl m_commentLength)) ∧ ws[50]? = some (ad 50, .inl (cI, 18, .inl m_firstComment))) {o : (Int32) × (Int32) × (Nat → Int32)} {k100 : (Int32) → (Int32) → (Int32) → (Int32) → (Int32) → (Int32) → (Nat → Int32) → Option ((Int32) × (Int32) × (Nat → Int32))} (hk100 : ∀ (x2 : Int32) (x5 : Int32) (x6 : Int32) (x7 : Int32) (m_column : Int32) (m_printed : Int32) (m_print : Nat → Int32), k100 x2 x5 x6 x7 m_column m_printed m_print = some o → KW l xX6_putTokens D (kT cI cB cJ cZ) ws z (kQv D (kT cI cB cJ cZ) [(37, (ad 37, .inr (6, [.int m_thrown, .int m_rules, .ref (ad 38), .ref (ad 39), .ref (ad 40), .ref (ad 41), .ref (ad 42), .int m_length, .ref (ad 43), .int m_tree, .ref (ad 44), .int m_tokens, .ref (ad 45), .ref (ad 46), .ref (ad 47), .int m_comments, .ref (ad 48), .ref (ad 49), .ref (ad 50), .ref (ad 51), .ref (ad 52), .ref (ad 53), .int m_parts, .ref (ad 54), .ref (ad 55), .ref (ad 56), .ref (ad 57), .ref (ad 58), .ref (ad 59), .ref (ad 60), .ref (ad 61), .int m_end, .int m_open, .ref (ad 62), .ref (ad 63), .ref (ad 64), .ref (ad 65), .ref (ad 66), .int o.1, .int o.2.1, .ref (ad 67), .int m_repaired, .int m_paid]))), (67, (ad 67, .inl (cI, 6000, .inl o.2.2)))] ws z) 100 [(0, .ref (ad 37)), (2, .int x2), (5, .int x5), (6, .int x6), (7, .int x7)] [] [(37, (ad 37, .inr (6, [.int m_thrown, .int m_rules, .ref (ad 38), .ref (ad 39), .ref (ad 40), .ref (ad 41), .ref (ad 42), .int m_length, .ref (ad 43), .int m_tree, .ref (ad 44), .int m_tokens, .ref (ad 45), .ref (ad 46), .ref (ad 47), .int m_comments, .ref (ad 48), .ref (ad 49), .ref (ad 50), .ref (ad 51), .ref (ad 52), .ref (ad 53), .int m_parts, .ref (ad 54), .ref (ad 55), .ref (ad 56), .ref (ad 57), .ref (ad 58), .ref (ad 59), .ref (ad 60), .ref (ad 61), .int m_end, .int m_open, .ref (ad 62), .ref (ad 63), .ref (ad 64), .ref (ad 65), .ref (ad 66), .int m_column, .int m_printed, .ref (ad 67), .int m_repaired, .int m_paid]))), (67, (ad 67, .inl (cI, 6000, .inl m_print)))]) : ∀ (n : Nat) (x2 : Int32) (x5 : Int32) (x6 : Int32) (x7 : Int32) (x8 : Int32) (m_column : Int32) (m_printed : Int32) (m_print : Nat → Int32), lp_X6_putTokens_63 m_kept m_tokenAt m_tokenLength m_commentAt m_commentLength m_firstComment k100 n x2 x5 x6 x7 x8 m_column m_printed m_print = some o → KW l xX6_putTokens D (kT cI cB cJ cZ) ws z (kQv D (kT cI cB cJ cZ) [(37, (ad 37, .inr (6, [.int m_thrown, .int m_rules, .ref (ad 38), .ref (ad 39), .ref (ad 40), .ref (ad 41), .ref (ad 42), .int m_length, .ref (ad 43), .int m_tree, .ref (ad 44), .int m_tokens, .ref (ad 45), .ref (ad 46), .ref (ad 47), .int m_comments, .ref (ad 48), .ref (ad 49), .ref (ad 50), .ref (ad 51), .ref (ad 52), .ref (ad 53), .int m_parts, .ref (ad 54), .ref (ad 55), .ref (ad 56), .ref (ad 57), .ref (ad 58), .ref (ad 59), .ref (ad 60), .ref (ad 61), .int m_end, .int m_open, .ref (ad 62), .ref (ad 63), .ref (ad 64), .ref (ad 65), .ref (ad 66), .int o.1, .int o.2.1, .ref (ad 67), .int m_repaired, .int m_paid]))), (67, (ad 67, .inl (cI, 6000, .inl o.2.2)))] ws z) 63 [(0, .ref (ad 37)), (2, .int x2), (5, .int x5), (6, .int x6), (7, .int x7), (8, .int x8)] [] [(37, (ad 37, .inr (6, [.int m_thrown, .int m_rules, .ref (ad 38), .ref (ad 39), .ref (ad 40), .ref (ad 41), .ref (ad 42), .int m_length, .ref (ad 43), .int m_tree, .ref (ad 44), .int m_tokens, .ref (ad 45), .ref (ad 46), .ref (ad 47), .int m_comments, .ref (ad 48), .ref (ad 49), .ref (ad 50), .ref (ad 51), .ref (ad 52), .ref (ad 53), .int m_parts, .ref (ad 54), .ref (ad 55), .ref (ad 56), .ref (ad 57), .ref (ad 58), .ref (ad 59), .ref (ad 60), .ref (ad 61), .int m_end, .int m_open, .ref (ad 62), .ref (ad 63), .ref (ad 64), .ref (ad 65), .ref (ad 66), .int m_column, .int m_printed, .ref (ad 67), .int m_repaired, .int m_paid]))), (67, (ad 67, .inl (cI, 6000, .inl m_print)))] := by
  intro n
  induction n with
  | zero => intro x2 x5 x6 x7 x8 m_column m_printed m_print h; exact absurd h (by simp [lp_X6_putTokens_63])
  | succ n hk63 =>
    intro x2 x5 x6 x7 x8 m_column m_printed m_print h
    unfold lp_X6_putTokens_63 at h
    refine k_iload dX6_putTokens_63 5 rfl ?_
    refine k_aload_n dX6_putTokens_65 0 rfl rfl ?_
    refine k_get 37 17 rfl rfl qX6_putTokens_wX6 (by decide) qX6_putTokens_f44 rfl dX6_putTokens_66 ?_
    refine k_iload dX6_putTokens_69 4 rfl ?_
    refine k_iald 49 0 E.2.2.2.2.1 rfl dX6_putTokens_71 h (fun v8 h => ?_)
    refine k_icmp_ge 100 dX6_putTokens_72 (by decide) h (fun h => ?_) (fun h => ?_)
    · skip
      refine k_sub [0, 1, 2, 3, 4] rfl ?_
      exact hk100 _ _ _ _ _ _ _ h
    · skip
      refine k_aload_n dX6_putTokens_75 0 rfl rfl ?_
      refine k_aload_n dX6_putTokens_76 0 rfl rfl ?_
      refine k_get 37 10 rfl rfl qX6_putTokens_wX6 (by decide) qX6_putTokens_f29 rfl dX6_putTokens_77 ?_
      refine k_aload_n dX6_putTokens_80 0 rfl rfl ?_
      refine k_get 37 16 rfl rfl qX6_putTokens_wX6 (by decide) qX6_putTokens_f41 rfl dX6_putTokens_81 ?_
      refine k_iload dX6_putTokens_84 4 rfl ?_
      refine k_iald 48 0 E.2.2.2.1 rfl dX6_putTokens_86 h (fun v9 h => ?_)
      refine k_iload dX6_putTokens_87 5 rfl ?_
      refine k_iadd dX6_putTokens_89 ?_
      refine k_iald 44 0 E.1 rfl dX6_putTokens_90 h (fun v10 h => ?_)
      obtain ⟨r11, hr11, h⟩ := Option.bind_eq_some_iff.mp h
      refine k_callvV (As := [.int v10]) (st := []) (Lc := [(37, (ad 37, .inr (6, [.int m_thrown, .int m_rules, .ref (ad 38), .ref (ad 39), .ref (ad 40), .ref (ad 41), .ref (ad 42), .int m_length, .ref (ad 43), .int m_tree, .ref (ad 44), .int m_tokens, .ref (ad 45), .ref (ad 46), .ref (ad 47), .int m_comments, .ref (ad 48), .ref (ad 49), .ref (ad 50), .ref (ad 51), .ref (ad 52), .ref (ad 53), .int m_parts, .ref (ad 54), .ref (ad 55), .ref (ad 56), .ref (ad 57), .ref (ad 58), .ref (ad 59), .ref (ad 60), .ref (ad 61), .int m_end, .int m_open, .ref (ad 62), .ref (ad 63), .ref (ad 64), .ref (ad 65), .ref (ad 66), .int r11.1, .int r11.2.1, .ref (ad 67), .int m_repaired, .int m_paid]))), (67, (ad 67, .inl (cI, 6000, .inl r11.2.2)))]) (L' := [(37, (ad 37, .inr (6, [.int m_thrown, .int m_rules, .ref (ad 38), .ref (ad 39), .ref (ad 40), .ref (ad 41), .ref (ad 42), .int m_length, .ref (ad 43), .int m_tree, .ref (ad 44), .int m_tokens, .ref (ad 45), .ref (ad 46), .ref (ad 47), .int m_comments, .ref (ad 48), .ref (ad 49), .ref (ad 50), .ref (ad 51), .ref (ad 52), .ref (ad 53), .int m_parts, .ref (ad 54), .ref (ad 55), .ref (ad 56), .ref (ad 57), .ref (ad 58), .ref (ad 59), .ref (ad 60), .ref (ad 61), .int m_end, .int m_open, .ref (ad 62), .ref (ad 63), .ref (ad 64), .ref (ad 65), .ref (ad 66), .int r11.1, .int r11.2.1, .ref (ad 67), .int m_repaired, .int m_paid]))), (67, (ad 67, .inl (cI, 6000, .inl r11.2.2)))]) gX6_putTokens_X6_put rfl rfl rfl hyVX6_put ⟨Nat.le_of_ble_eq_true rfl, Nat.le_of_ble_eq_true rfl⟩ rfl rfl (Nat.le_of_ble_eq_true rfl) 37 rfl rfl dX6_putTokens_91 (fun w z hw => c_X6_put (cI := cI) (cB := cB) (cJ := cJ) (cZ := cZ) (ad := ad) w z trivial (hw 37) (hw 67) hr11) rfl rfl ?_
      refine k_iinc (i := 8) (lv' := fun x => [(8, .int x), (0, .ref (ad 37)), (2, .int x2), (5, .int x5), (6, .int x6), (7, .int x7)]) dX6_putTokens_94 5 rfl (Nat.le_of_ble_eq_true rfl) (fun _ => rfl) h (fun x8_12 h => ?_)
      refine k_goto 63 dX6_putTokens_97 (by decide) ?_
      refine k_sub [1, 2, 3, 4, 5, 0] rfl ?_
      exact hk63 _ _ _ _ _ _ _ _ h
set_option maxHeartbeats 4000000 in
set_option maxRecDepth 100000 in
theorem wjn_X6_putTokens_60 {l : Launch} {D : va_G} {cI cB cJ cZ : ClassId} {ad : Nat → Nat} {ws : va_W} {z : Nat} {m_thrown : Int32} {m_rules : Int32} {m_length : Int32} {m_tree : Int32} {m_tokens : Int32} {m_comments : Int32} {m_parts : Int32} {m_end : Int32} {m_open : Int32} {m_repaired : Int32} {m_paid : Int32} {m_kept : Nat → Int32} {m_tokenAt : Nat → Int32} {m_tokenLength : Nat → Int32} {m_commentAt : Nat → Int32} {m_commentLength : Nat → Int32} {m_firstComment : Nat → Int32} (E : ws[44]? = some (ad 44, .inl (cI, 80, .inl m_kept)) ∧ ws[45]? = some (ad 45, .inl (cI, 17, .inl m_tokenAt)) ∧ ws[46]? = some (ad 46, .inl (cI, 17, .inl m_tokenLength)) ∧ ws[48]? = some (ad 48, .inl (cI, 41, .inl m_commentAt)) ∧ ws[49]? = some (ad 49, .inl (cI, 41, .inl m_commentLength)) ∧ ws[50]? = some (ad 50, .inl (cI, 18, .inl m_firstComment))) {o : (Int32) × (Int32) × (Nat → Int32)} {k35 : (Int32) → (Int32) → (Int32) → (Int32) → (Int32) → (Int32) → (Int32) → (Nat → Int32) → Option ((Int32) × (Int32) × (Nat → Int32))} (hk35 : ∀ (x2 : Int32) (x4 : Int32) (x5 : Int32) (x6 : Int32) (x7 : Int32) (m_column : Int32) (m_printed : Int32) (m_print : Nat → Int32), k35 x2 x4 x5 x6 x7 m_column m_printed m_print = some o → KW l xX6_putTokens D (kT cI cB cJ cZ) ws z (kQv D (kT cI cB cJ cZ) [(37, (ad 37, .inr (6, [.int m_thrown, .int m_rules, .ref (ad 38), .ref (ad 39), .ref (ad 40), .ref (ad 41), .ref (ad 42), .int m_length, .ref (ad 43), .int m_tree, .ref (ad 44), .int m_tokens, .ref (ad 45), .ref (ad 46), .ref (ad 47), .int m_comments, .ref (ad 48), .ref (ad 49), .ref (ad 50), .ref (ad 51), .ref (ad 52), .ref (ad 53), .int m_parts, .ref (ad 54), .ref (ad 55), .ref (ad 56), .ref (ad 57), .ref (ad 58), .ref (ad 59), .ref (ad 60), .ref (ad 61), .int m_end, .int m_open, .ref (ad 62), .ref (ad 63), .ref (ad 64), .ref (ad 65), .ref (ad 66), .int o.1, .int o.2.1, .ref (ad 67), .int m_repaired, .int m_paid]))), (67, (ad 67, .inl (cI, 6000, .inl o.2.2)))] ws z) 35 [(0, .ref (ad 37)), (2, .int x2), (4, .int x4), (5, .int x5), (6, .int x6), (7, .int x7)] [] [(37, (ad 37, .inr (6, [.int m_thrown, .int m_rules, .ref (ad 38), .ref (ad 39), .ref (ad 40), .ref (ad 41), .ref (ad 42), .int m_length, .ref (ad 43), .int m_tree, .ref (ad 44), .int m_tokens, .ref (ad 45), .ref (ad 46), .ref (ad 47), .int m_comments, .ref (ad 48), .ref (ad 49), .ref (ad 50), .ref (ad 51), .ref (ad 52), .ref (ad 53), .int m_parts, .ref (ad 54), .ref (ad 55), .ref (ad 56), .ref (ad 57), .ref (ad 58), .ref (ad 59), .ref (ad 60), .ref (ad 61), .int m_end, .int m_open, .ref (ad 62), .ref (ad 63), .ref (ad 64), .ref (ad 65), .ref (ad 66), .int m_column, .int m_printed, .ref (ad 67), .int m_repaired, .int m_paid]))), (67, (ad 67, .inl (cI, 6000, .inl m_print)))]) : ∀ (x2 : Int32) (x5 : Int32) (x6 : Int32) (x7 : Int32) (m_column : Int32) (m_printed : Int32) (m_print : Nat → Int32), jn_X6_putTokens_60 m_kept m_tokenAt m_tokenLength m_commentAt m_commentLength m_firstComment k35 x2 x5 x6 x7 m_column m_printed m_print = some o → KW l xX6_putTokens D (kT cI cB cJ cZ) ws z (kQv D (kT cI cB cJ cZ) [(37, (ad 37, .inr (6, [.int m_thrown, .int m_rules, .ref (ad 38), .ref (ad 39), .ref (ad 40), .ref (ad 41), .ref (ad 42), .int m_length, .ref (ad 43), .int m_tree, .ref (ad 44), .int m_tokens, .ref (ad 45), .ref (ad 46), .ref (ad 47), .int m_comments, .ref (ad 48), .ref (ad 49), .ref (ad 50), .ref (ad 51), .ref (ad 52), .ref (ad 53), .int m_parts, .ref (ad 54), .ref (ad 55), .ref (ad 56), .ref (ad 57), .ref (ad 58), .ref (ad 59), .ref (ad 60), .ref (ad 61), .int m_end, .int m_open, .ref (ad 62), .ref (ad 63), .ref (ad 64), .ref (ad 65), .ref (ad 66), .int o.1, .int o.2.1, .ref (ad 67), .int m_repaired, .int m_paid]))), (67, (ad 67, .inl (cI, 6000, .inl o.2.2)))] ws z) 60 [(0, .ref (ad 37)), (2, .int x2), (5, .int x5), (6, .int x6), (7, .int x7)] [] [(37, (ad 37, .inr (6, [.int m_thrown, .int m_rules, .ref (ad 38), .ref (ad 39), .ref (ad 40), .ref (ad 41), .ref (ad 42), .int m_length, .ref (ad 43), .int m_tree, .ref (ad 44), .int m_tokens, .ref (ad 45), .ref (ad 46), .ref (ad 47), .int m_comments, .ref (ad 48), .ref (ad 49), .ref (ad 50), .ref (ad 51), .ref (ad 52), .ref (ad 53), .int m_parts, .ref (ad 54), .ref (ad 55), .ref (ad 56), .ref (ad 57), .ref (ad 58), .ref (ad 59), .ref (ad 60), .ref (ad 61), .int m_end, .int m_open, .ref (ad 62), .ref (ad 63), .ref (ad 64), .ref (ad 65), .ref (ad 66), .int m_column, .int m_printed, .ref (ad 67), .int m_repaired, .int m_paid]))), (67, (ad 67, .inl (cI, 6000, .inl m_print)))] := by
  intro x2 x5 x6 x7 m_column m_printed m_print h
  unfold jn_X6_putTokens_60 at h
  refine k_iconst (v := 0) dX6_putTokens_60 (by decide) ?_
  refine k_istore (i := 8) (lv' := fun x => [(8, .int x), (0, .ref (ad 37)), (2, .int x2), (5, .int x5), (6, .int x6), (7, .int x7)]) dX6_putTokens_61 (Nat.le_of_ble_eq_true rfl) (fun _ => rfl) h (fun x8_7 h => ?_)
  refine k_sub [1, 2, 3, 4, 5, 0] rfl ?_
  refine wlp_X6_putTokens_63 (cI := cI) (cB := cB) (cJ := cJ) (cZ := cZ) (ad := ad) E ?_ FU _ _ _ _ _ _ _ _ h
  · intro x2 x5 x6 x7 m_column m_printed m_print h
    refine k_iconst (v := 1) dX6_putTokens_100 (by decide) ?_
    refine k_istore (i := 4) (lv' := fun x => [(4, .int x), (0, .ref (ad 37)), (2, .int x2), (5, .int x5), (6, .int x6), (7, .int x7)]) dX6_putTokens_101 (Nat.le_of_ble_eq_true rfl) (fun _ => rfl) h (fun x4_13 h => ?_)
    refine k_iinc (i := 7) (lv' := fun x => [(7, .int x), (4, .int x4_13), (0, .ref (ad 37)), (2, .int x2), (5, .int x5), (6, .int x6)]) dX6_putTokens_103 5 rfl (Nat.le_of_ble_eq_true rfl) (fun _ => rfl) h (fun x7_14 h => ?_)
    refine k_goto 35 dX6_putTokens_106 (by decide) ?_
    refine k_sub [2, 3, 1, 4, 5, 0] rfl ?_
    exact hk35 _ _ _ _ _ _ _ _ h
set_option maxHeartbeats 4000000 in
set_option maxRecDepth 100000 in
theorem wlp_X6_putTokens_35 {l : Launch} {D : va_G} {cI cB cJ cZ : ClassId} {ad : Nat → Nat} {ws : va_W} {z : Nat} {m_thrown : Int32} {m_rules : Int32} {m_length : Int32} {m_tree : Int32} {m_tokens : Int32} {m_comments : Int32} {m_parts : Int32} {m_end : Int32} {m_open : Int32} {m_repaired : Int32} {m_paid : Int32} {m_kept : Nat → Int32} {m_tokenAt : Nat → Int32} {m_tokenLength : Nat → Int32} {m_commentAt : Nat → Int32} {m_commentLength : Nat → Int32} {m_firstComment : Nat → Int32} (E : ws[44]? = some (ad 44, .inl (cI, 80, .inl m_kept)) ∧ ws[45]? = some (ad 45, .inl (cI, 17, .inl m_tokenAt)) ∧ ws[46]? = some (ad 46, .inl (cI, 17, .inl m_tokenLength)) ∧ ws[48]? = some (ad 48, .inl (cI, 41, .inl m_commentAt)) ∧ ws[49]? = some (ad 49, .inl (cI, 41, .inl m_commentLength)) ∧ ws[50]? = some (ad 50, .inl (cI, 18, .inl m_firstComment))) {o : (Int32) × (Int32) × (Nat → Int32)} {k109 : (Int32) → (Int32) → (Int32) → (Int32) → (Int32) → (Int32) → (Nat → Int32) → Option ((Int32) × (Int32) × (Nat → Int32))} (hk109 : ∀ (x2 : Int32) (x4 : Int32) (x5 : Int32) (x6 : Int32) (m_column : Int32) (m_printed : Int32) (m_print : Nat → Int32), k109 x2 x4 x5 x6 m_column m_printed m_print = some o → KW l xX6_putTokens D (kT cI cB cJ cZ) ws z (kQv D (kT cI cB cJ cZ) [(37, (ad 37, .inr (6, [.int m_thrown, .int m_rules, .ref (ad 38), .ref (ad 39), .ref (ad 40), .ref (ad 41), .ref (ad 42), .int m_length, .ref (ad 43), .int m_tree, .ref (ad 44), .int m_tokens, .ref (ad 45), .ref (ad 46), .ref (ad 47), .int m_comments, .ref (ad 48), .ref (ad 49), .ref (ad 50), .ref (ad 51), .ref (ad 52), .ref (ad 53), .int m_parts, .ref (ad 54), .ref (ad 55), .ref (ad 56), .ref (ad 57), .ref (ad 58), .ref (ad 59), .ref (ad 60), .ref (ad 61), .int m_end, .int m_open, .ref (ad 62), .ref (ad 63), .ref (ad 64), .ref (ad 65), .ref (ad 66), .int o.1, .int o.2.1, .ref (ad 67), .int m_repaired, .int m_paid]))), (67, (ad 67, .inl (cI, 6000, .inl o.2.2)))] ws z) 109 [(0, .ref (ad 37)), (2, .int x2), (4, .int x4), (5, .int x5), (6, .int x6)] [] [(37, (ad 37, .inr (6, [.int m_thrown, .int m_rules, .ref (ad 38), .ref (ad 39), .ref (ad 40), .ref (ad 41), .ref (ad 42), .int m_length, .ref (ad 43), .int m_tree, .ref (ad 44), .int m_tokens, .ref (ad 45), .ref (ad 46), .ref (ad 47), .int m_comments, .ref (ad 48), .ref (ad 49), .ref (ad 50), .ref (ad 51), .ref (ad 52), .ref (ad 53), .int m_parts, .ref (ad 54), .ref (ad 55), .ref (ad 56), .ref (ad 57), .ref (ad 58), .ref (ad 59), .ref (ad 60), .ref (ad 61), .int m_end, .int m_open, .ref (ad 62), .ref (ad 63), .ref (ad 64), .ref (ad 65), .ref (ad 66), .int m_column, .int m_printed, .ref (ad 67), .int m_repaired, .int m_paid]))), (67, (ad 67, .inl (cI, 6000, .inl m_print)))]) : ∀ (n : Nat) (x2 : Int32) (x4 : Int32) (x5 : Int32) (x6 : Int32) (x7 : Int32) (m_column : Int32) (m_printed : Int32) (m_print : Nat → Int32), lp_X6_putTokens_35 m_kept m_tokenAt m_tokenLength m_commentAt m_commentLength m_firstComment k109 n x2 x4 x5 x6 x7 m_column m_printed m_print = some o → KW l xX6_putTokens D (kT cI cB cJ cZ) ws z (kQv D (kT cI cB cJ cZ) [(37, (ad 37, .inr (6, [.int m_thrown, .int m_rules, .ref (ad 38), .ref (ad 39), .ref (ad 40), .ref (ad 41), .ref (ad 42), .int m_length, .ref (ad 43), .int m_tree, .ref (ad 44), .int m_tokens, .ref (ad 45), .ref (ad 46), .ref (ad 47), .int m_comments, .ref (ad 48), .ref (ad 49), .ref (ad 50), .ref (ad 51), .ref (ad 52), .ref (ad 53), .int m_parts, .ref (ad 54), .ref (ad 55), .ref (ad 56), .ref (ad 57), .ref (ad 58), .ref (ad 59), .ref (ad 60), .ref (ad 61), .int m_end, .int m_open, .ref (ad 62), .ref (ad 63), .ref (ad 64), .ref (ad 65), .ref (ad 66), .int o.1, .int o.2.1, .ref (ad 67), .int m_repaired, .int m_paid]))), (67, (ad 67, .inl (cI, 6000, .inl o.2.2)))] ws z) 35 [(0, .ref (ad 37)), (2, .int x2), (4, .int x4), (5, .int x5), (6, .int x6), (7, .int x7)] [] [(37, (ad 37, .inr (6, [.int m_thrown, .int m_rules, .ref (ad 38), .ref (ad 39), .ref (ad 40), .ref (ad 41), .ref (ad 42), .int m_length, .ref (ad 43), .int m_tree, .ref (ad 44), .int m_tokens, .ref (ad 45), .ref (ad 46), .ref (ad 47), .int m_comments, .ref (ad 48), .ref (ad 49), .ref (ad 50), .ref (ad 51), .ref (ad 52), .ref (ad 53), .int m_parts, .ref (ad 54), .ref (ad 55), .ref (ad 56), .ref (ad 57), .ref (ad 58), .ref (ad 59), .ref (ad 60), .ref (ad 61), .int m_end, .int m_open, .ref (ad 62), .ref (ad 63), .ref (ad 64), .ref (ad 65), .ref (ad 66), .int m_column, .int m_printed, .ref (ad 67), .int m_repaired, .int m_paid]))), (67, (ad 67, .inl (cI, 6000, .inl m_print)))] := by
  intro n
  induction n with
  | zero => intro x2 x4 x5 x6 x7 m_column m_printed m_print h; exact absurd h (by simp [lp_X6_putTokens_35])
  | succ n hk35 =>
    intro x2 x4 x5 x6 x7 m_column m_printed m_print h
    unfold lp_X6_putTokens_35 at h
    refine k_iload dX6_putTokens_35 5 rfl ?_
    refine k_aload_n dX6_putTokens_37 0 rfl rfl ?_
    refine k_get 37 18 rfl rfl qX6_putTokens_wX6 (by decide) qX6_putTokens_f47 rfl dX6_putTokens_38 ?_
    refine k_iload dX6_putTokens_41 4 rfl ?_
    refine k_iconst (v := 1) dX6_putTokens_43 (by decide) ?_
    refine k_iadd dX6_putTokens_44 ?_
    refine k_iald 50 0 E.2.2.2.2.2 rfl dX6_putTokens_45 h (fun v6 h => ?_)
    refine k_icmp_ge 109 dX6_putTokens_46 (by decide) h (fun h => ?_) (fun h => ?_)
    · skip
      refine k_sub [0, 1, 2, 3, 4] rfl ?_
      exact hk109 _ _ _ _ _ _ _ h
    · skip
      refine k_iload dX6_putTokens_49 2 rfl ?_
      refine k_if_eq 60 dX6_putTokens_51 (by decide) h (fun h => ?_) (fun h => ?_)
      · skip
        refine k_sub [0, 1, 3, 4, 5] rfl ?_
        exact wjn_X6_putTokens_60 (cI := cI) (cB := cB) (cJ := cJ) (cZ := cZ) (ad := ad) E hk35 _ _ _ _ _ _ _ h
      · skip
        refine k_aload_n dX6_putTokens_54 0 rfl rfl ?_
        refine k_bipush (v := 32) dX6_putTokens_55 (by decide) ?_
        obtain ⟨r15, hr15, h⟩ := Option.bind_eq_some_iff.mp h
        refine k_callvV (As := [.int 32]) (st := []) (Lc := [(37, (ad 37, .inr (6, [.int m_thrown, .int m_rules, .ref (ad 38), .ref (ad 39), .ref (ad 40), .ref (ad 41), .ref (ad 42), .int m_length, .ref (ad 43), .int m_tree, .ref (ad 44), .int m_tokens, .ref (ad 45), .ref (ad 46), .ref (ad 47), .int m_comments, .ref (ad 48), .ref (ad 49), .ref (ad 50), .ref (ad 51), .ref (ad 52), .ref (ad 53), .int m_parts, .ref (ad 54), .ref (ad 55), .ref (ad 56), .ref (ad 57), .ref (ad 58), .ref (ad 59), .ref (ad 60), .ref (ad 61), .int m_end, .int m_open, .ref (ad 62), .ref (ad 63), .ref (ad 64), .ref (ad 65), .ref (ad 66), .int r15.1, .int r15.2.1, .ref (ad 67), .int m_repaired, .int m_paid]))), (67, (ad 67, .inl (cI, 6000, .inl r15.2.2)))]) (L' := [(37, (ad 37, .inr (6, [.int m_thrown, .int m_rules, .ref (ad 38), .ref (ad 39), .ref (ad 40), .ref (ad 41), .ref (ad 42), .int m_length, .ref (ad 43), .int m_tree, .ref (ad 44), .int m_tokens, .ref (ad 45), .ref (ad 46), .ref (ad 47), .int m_comments, .ref (ad 48), .ref (ad 49), .ref (ad 50), .ref (ad 51), .ref (ad 52), .ref (ad 53), .int m_parts, .ref (ad 54), .ref (ad 55), .ref (ad 56), .ref (ad 57), .ref (ad 58), .ref (ad 59), .ref (ad 60), .ref (ad 61), .int m_end, .int m_open, .ref (ad 62), .ref (ad 63), .ref (ad 64), .ref (ad 65), .ref (ad 66), .int r15.1, .int r15.2.1, .ref (ad 67), .int m_repaired, .int m_paid]))), (67, (ad 67, .inl (cI, 6000, .inl r15.2.2)))]) gX6_putTokens_X6_put rfl rfl rfl hyVX6_put ⟨Nat.le_of_ble_eq_true rfl, Nat.le_of_ble_eq_true rfl⟩ rfl rfl (Nat.le_of_ble_eq_true rfl) 37 rfl rfl dX6_putTokens_57 (fun w z hw => c_X6_put (cI := cI) (cB := cB) (cJ := cJ) (cZ := cZ) (ad := ad) w z trivial (hw 37) (hw 67) hr15) rfl rfl ?_
        refine k_sub [0, 1, 3, 4, 5] rfl ?_
        exact wjn_X6_putTokens_60 (cI := cI) (cB := cB) (cJ := cJ) (cZ := cZ) (ad := ad) E hk35 _ _ _ _ _ _ _ h
set_option maxHeartbeats 4000000 in
set_option maxRecDepth 100000 in
theorem wjn_X6_putTokens_169 {l : Launch} {D : va_G} {cI cB cJ cZ : ClassId} {ad : Nat → Nat} {ws : va_W} {z : Nat} {m_thrown : Int32} {m_rules : Int32} {m_length : Int32} {m_tree : Int32} {m_tokens : Int32} {m_comments : Int32} {m_parts : Int32} {m_end : Int32} {m_open : Int32} {m_repaired : Int32} {m_paid : Int32} {m_kept : Nat → Int32} {m_tokenAt : Nat → Int32} {m_tokenLength : Nat → Int32} {m_commentAt : Nat → Int32} {m_commentLength : Nat → Int32} {m_firstComment : Nat → Int32} (E : ws[44]? = some (ad 44, .inl (cI, 80, .inl m_kept)) ∧ ws[45]? = some (ad 45, .inl (cI, 17, .inl m_tokenAt)) ∧ ws[46]? = some (ad 46, .inl (cI, 17, .inl m_tokenLength)) ∧ ws[48]? = some (ad 48, .inl (cI, 41, .inl m_commentAt)) ∧ ws[49]? = some (ad 49, .inl (cI, 41, .inl m_commentLength)) ∧ ws[50]? = some (ad 50, .inl (cI, 18, .inl m_firstComment))) {o : (Int32) × (Int32) × (Nat → Int32)} {k19 : (Int32) → (Int32) → (Int32) → (Int32) → (Int32) → (Int32) → (Nat → Int32) → Option ((Int32) × (Int32) × (Nat → Int32))} (hk19 : ∀ (x2 : Int32) (x4 : Int32) (x5 : Int32) (x6 : Int32) (m_column : Int32) (m_printed : Int32) (m_print : Nat → Int32), k19 x2 x4 x5 x6 m_column m_printed m_print = some o → KW l xX6_putTokens D (kT cI cB cJ cZ) ws z (kQv D (kT cI cB cJ cZ) [(37, (ad 37, .inr (6, [.int m_thrown, .int m_rules, .ref (ad 38), .ref (ad 39), .ref (ad 40), .ref (ad 41), .ref (ad 42), .int m_length, .ref (ad 43), .int m_tree, .ref (ad 44), .int m_tokens, .ref (ad 45), .ref (ad 46), .ref (ad 47), .int m_comments, .ref (ad 48), .ref (ad 49), .ref (ad 50), .ref (ad 51), .ref (ad 52), .ref (ad 53), .int m_parts, .ref (ad 54), .ref (ad 55), .ref (ad 56), .ref (ad 57), .ref (ad 58), .ref (ad 59), .ref (ad 60), .ref (ad 61), .int m_end, .int m_open, .ref (ad 62), .ref (ad 63), .ref (ad 64), .ref (ad 65), .ref (ad 66), .int o.1, .int o.2.1, .ref (ad 67), .int m_repaired, .int m_paid]))), (67, (ad 67, .inl (cI, 6000, .inl o.2.2)))] ws z) 19 [(0, .ref (ad 37)), (2, .int x2), (4, .int x4), (5, .int x5), (6, .int x6)] [] [(37, (ad 37, .inr (6, [.int m_thrown, .int m_rules, .ref (ad 38), .ref (ad 39), .ref (ad 40), .ref (ad 41), .ref (ad 42), .int m_length, .ref (ad 43), .int m_tree, .ref (ad 44), .int m_tokens, .ref (ad 45), .ref (ad 46), .ref (ad 47), .int m_comments, .ref (ad 48), .ref (ad 49), .ref (ad 50), .ref (ad 51), .ref (ad 52), .ref (ad 53), .int m_parts, .ref (ad 54), .ref (ad 55), .ref (ad 56), .ref (ad 57), .ref (ad 58), .ref (ad 59), .ref (ad 60), .ref (ad 61), .int m_end, .int m_open, .ref (ad 62), .ref (ad 63), .ref (ad 64), .ref (ad 65), .ref (ad 66), .int m_column, .int m_printed, .ref (ad 67), .int m_repaired, .int m_paid]))), (67, (ad 67, .inl (cI, 6000, .inl m_print)))]) : ∀ (x2 : Int32) (x4 : Int32) (x5 : Int32) (x6 : Int32) (m_column : Int32) (m_printed : Int32) (m_print : Nat → Int32), jn_X6_putTokens_169 m_kept m_tokenAt m_tokenLength m_commentAt m_commentLength m_firstComment k19 x2 x4 x5 x6 m_column m_printed m_print = some o → KW l xX6_putTokens D (kT cI cB cJ cZ) ws z (kQv D (kT cI cB cJ cZ) [(37, (ad 37, .inr (6, [.int m_thrown, .int m_rules, .ref (ad 38), .ref (ad 39), .ref (ad 40), .ref (ad 41), .ref (ad 42), .int m_length, .ref (ad 43), .int m_tree, .ref (ad 44), .int m_tokens, .ref (ad 45), .ref (ad 46), .ref (ad 47), .int m_comments, .ref (ad 48), .ref (ad 49), .ref (ad 50), .ref (ad 51), .ref (ad 52), .ref (ad 53), .int m_parts, .ref (ad 54), .ref (ad 55), .ref (ad 56), .ref (ad 57), .ref (ad 58), .ref (ad 59), .ref (ad 60), .ref (ad 61), .int m_end, .int m_open, .ref (ad 62), .ref (ad 63), .ref (ad 64), .ref (ad 65), .ref (ad 66), .int o.1, .int o.2.1, .ref (ad 67), .int m_repaired, .int m_paid]))), (67, (ad 67, .inl (cI, 6000, .inl o.2.2)))] ws z) 169 [(0, .ref (ad 37)), (2, .int x2), (4, .int x4), (5, .int x5), (6, .int x6)] [] [(37, (ad 37, .inr (6, [.int m_thrown, .int m_rules, .ref (ad 38), .ref (ad 39), .ref (ad 40), .ref (ad 41), .ref (ad 42), .int m_length, .ref (ad 43), .int m_tree, .ref (ad 44), .int m_tokens, .ref (ad 45), .ref (ad 46), .ref (ad 47), .int m_comments, .ref (ad 48), .ref (ad 49), .ref (ad 50), .ref (ad 51), .ref (ad 52), .ref (ad 53), .int m_parts, .ref (ad 54), .ref (ad 55), .ref (ad 56), .ref (ad 57), .ref (ad 58), .ref (ad 59), .ref (ad 60), .ref (ad 61), .int m_end, .int m_open, .ref (ad 62), .ref (ad 63), .ref (ad 64), .ref (ad 65), .ref (ad 66), .int m_column, .int m_printed, .ref (ad 67), .int m_repaired, .int m_paid]))), (67, (ad 67, .inl (cI, 6000, .inl m_print)))] := by
  intro x2 x4 x5 x6 m_column m_printed m_print h
  unfold jn_X6_putTokens_169 at h
  refine k_iinc (i := 6) (lv' := fun x => [(6, .int x), (0, .ref (ad 37)), (2, .int x2), (4, .int x4), (5, .int x5)]) dX6_putTokens_169 4 rfl (Nat.le_of_ble_eq_true rfl) (fun _ => rfl) h (fun x6_16 h => ?_)
  refine k_goto 19 dX6_putTokens_172 (by decide) ?_
  refine k_sub [1, 2, 3, 4, 0] rfl ?_
  exact hk19 _ _ _ _ _ _ _ h
set_option maxHeartbeats 4000000 in
set_option maxRecDepth 100000 in
theorem wlp_X6_putTokens_129 {l : Launch} {D : va_G} {cI cB cJ cZ : ClassId} {ad : Nat → Nat} {ws : va_W} {z : Nat} {m_thrown : Int32} {m_rules : Int32} {m_length : Int32} {m_tree : Int32} {m_tokens : Int32} {m_comments : Int32} {m_parts : Int32} {m_end : Int32} {m_open : Int32} {m_repaired : Int32} {m_paid : Int32} {m_kept : Nat → Int32} {m_tokenAt : Nat → Int32} {m_tokenLength : Nat → Int32} {m_commentAt : Nat → Int32} {m_commentLength : Nat → Int32} {m_firstComment : Nat → Int32} (E : ws[44]? = some (ad 44, .inl (cI, 80, .inl m_kept)) ∧ ws[45]? = some (ad 45, .inl (cI, 17, .inl m_tokenAt)) ∧ ws[46]? = some (ad 46, .inl (cI, 17, .inl m_tokenLength)) ∧ ws[48]? = some (ad 48, .inl (cI, 41, .inl m_commentAt)) ∧ ws[49]? = some (ad 49, .inl (cI, 41, .inl m_commentLength)) ∧ ws[50]? = some (ad 50, .inl (cI, 18, .inl m_firstComment))) {o : (Int32) × (Int32) × (Nat → Int32)} {k166 : (Int32) → (Int32) → (Int32) → (Int32) → (Int32) → (Nat → Int32) → Option ((Int32) × (Int32) × (Nat → Int32))} (hk166 : ∀ (x2 : Int32) (x5 : Int32) (x6 : Int32) (m_column : Int32) (m_printed : Int32) (m_print : Nat → Int32), k166 x2 x5 x6 m_column m_printed m_print = some o → KW l xX6_putTokens D (kT cI cB cJ cZ) ws z (kQv D (kT cI cB cJ cZ) [(37, (ad 37, .inr (6, [.int m_thrown, .int m_rules, .ref (ad 38), .ref (ad 39), .ref (ad 40), .ref (ad 41), .ref (ad 42), .int m_length, .ref (ad 43), .int m_tree, .ref (ad 44), .int m_tokens, .ref (ad 45), .ref (ad 46), .ref (ad 47), .int m_comments, .ref (ad 48), .ref (ad 49), .ref (ad 50), .ref (ad 51), .ref (ad 52), .ref (ad 53), .int m_parts, .ref (ad 54), .ref (ad 55), .ref (ad 56), .ref (ad 57), .ref (ad 58), .ref (ad 59), .ref (ad 60), .ref (ad 61), .int m_end, .int m_open, .ref (ad 62), .ref (ad 63), .ref (ad 64), .ref (ad 65), .ref (ad 66), .int o.1, .int o.2.1, .ref (ad 67), .int m_repaired, .int m_paid]))), (67, (ad 67, .inl (cI, 6000, .inl o.2.2)))] ws z) 166 [(0, .ref (ad 37)), (2, .int x2), (5, .int x5), (6, .int x6)] [] [(37, (ad 37, .inr (6, [.int m_thrown, .int m_rules, .ref (ad 38), .ref (ad 39), .ref (ad 40), .ref (ad 41), .ref (ad 42), .int m_length, .ref (ad 43), .int m_tree, .ref (ad 44), .int m_tokens, .ref (ad 45), .ref (ad 46), .ref (ad 47), .int m_comments, .ref (ad 48), .ref (ad 49), .ref (ad 50), .ref (ad 51), .ref (ad 52), .ref (ad 53), .int m_parts, .ref (ad 54), .ref (ad 55), .ref (ad 56), .ref (ad 57), .ref (ad 58), .ref (ad 59), .ref (ad 60), .ref (ad 61), .int m_end, .int m_open, .ref (ad 62), .ref (ad 63), .ref (ad 64), .ref (ad 65), .ref (ad 66), .int m_column, .int m_printed, .ref (ad 67), .int m_repaired, .int m_paid]))), (67, (ad 67, .inl (cI, 6000, .inl m_print)))]) : ∀ (n : Nat) (x2 : Int32) (x5 : Int32) (x6 : Int32) (x7 : Int32) (m_column : Int32) (m_printed : Int32) (m_print : Nat → Int32), lp_X6_putTokens_129 m_kept m_tokenAt m_tokenLength m_commentAt m_commentLength m_firstComment k166 n x2 x5 x6 x7 m_column m_printed m_print = some o → KW l xX6_putTokens D (kT cI cB cJ cZ) ws z (kQv D (kT cI cB cJ cZ) [(37, (ad 37, .inr (6, [.int m_thrown, .int m_rules, .ref (ad 38), .ref (ad 39), .ref (ad 40), .ref (ad 41), .ref (ad 42), .int m_length, .ref (ad 43), .int m_tree, .ref (ad 44), .int m_tokens, .ref (ad 45), .ref (ad 46), .ref (ad 47), .int m_comments, .ref (ad 48), .ref (ad 49), .ref (ad 50), .ref (ad 51), .ref (ad 52), .ref (ad 53), .int m_parts, .ref (ad 54), .ref (ad 55), .ref (ad 56), .ref (ad 57), .ref (ad 58), .ref (ad 59), .ref (ad 60), .ref (ad 61), .int m_end, .int m_open, .ref (ad 62), .ref (ad 63), .ref (ad 64), .ref (ad 65), .ref (ad 66), .int o.1, .int o.2.1, .ref (ad 67), .int m_repaired, .int m_paid]))), (67, (ad 67, .inl (cI, 6000, .inl o.2.2)))] ws z) 129 [(0, .ref (ad 37)), (2, .int x2), (5, .int x5), (6, .int x6), (7, .int x7)] [] [(37, (ad 37, .inr (6, [.int m_thrown, .int m_rules, .ref (ad 38), .ref (ad 39), .ref (ad 40), .ref (ad 41), .ref (ad 42), .int m_length, .ref (ad 43), .int m_tree, .ref (ad 44), .int m_tokens, .ref (ad 45), .ref (ad 46), .ref (ad 47), .int m_comments, .ref (ad 48), .ref (ad 49), .ref (ad 50), .ref (ad 51), .ref (ad 52), .ref (ad 53), .int m_parts, .ref (ad 54), .ref (ad 55), .ref (ad 56), .ref (ad 57), .ref (ad 58), .ref (ad 59), .ref (ad 60), .ref (ad 61), .int m_end, .int m_open, .ref (ad 62), .ref (ad 63), .ref (ad 64), .ref (ad 65), .ref (ad 66), .int m_column, .int m_printed, .ref (ad 67), .int m_repaired, .int m_paid]))), (67, (ad 67, .inl (cI, 6000, .inl m_print)))] := by
  intro n
  induction n with
  | zero => intro x2 x5 x6 x7 m_column m_printed m_print h; exact absurd h (by simp [lp_X6_putTokens_129])
  | succ n hk129 =>
    intro x2 x5 x6 x7 m_column m_printed m_print h
    unfold lp_X6_putTokens_129 at h
    refine k_iload dX6_putTokens_129 4 rfl ?_
    refine k_aload_n dX6_putTokens_131 0 rfl rfl ?_
    refine k_get 37 13 rfl rfl qX6_putTokens_wX6 (by decide) qX6_putTokens_f35 rfl dX6_putTokens_132 ?_
    refine k_iload dX6_putTokens_135 3 rfl ?_
    refine k_iald 46 0 E.2.2.1 rfl dX6_putTokens_137 h (fun v18 h => ?_)
    refine k_icmp_ge 166 dX6_putTokens_138 (by decide) h (fun h => ?_) (fun h => ?_)
    · skip
      refine k_sub [0, 1, 2, 3] rfl ?_
      exact hk166 _ _ _ _ _ _ h
    · skip
      refine k_aload_n dX6_putTokens_141 0 rfl rfl ?_
      refine k_aload_n dX6_putTokens_142 0 rfl rfl ?_
      refine k_get 37 10 rfl rfl qX6_putTokens_wX6 (by decide) qX6_putTokens_f29 rfl dX6_putTokens_143 ?_
      refine k_aload_n dX6_putTokens_146 0 rfl rfl ?_
      refine k_get 37 12 rfl rfl qX6_putTokens_wX6 (by decide) qX6_putTokens_f32 rfl dX6_putTokens_147 ?_
      refine k_iload dX6_putTokens_150 3 rfl ?_
      refine k_iald 45 0 E.2.1 rfl dX6_putTokens_152 h (fun v19 h => ?_)
      refine k_iload dX6_putTokens_153 4 rfl ?_
      refine k_iadd dX6_putTokens_155 ?_
      refine k_iald 44 0 E.1 rfl dX6_putTokens_156 h (fun v20 h => ?_)
      obtain ⟨r21, hr21, h⟩ := Option.bind_eq_some_iff.mp h
      refine k_callvV (As := [.int v20]) (st := []) (Lc := [(37, (ad 37, .inr (6, [.int m_thrown, .int m_rules, .ref (ad 38), .ref (ad 39), .ref (ad 40), .ref (ad 41), .ref (ad 42), .int m_length, .ref (ad 43), .int m_tree, .ref (ad 44), .int m_tokens, .ref (ad 45), .ref (ad 46), .ref (ad 47), .int m_comments, .ref (ad 48), .ref (ad 49), .ref (ad 50), .ref (ad 51), .ref (ad 52), .ref (ad 53), .int m_parts, .ref (ad 54), .ref (ad 55), .ref (ad 56), .ref (ad 57), .ref (ad 58), .ref (ad 59), .ref (ad 60), .ref (ad 61), .int m_end, .int m_open, .ref (ad 62), .ref (ad 63), .ref (ad 64), .ref (ad 65), .ref (ad 66), .int r21.1, .int r21.2.1, .ref (ad 67), .int m_repaired, .int m_paid]))), (67, (ad 67, .inl (cI, 6000, .inl r21.2.2)))]) (L' := [(37, (ad 37, .inr (6, [.int m_thrown, .int m_rules, .ref (ad 38), .ref (ad 39), .ref (ad 40), .ref (ad 41), .ref (ad 42), .int m_length, .ref (ad 43), .int m_tree, .ref (ad 44), .int m_tokens, .ref (ad 45), .ref (ad 46), .ref (ad 47), .int m_comments, .ref (ad 48), .ref (ad 49), .ref (ad 50), .ref (ad 51), .ref (ad 52), .ref (ad 53), .int m_parts, .ref (ad 54), .ref (ad 55), .ref (ad 56), .ref (ad 57), .ref (ad 58), .ref (ad 59), .ref (ad 60), .ref (ad 61), .int m_end, .int m_open, .ref (ad 62), .ref (ad 63), .ref (ad 64), .ref (ad 65), .ref (ad 66), .int r21.1, .int r21.2.1, .ref (ad 67), .int m_repaired, .int m_paid]))), (67, (ad 67, .inl (cI, 6000, .inl r21.2.2)))]) gX6_putTokens_X6_put rfl rfl rfl hyVX6_put ⟨Nat.le_of_ble_eq_true rfl, Nat.le_of_ble_eq_true rfl⟩ rfl rfl (Nat.le_of_ble_eq_true rfl) 37 rfl rfl dX6_putTokens_157 (fun w z hw => c_X6_put (cI := cI) (cB := cB) (cJ := cJ) (cZ := cZ) (ad := ad) w z trivial (hw 37) (hw 67) hr21) rfl rfl ?_
      refine k_iinc (i := 7) (lv' := fun x => [(7, .int x), (0, .ref (ad 37)), (2, .int x2), (5, .int x5), (6, .int x6)]) dX6_putTokens_160 4 rfl (Nat.le_of_ble_eq_true rfl) (fun _ => rfl) h (fun x7_22 h => ?_)
      refine k_goto 129 dX6_putTokens_163 (by decide) ?_
      refine k_sub [1, 2, 3, 4, 0] rfl ?_
      exact hk129 _ _ _ _ _ _ _ h
set_option maxHeartbeats 4000000 in
set_option maxRecDepth 100000 in
theorem wjn_X6_putTokens_126 {l : Launch} {D : va_G} {cI cB cJ cZ : ClassId} {ad : Nat → Nat} {ws : va_W} {z : Nat} {m_thrown : Int32} {m_rules : Int32} {m_length : Int32} {m_tree : Int32} {m_tokens : Int32} {m_comments : Int32} {m_parts : Int32} {m_end : Int32} {m_open : Int32} {m_repaired : Int32} {m_paid : Int32} {m_kept : Nat → Int32} {m_tokenAt : Nat → Int32} {m_tokenLength : Nat → Int32} {m_commentAt : Nat → Int32} {m_commentLength : Nat → Int32} {m_firstComment : Nat → Int32} (E : ws[44]? = some (ad 44, .inl (cI, 80, .inl m_kept)) ∧ ws[45]? = some (ad 45, .inl (cI, 17, .inl m_tokenAt)) ∧ ws[46]? = some (ad 46, .inl (cI, 17, .inl m_tokenLength)) ∧ ws[48]? = some (ad 48, .inl (cI, 41, .inl m_commentAt)) ∧ ws[49]? = some (ad 49, .inl (cI, 41, .inl m_commentLength)) ∧ ws[50]? = some (ad 50, .inl (cI, 18, .inl m_firstComment))) {o : (Int32) × (Int32) × (Nat → Int32)} {k19 : (Int32) → (Int32) → (Int32) → (Int32) → (Int32) → (Int32) → (Nat → Int32) → Option ((Int32) × (Int32) × (Nat → Int32))} (hk19 : ∀ (x2 : Int32) (x4 : Int32) (x5 : Int32) (x6 : Int32) (m_column : Int32) (m_printed : Int32) (m_print : Nat → Int32), k19 x2 x4 x5 x6 m_column m_printed m_print = some o → KW l xX6_putTokens D (kT cI cB cJ cZ) ws z (kQv D (kT cI cB cJ cZ) [(37, (ad 37, .inr (6, [.int m_thrown, .int m_rules, .ref (ad 38), .ref (ad 39), .ref (ad 40), .ref (ad 41), .ref (ad 42), .int m_length, .ref (ad 43), .int m_tree, .ref (ad 44), .int m_tokens, .ref (ad 45), .ref (ad 46), .ref (ad 47), .int m_comments, .ref (ad 48), .ref (ad 49), .ref (ad 50), .ref (ad 51), .ref (ad 52), .ref (ad 53), .int m_parts, .ref (ad 54), .ref (ad 55), .ref (ad 56), .ref (ad 57), .ref (ad 58), .ref (ad 59), .ref (ad 60), .ref (ad 61), .int m_end, .int m_open, .ref (ad 62), .ref (ad 63), .ref (ad 64), .ref (ad 65), .ref (ad 66), .int o.1, .int o.2.1, .ref (ad 67), .int m_repaired, .int m_paid]))), (67, (ad 67, .inl (cI, 6000, .inl o.2.2)))] ws z) 19 [(0, .ref (ad 37)), (2, .int x2), (4, .int x4), (5, .int x5), (6, .int x6)] [] [(37, (ad 37, .inr (6, [.int m_thrown, .int m_rules, .ref (ad 38), .ref (ad 39), .ref (ad 40), .ref (ad 41), .ref (ad 42), .int m_length, .ref (ad 43), .int m_tree, .ref (ad 44), .int m_tokens, .ref (ad 45), .ref (ad 46), .ref (ad 47), .int m_comments, .ref (ad 48), .ref (ad 49), .ref (ad 50), .ref (ad 51), .ref (ad 52), .ref (ad 53), .int m_parts, .ref (ad 54), .ref (ad 55), .ref (ad 56), .ref (ad 57), .ref (ad 58), .ref (ad 59), .ref (ad 60), .ref (ad 61), .int m_end, .int m_open, .ref (ad 62), .ref (ad 63), .ref (ad 64), .ref (ad 65), .ref (ad 66), .int m_column, .int m_printed, .ref (ad 67), .int m_repaired, .int m_paid]))), (67, (ad 67, .inl (cI, 6000, .inl m_print)))]) : ∀ (x2 : Int32) (x5 : Int32) (x6 : Int32) (m_column : Int32) (m_printed : Int32) (m_print : Nat → Int32), jn_X6_putTokens_126 m_kept m_tokenAt m_tokenLength m_commentAt m_commentLength m_firstComment k19 x2 x5 x6 m_column m_printed m_print = some o → KW l xX6_putTokens D (kT cI cB cJ cZ) ws z (kQv D (kT cI cB cJ cZ) [(37, (ad 37, .inr (6, [.int m_thrown, .int m_rules, .ref (ad 38), .ref (ad 39), .ref (ad 40), .ref (ad 41), .ref (ad 42), .int m_length, .ref (ad 43), .int m_tree, .ref (ad 44), .int m_tokens, .ref (ad 45), .ref (ad 46), .ref (ad 47), .int m_comments, .ref (ad 48), .ref (ad 49), .ref (ad 50), .ref (ad 51), .ref (ad 52), .ref (ad 53), .int m_parts, .ref (ad 54), .ref (ad 55), .ref (ad 56), .ref (ad 57), .ref (ad 58), .ref (ad 59), .ref (ad 60), .ref (ad 61), .int m_end, .int m_open, .ref (ad 62), .ref (ad 63), .ref (ad 64), .ref (ad 65), .ref (ad 66), .int o.1, .int o.2.1, .ref (ad 67), .int m_repaired, .int m_paid]))), (67, (ad 67, .inl (cI, 6000, .inl o.2.2)))] ws z) 126 [(0, .ref (ad 37)), (2, .int x2), (5, .int x5), (6, .int x6)] [] [(37, (ad 37, .inr (6, [.int m_thrown, .int m_rules, .ref (ad 38), .ref (ad 39), .ref (ad 40), .ref (ad 41), .ref (ad 42), .int m_length, .ref (ad 43), .int m_tree, .ref (ad 44), .int m_tokens, .ref (ad 45), .ref (ad 46), .ref (ad 47), .int m_comments, .ref (ad 48), .ref (ad 49), .ref (ad 50), .ref (ad 51), .ref (ad 52), .ref (ad 53), .int m_parts, .ref (ad 54), .ref (ad 55), .ref (ad 56), .ref (ad 57), .ref (ad 58), .ref (ad 59), .ref (ad 60), .ref (ad 61), .int m_end, .int m_open, .ref (ad 62), .ref (ad 63), .ref (ad 64), .ref (ad 65), .ref (ad 66), .int m_column, .int m_printed, .ref (ad 67), .int m_repaired, .int m_paid]))), (67, (ad 67, .inl (cI, 6000, .inl m_print)))] := by
  intro x2 x5 x6 m_column m_printed m_print h
  unfold jn_X6_putTokens_126 at h
  refine k_iconst (v := 0) dX6_putTokens_126 (by decide) ?_
  refine k_istore (i := 7) (lv' := fun x => [(7, .int x), (0, .ref (ad 37)), (2, .int x2), (5, .int x5), (6, .int x6)]) dX6_putTokens_127 (Nat.le_of_ble_eq_true rfl) (fun _ => rfl) h (fun x7_17 h => ?_)
  refine k_sub [1, 2, 3, 4, 0] rfl ?_
  refine wlp_X6_putTokens_129 (cI := cI) (cB := cB) (cJ := cJ) (cZ := cZ) (ad := ad) E ?_ FU _ _ _ _ _ _ _ h
  · intro x2 x5 x6 m_column m_printed m_print h
    refine k_iconst (v := 1) dX6_putTokens_166 (by decide) ?_
    refine k_istore (i := 4) (lv' := fun x => [(4, .int x), (0, .ref (ad 37)), (2, .int x2), (5, .int x5), (6, .int x6)]) dX6_putTokens_167 (Nat.le_of_ble_eq_true rfl) (fun _ => rfl) h (fun x4_23 h => ?_)
    refine k_sub [1, 2, 0, 3, 4] rfl ?_
    exact wjn_X6_putTokens_169 (cI := cI) (cB := cB) (cJ := cJ) (cZ := cZ) (ad := ad) E hk19 _ _ _ _ _ _ _ h
set_option maxHeartbeats 4000000 in
set_option maxRecDepth 100000 in
theorem wlp_X6_putTokens_19 {l : Launch} {D : va_G} {cI cB cJ cZ : ClassId} {ad : Nat → Nat} {ws : va_W} {z : Nat} {m_thrown : Int32} {m_rules : Int32} {m_length : Int32} {m_tree : Int32} {m_tokens : Int32} {m_comments : Int32} {m_parts : Int32} {m_end : Int32} {m_open : Int32} {m_repaired : Int32} {m_paid : Int32} {m_kept : Nat → Int32} {m_tokenAt : Nat → Int32} {m_tokenLength : Nat → Int32} {m_commentAt : Nat → Int32} {m_commentLength : Nat → Int32} {m_firstComment : Nat → Int32} (E : ws[44]? = some (ad 44, .inl (cI, 80, .inl m_kept)) ∧ ws[45]? = some (ad 45, .inl (cI, 17, .inl m_tokenAt)) ∧ ws[46]? = some (ad 46, .inl (cI, 17, .inl m_tokenLength)) ∧ ws[48]? = some (ad 48, .inl (cI, 41, .inl m_commentAt)) ∧ ws[49]? = some (ad 49, .inl (cI, 41, .inl m_commentLength)) ∧ ws[50]? = some (ad 50, .inl (cI, 18, .inl m_firstComment))) {o : (Int32) × (Int32) × (Nat → Int32)} {k175 : (Int32) → (Int32) → (Nat → Int32) → Option ((Int32) × (Int32) × (Nat → Int32))} (hk175 : ∀ (m_column : Int32) (m_printed : Int32) (m_print : Nat → Int32), k175 m_column m_printed m_print = some o → KW l xX6_putTokens D (kT cI cB cJ cZ) ws z (kQv D (kT cI cB cJ cZ) [(37, (ad 37, .inr (6, [.int m_thrown, .int m_rules, .ref (ad 38), .ref (ad 39), .ref (ad 40), .ref (ad 41), .ref (ad 42), .int m_length, .ref (ad 43), .int m_tree, .ref (ad 44), .int m_tokens, .ref (ad 45), .ref (ad 46), .ref (ad 47), .int m_comments, .ref (ad 48), .ref (ad 49), .ref (ad 50), .ref (ad 51), .ref (ad 52), .ref (ad 53), .int m_parts, .ref (ad 54), .ref (ad 55), .ref (ad 56), .ref (ad 57), .ref (ad 58), .ref (ad 59), .ref (ad 60), .ref (ad 61), .int m_end, .int m_open, .ref (ad 62), .ref (ad 63), .ref (ad 64), .ref (ad 65), .ref (ad 66), .int o.1, .int o.2.1, .ref (ad 67), .int m_repaired, .int m_paid]))), (67, (ad 67, .inl (cI, 6000, .inl o.2.2)))] ws z) 175 [] [] [(37, (ad 37, .inr (6, [.int m_thrown, .int m_rules, .ref (ad 38), .ref (ad 39), .ref (ad 40), .ref (ad 41), .ref (ad 42), .int m_length, .ref (ad 43), .int m_tree, .ref (ad 44), .int m_tokens, .ref (ad 45), .ref (ad 46), .ref (ad 47), .int m_comments, .ref (ad 48), .ref (ad 49), .ref (ad 50), .ref (ad 51), .ref (ad 52), .ref (ad 53), .int m_parts, .ref (ad 54), .ref (ad 55), .ref (ad 56), .ref (ad 57), .ref (ad 58), .ref (ad 59), .ref (ad 60), .ref (ad 61), .int m_end, .int m_open, .ref (ad 62), .ref (ad 63), .ref (ad 64), .ref (ad 65), .ref (ad 66), .int m_column, .int m_printed, .ref (ad 67), .int m_repaired, .int m_paid]))), (67, (ad 67, .inl (cI, 6000, .inl m_print)))]) : ∀ (n : Nat) (x2 : Int32) (x4 : Int32) (x5 : Int32) (x6 : Int32) (m_column : Int32) (m_printed : Int32) (m_print : Nat → Int32), lp_X6_putTokens_19 m_kept m_tokenAt m_tokenLength m_commentAt m_commentLength m_firstComment k175 n x2 x4 x5 x6 m_column m_printed m_print = some o → KW l xX6_putTokens D (kT cI cB cJ cZ) ws z (kQv D (kT cI cB cJ cZ) [(37, (ad 37, .inr (6, [.int m_thrown, .int m_rules, .ref (ad 38), .ref (ad 39), .ref (ad 40), .ref (ad 41), .ref (ad 42), .int m_length, .ref (ad 43), .int m_tree, .ref (ad 44), .int m_tokens, .ref (ad 45), .ref (ad 46), .ref (ad 47), .int m_comments, .ref (ad 48), .ref (ad 49), .ref (ad 50), .ref (ad 51), .ref (ad 52), .ref (ad 53), .int m_parts, .ref (ad 54), .ref (ad 55), .ref (ad 56), .ref (ad 57), .ref (ad 58), .ref (ad 59), .ref (ad 60), .ref (ad 61), .int m_end, .int m_open, .ref (ad 62), .ref (ad 63), .ref (ad 64), .ref (ad 65), .ref (ad 66), .int o.1, .int o.2.1, .ref (ad 67), .int m_repaired, .int m_paid]))), (67, (ad 67, .inl (cI, 6000, .inl o.2.2)))] ws z) 19 [(0, .ref (ad 37)), (2, .int x2), (4, .int x4), (5, .int x5), (6, .int x6)] [] [(37, (ad 37, .inr (6, [.int m_thrown, .int m_rules, .ref (ad 38), .ref (ad 39), .ref (ad 40), .ref (ad 41), .ref (ad 42), .int m_length, .ref (ad 43), .int m_tree, .ref (ad 44), .int m_tokens, .ref (ad 45), .ref (ad 46), .ref (ad 47), .int m_comments, .ref (ad 48), .ref (ad 49), .ref (ad 50), .ref (ad 51), .ref (ad 52), .ref (ad 53), .int m_parts, .ref (ad 54), .ref (ad 55), .ref (ad 56), .ref (ad 57), .ref (ad 58), .ref (ad 59), .ref (ad 60), .ref (ad 61), .int m_end, .int m_open, .ref (ad 62), .ref (ad 63), .ref (ad 64), .ref (ad 65), .ref (ad 66), .int m_column, .int m_printed, .ref (ad 67), .int m_repaired, .int m_paid]))), (67, (ad 67, .inl (cI, 6000, .inl m_print)))] := by
  intro n
  induction n with
  | zero => intro x2 x4 x5 x6 m_column m_printed m_print h; exact absurd h (by simp [lp_X6_putTokens_19])
  | succ n hk19 =>
    intro x2 x4 x5 x6 m_column m_printed m_print h
    unfold lp_X6_putTokens_19 at h
    refine k_iload dX6_putTokens_19 4 rfl ?_
    refine k_iload dX6_putTokens_21 3 rfl ?_
    refine k_icmp_ge 175 dX6_putTokens_23 (by decide) h (fun h => ?_) (fun h => ?_)
    · skip
      refine k_sub [] rfl ?_
      exact hk175 _ _ _ h
    · skip
      refine k_aload_n dX6_putTokens_26 0 rfl rfl ?_
      refine k_get 37 18 rfl rfl qX6_putTokens_wX6 (by decide) qX6_putTokens_f47 rfl dX6_putTokens_27 ?_
      refine k_iload dX6_putTokens_30 4 rfl ?_
      refine k_iald 50 0 E.2.2.2.2.2 rfl dX6_putTokens_32 h (fun v4 h => ?_)
      refine k_istore (i := 7) (lv' := fun x => [(7, .int x), (0, .ref (ad 37)), (2, .int x2), (4, .int x4), (5, .int x5), (6, .int x6)]) dX6_putTokens_33 (Nat.le_of_ble_eq_true rfl) (fun _ => rfl) h (fun x7_5 h => ?_)
      refine k_sub [1, 2, 3, 4, 5, 0] rfl ?_
      refine wlp_X6_putTokens_35 (cI := cI) (cB := cB) (cJ := cJ) (cZ := cZ) (ad := ad) E ?_ FU _ _ _ _ _ _ _ _ h
      · intro x2 x4 x5 x6 m_column m_printed m_print h
        refine k_iload dX6_putTokens_109 4 rfl ?_
        refine k_iload_n dX6_putTokens_111 1 rfl rfl ?_
        refine k_icmp_ge 169 dX6_putTokens_112 (by decide) h (fun h => ?_) (fun h => ?_)
        · skip
          refine k_sub [0, 1, 2, 3, 4] rfl ?_
          exact wjn_X6_putTokens_169 (cI := cI) (cB := cB) (cJ := cJ) (cZ := cZ) (ad := ad) E hk19 _ _ _ _ _ _ _ h
        · skip
          refine k_iload dX6_putTokens_115 2 rfl ?_
          refine k_if_eq 126 dX6_putTokens_117 (by decide) h (fun h => ?_) (fun h => ?_)
          · skip
            refine k_sub [0, 1, 3, 4] rfl ?_
            exact wjn_X6_putTokens_126 (cI := cI) (cB := cB) (cJ := cJ) (cZ := cZ) (ad := ad) E hk19 _ _ _ _ _ _ h
          · skip
            refine k_aload_n dX6_putTokens_120 0 rfl rfl ?_
            refine k_bipush (v := 32) dX6_putTokens_121 (by decide) ?_
            obtain ⟨r24, hr24, h⟩ := Option.bind_eq_some_iff.mp h
            refine k_callvV (As := [.int 32]) (st := []) (Lc := [(37, (ad 37, .inr (6, [.int m_thrown, .int m_rules, .ref (ad 38), .ref (ad 39), .ref (ad 40), .ref (ad 41), .ref (ad 42), .int m_length, .ref (ad 43), .int m_tree, .ref (ad 44), .int m_tokens, .ref (ad 45), .ref (ad 46), .ref (ad 47), .int m_comments, .ref (ad 48), .ref (ad 49), .ref (ad 50), .ref (ad 51), .ref (ad 52), .ref (ad 53), .int m_parts, .ref (ad 54), .ref (ad 55), .ref (ad 56), .ref (ad 57), .ref (ad 58), .ref (ad 59), .ref (ad 60), .ref (ad 61), .int m_end, .int m_open, .ref (ad 62), .ref (ad 63), .ref (ad 64), .ref (ad 65), .ref (ad 66), .int r24.1, .int r24.2.1, .ref (ad 67), .int m_repaired, .int m_paid]))), (67, (ad 67, .inl (cI, 6000, .inl r24.2.2)))]) (L' := [(37, (ad 37, .inr (6, [.int m_thrown, .int m_rules, .ref (ad 38), .ref (ad 39), .ref (ad 40), .ref (ad 41), .ref (ad 42), .int m_length, .ref (ad 43), .int m_tree, .ref (ad 44), .int m_tokens, .ref (ad 45), .ref (ad 46), .ref (ad 47), .int m_comments, .ref (ad 48), .ref (ad 49), .ref (ad 50), .ref (ad 51), .ref (ad 52), .ref (ad 53), .int m_parts, .ref (ad 54), .ref (ad 55), .ref (ad 56), .ref (ad 57), .ref (ad 58), .ref (ad 59), .ref (ad 60), .ref (ad 61), .int m_end, .int m_open, .ref (ad 62), .ref (ad 63), .ref (ad 64), .ref (ad 65), .ref (ad 66), .int r24.1, .int r24.2.1, .ref (ad 67), .int m_repaired, .int m_paid]))), (67, (ad 67, .inl (cI, 6000, .inl r24.2.2)))]) gX6_putTokens_X6_put rfl rfl rfl hyVX6_put ⟨Nat.le_of_ble_eq_true rfl, Nat.le_of_ble_eq_true rfl⟩ rfl rfl (Nat.le_of_ble_eq_true rfl) 37 rfl rfl dX6_putTokens_123 (fun w z hw => c_X6_put (cI := cI) (cB := cB) (cJ := cJ) (cZ := cZ) (ad := ad) w z trivial (hw 37) (hw 67) hr24) rfl rfl ?_
            refine k_sub [0, 1, 3, 4] rfl ?_
            exact wjn_X6_putTokens_126 (cI := cI) (cB := cB) (cJ := cJ) (cZ := cZ) (ad := ad) E hk19 _ _ _ _ _ _ h
set_option maxHeartbeats 4000000 in
set_option maxRecDepth 100000 in
theorem wjn_X6_putTokens_14 {l : Launch} {D : va_G} {cI cB cJ cZ : ClassId} {ad : Nat → Nat} {ws : va_W} {z : Nat} {m_thrown : Int32} {m_rules : Int32} {m_length : Int32} {m_tree : Int32} {m_tokens : Int32} {m_comments : Int32} {m_parts : Int32} {m_end : Int32} {m_open : Int32} {m_repaired : Int32} {m_paid : Int32} {m_kept : Nat → Int32} {m_tokenAt : Nat → Int32} {m_tokenLength : Nat → Int32} {m_commentAt : Nat → Int32} {m_commentLength : Nat → Int32} {m_firstComment : Nat → Int32} (E : ws[44]? = some (ad 44, .inl (cI, 80, .inl m_kept)) ∧ ws[45]? = some (ad 45, .inl (cI, 17, .inl m_tokenAt)) ∧ ws[46]? = some (ad 46, .inl (cI, 17, .inl m_tokenLength)) ∧ ws[48]? = some (ad 48, .inl (cI, 41, .inl m_commentAt)) ∧ ws[49]? = some (ad 49, .inl (cI, 41, .inl m_commentLength)) ∧ ws[50]? = some (ad 50, .inl (cI, 18, .inl m_firstComment))) {o : (Int32) × (Int32) × (Nat → Int32)}   : ∀ (x1 : Int32) (x2 : Int32) (x4 : Int32) (s0 : Int32) (m_column : Int32) (m_printed : Int32) (m_print : Nat → Int32), jn_X6_putTokens_14 m_kept m_tokenAt m_tokenLength m_commentAt m_commentLength m_firstComment x1 x2 x4 s0 m_column m_printed m_print = some o → KW l xX6_putTokens D (kT cI cB cJ cZ) ws z (kQv D (kT cI cB cJ cZ) [(37, (ad 37, .inr (6, [.int m_thrown, .int m_rules, .ref (ad 38), .ref (ad 39), .ref (ad 40), .ref (ad 41), .ref (ad 42), .int m_length, .ref (ad 43), .int m_tree, .ref (ad 44), .int m_tokens, .ref (ad 45), .ref (ad 46), .ref (ad 47), .int m_comments, .ref (ad 48), .ref (ad 49), .ref (ad 50), .ref (ad 51), .ref (ad 52), .ref (ad 53), .int m_parts, .ref (ad 54), .ref (ad 55), .ref (ad 56), .ref (ad 57), .ref (ad 58), .ref (ad 59), .ref (ad 60), .ref (ad 61), .int m_end, .int m_open, .ref (ad 62), .ref (ad 63), .ref (ad 64), .ref (ad 65), .ref (ad 66), .int o.1, .int o.2.1, .ref (ad 67), .int m_repaired, .int m_paid]))), (67, (ad 67, .inl (cI, 6000, .inl o.2.2)))] ws z) 14 [(0, .ref (ad 37)), (1, .int x1), (2, .int x2), (4, .int x4)] [.int s0] [(37, (ad 37, .inr (6, [.int m_thrown, .int m_rules, .ref (ad 38), .ref (ad 39), .ref (ad 40), .ref (ad 41), .ref (ad 42), .int m_length, .ref (ad 43), .int m_tree, .ref (ad 44), .int m_tokens, .ref (ad 45), .ref (ad 46), .ref (ad 47), .int m_comments, .ref (ad 48), .ref (ad 49), .ref (ad 50), .ref (ad 51), .ref (ad 52), .ref (ad 53), .int m_parts, .ref (ad 54), .ref (ad 55), .ref (ad 56), .ref (ad 57), .ref (ad 58), .ref (ad 59), .ref (ad 60), .ref (ad 61), .int m_end, .int m_open, .ref (ad 62), .ref (ad 63), .ref (ad 64), .ref (ad 65), .ref (ad 66), .int m_column, .int m_printed, .ref (ad 67), .int m_repaired, .int m_paid]))), (67, (ad 67, .inl (cI, 6000, .inl m_print)))] := by
  intro x1 x2 x4 s0 m_column m_printed m_print h
  unfold jn_X6_putTokens_14 at h
  refine k_istore (i := 5) (lv' := fun x => [(5, .int x), (0, .ref (ad 37)), (1, .int x1), (2, .int x2), (4, .int x4)]) dX6_putTokens_14 (Nat.le_of_ble_eq_true rfl) (fun _ => rfl) h (fun x5_2 h => ?_)
  refine k_iload_n dX6_putTokens_16 2 rfl rfl ?_
  refine k_istore (i := 6) (lv' := fun x => [(6, .int x), (5, .int x5_2), (0, .ref (ad 37)), (1, .int x1), (2, .int x2), (4, .int x4)]) dX6_putTokens_17 (Nat.le_of_ble_eq_true rfl) (fun _ => rfl) h (fun x6_3 h => ?_)
  refine k_sub [2, 4, 5, 1, 0] rfl ?_
  refine wlp_X6_putTokens_19 (cI := cI) (cB := cB) (cJ := cJ) (cZ := cZ) (ad := ad) E ?_ FU _ _ _ _ _ _ _ h
  · intro m_column m_printed m_print h
    obtain rfl := Option.some.inj h
    exact k_vret rfl dX6_putTokens_175
set_option maxHeartbeats 4000000 in
set_option maxRecDepth 100000 in
/-- KindParserModel.putTokens -/
theorem c_X6_putTokens {l : Launch} {D : va_G} {cI cB cJ cZ : ClassId} {ad : Nat → Nat} (ws : va_W) (z : Nat) {m_thrown : Int32} {m_rules : Int32} {m_length : Int32} {m_tree : Int32} {m_tokens : Int32} {m_comments : Int32} {m_parts : Int32} {m_end : Int32} {m_open : Int32} {m_column : Int32} {m_printed : Int32} {m_repaired : Int32} {m_paid : Int32} {m_kept : Nat → Int32} {m_tokenAt : Nat → Int32} {m_tokenLength : Nat → Int32} {m_commentAt : Nat → Int32} {m_commentLength : Nat → Int32} {m_firstComment : Nat → Int32} {m_print : Nat → Int32} (E : ws[44]? = some (ad 44, .inl (cI, 80, .inl m_kept)) ∧ ws[45]? = some (ad 45, .inl (cI, 17, .inl m_tokenAt)) ∧ ws[46]? = some (ad 46, .inl (cI, 17, .inl m_tokenLength)) ∧ ws[48]? = some (ad 48, .inl (cI, 41, .inl m_commentAt)) ∧ ws[49]? = some (ad 49, .inl (cI, 41, .inl m_commentLength)) ∧ ws[50]? = some (ad 50, .inl (cI, 18, .inl m_firstComment))) (e37 : ws[37]? = some (ad 37, .inr (6, [.int m_thrown, .int m_rules, .ref (ad 38), .ref (ad 39), .ref (ad 40), .ref (ad 41), .ref (ad 42), .int m_length, .ref (ad 43), .int m_tree, .ref (ad 44), .int m_tokens, .ref (ad 45), .ref (ad 46), .ref (ad 47), .int m_comments, .ref (ad 48), .ref (ad 49), .ref (ad 50), .ref (ad 51), .ref (ad 52), .ref (ad 53), .int m_parts, .ref (ad 54), .ref (ad 55), .ref (ad 56), .ref (ad 57), .ref (ad 58), .ref (ad 59), .ref (ad 60), .ref (ad 61), .int m_end, .int m_open, .ref (ad 62), .ref (ad 63), .ref (ad 64), .ref (ad 65), .ref (ad 66), .int m_column, .int m_printed, .ref (ad 67), .int m_repaired, .int m_paid]))) (e67 : ws[67]? = some (ad 67, .inl (cI, 6000, .inl m_print))) {a1 : Int32} {a2 : Int32} {a3 : Int32} {o : (Int32) × (Int32) × (Nat → Int32)} (h : f_X6_putTokens a1 a2 a3 m_kept m_tokenAt m_tokenLength m_commentAt m_commentLength m_firstComment m_column m_printed m_print = some o) : Met l yX6_putTokens wsX6_putTokens rmX6_putTokens (kPc D (kT cI cB cJ cZ) [.ref (ad 37), .int a1, .int a2, .int a3] ws z) (kQv D (kT cI cB cJ cZ) [(37, (ad 37, .inr (6, [.int m_thrown, .int m_rules, .ref (ad 38), .ref (ad 39), .ref (ad 40), .ref (ad 41), .ref (ad 42), .int m_length, .ref (ad 43), .int m_tree, .ref (ad 44), .int m_tokens, .ref (ad 45), .ref (ad 46), .ref (ad 47), .int m_comments, .ref (ad 48), .ref (ad 49), .ref (ad 50), .ref (ad 51), .ref (ad 52), .ref (ad 53), .int m_parts, .ref (ad 54), .ref (ad 55), .ref (ad 56), .ref (ad 57), .ref (ad 58), .ref (ad 59), .ref (ad 60), .ref (ad 61), .int m_end, .int m_open, .ref (ad 62), .ref (ad 63), .ref (ad 64), .ref (ad 65), .ref (ad 66), .int o.1, .int o.2.1, .ref (ad 67), .int m_repaired, .int m_paid]))), (67, (ad 67, .inl (cI, 6000, .inl o.2.2)))] ws z) 0 0 (va_A ws z) := by
  refine KW.met (rm := rmX6_putTokens) (lv := [(0, .ref (ad 37)), (1, .int a1), (2, .int a2), (3, .int a3)]) (L := [(37, (ad 37, .inr (6, [.int m_thrown, .int m_rules, .ref (ad 38), .ref (ad 39), .ref (ad 40), .ref (ad 41), .ref (ad 42), .int m_length, .ref (ad 43), .int m_tree, .ref (ad 44), .int m_tokens, .ref (ad 45), .ref (ad 46), .ref (ad 47), .int m_comments, .ref (ad 48), .ref (ad 49), .ref (ad 50), .ref (ad 51), .ref (ad 52), .ref (ad 53), .int m_parts, .ref (ad 54), .ref (ad 55), .ref (ad 56), .ref (ad 57), .ref (ad 58), .ref (ad 59), .ref (ad 60), .ref (ad 61), .int m_end, .int m_open, .ref (ad 62), .ref (ad 63), .ref (ad 64), .ref (ad 65), .ref (ad 66), .int m_column, .int m_printed, .ref (ad 67), .int m_repaired, .int m_paid]))), (67, (ad 67, .inl (cI, 6000, .inl m_print)))]) rfl (by decide) (Nat.le_of_ble_eq_true rfl) rfl (by intro q hq; simp only [List.mem_cons, List.not_mem_nil, or_false] at hq; rcases hq with rfl | rfl <;> assumption) ?_
  unfold f_X6_putTokens at h
  show KW l xX6_putTokens D (kT cI cB cJ cZ) ws z (kQv D (kT cI cB cJ cZ) [(37, (ad 37, .inr (6, [.int m_thrown, .int m_rules, .ref (ad 38), .ref (ad 39), .ref (ad 40), .ref (ad 41), .ref (ad 42), .int m_length, .ref (ad 43), .int m_tree, .ref (ad 44), .int m_tokens, .ref (ad 45), .ref (ad 46), .ref (ad 47), .int m_comments, .ref (ad 48), .ref (ad 49), .ref (ad 50), .ref (ad 51), .ref (ad 52), .ref (ad 53), .int m_parts, .ref (ad 54), .ref (ad 55), .ref (ad 56), .ref (ad 57), .ref (ad 58), .ref (ad 59), .ref (ad 60), .ref (ad 61), .int m_end, .int m_open, .ref (ad 62), .ref (ad 63), .ref (ad 64), .ref (ad 65), .ref (ad 66), .int o.1, .int o.2.1, .ref (ad 67), .int m_repaired, .int m_paid]))), (67, (ad 67, .inl (cI, 6000, .inl o.2.2)))] ws z) 0 [(0, .ref (ad 37)), (1, .int a1), (2, .int a2), (3, .int a3)] [] [(37, (ad 37, .inr (6, [.int m_thrown, .int m_rules, .ref (ad 38), .ref (ad 39), .ref (ad 40), .ref (ad 41), .ref (ad 42), .int m_length, .ref (ad 43), .int m_tree, .ref (ad 44), .int m_tokens, .ref (ad 45), .ref (ad 46), .ref (ad 47), .int m_comments, .ref (ad 48), .ref (ad 49), .ref (ad 50), .ref (ad 51), .ref (ad 52), .ref (ad 53), .int m_parts, .ref (ad 54), .ref (ad 55), .ref (ad 56), .ref (ad 57), .ref (ad 58), .ref (ad 59), .ref (ad 60), .ref (ad 61), .int m_end, .int m_open, .ref (ad 62), .ref (ad 63), .ref (ad 64), .ref (ad 65), .ref (ad 66), .int m_column, .int m_printed, .ref (ad 67), .int m_repaired, .int m_paid]))), (67, (ad 67, .inl (cI, 6000, .inl m_print)))]
  refine k_iconst (v := 0) dX6_putTokens_0 (by decide) ?_
  refine k_istore (i := 4) (lv' := fun x => [(4, .int x), (0, .ref (ad 37)), (1, .int a1), (2, .int a2), (3, .int a3)]) dX6_putTokens_1 (Nat.le_of_ble_eq_true rfl) (fun _ => rfl) h (fun x4_1 h => ?_)
  refine k_iload_n dX6_putTokens_3 4 rfl rfl ?_
  refine k_if_eq 13 dX6_putTokens_4 (by decide) h (fun h => ?_) (fun h => ?_)
  · skip
    refine k_iload_n dX6_putTokens_13 3 rfl rfl ?_
    refine k_sub [1, 2, 3, 0] rfl ?_
    exact wjn_X6_putTokens_14 (cI := cI) (cB := cB) (cJ := cJ) (cZ := cZ) (ad := ad) E  _ _ _ _ _ _ _ h
  · skip
    refine k_iload_n dX6_putTokens_7 3 rfl rfl ?_
    refine k_iconst (v := 1) dX6_putTokens_8 (by decide) ?_
    refine k_iadd dX6_putTokens_9 ?_
    refine k_goto 14 dX6_putTokens_10 (by decide) ?_
    refine k_sub [1, 2, 3, 0] rfl ?_
    exact wjn_X6_putTokens_14 (cI := cI) (cB := cB) (cJ := cJ) (cZ := cZ) (ad := ad) E  _ _ _ _ _ _ _ h
abbrev rmX6_width : Room := { frames := 0, cells := 0, slots := 0, locals := 0 }
abbrev xX6_width : KX := (rmX6_width, cX6_width, 6, some .int, RX6, wsX6_width)
theorem hySX6_width : yX6_width.cls ≠ "java/lang/invoke/MethodHandle" ∧ yX6_width.cls ≠ "java/lang/invoke/VarHandle" ∧ (parseMethodDescriptor yX6_width.desc).map (fun d => d.parameters.length) = some 2 := by decide +kernel
theorem hyVX6_width : yX6_width.cls = RX6 ∧ yX6_width.cls ≠ "java/lang/invoke/MethodHandle" ∧ yX6_width.cls ≠ "java/lang/invoke/VarHandle" ∧ (parseMethodDescriptor yX6_width.desc).map (fun d => d.parameters.length) = some 2 := ⟨rfl, hySX6_width⟩
theorem qX6_width_wX6 : ∀ w ∈ u_ws RX6 TX6 43, w ∈ wsX6_width := by decide +kernel
theorem qX6_width_f47 : Cond.fieldLink RX6 47 "KindParserModel" "firstComment" "[I" ∈ wsX6_width := by decide +kernel
theorem qX6_width_f44 : Cond.fieldLink RX6 44 "KindParserModel" "commentLength" "[I" ∈ wsX6_width := by decide +kernel
theorem qX6_width_f35 : Cond.fieldLink RX6 35 "KindParserModel" "tokenLength" "[I" ∈ wsX6_width := by decide +kernel
set_option maxHeartbeats 4000000 in
set_option maxRecDepth 100000 in
theorem wlp_X6_width_20 {l : Launch} {D : va_G} {cI cB cJ cZ : ClassId} {ad : Nat → Nat} {ws : va_W} {z : Nat} {m_thrown : Int32} {m_rules : Int32} {m_length : Int32} {m_tree : Int32} {m_tokens : Int32} {m_comments : Int32} {m_parts : Int32} {m_end : Int32} {m_open : Int32} {m_column : Int32} {m_printed : Int32} {m_repaired : Int32} {m_paid : Int32} {m_tokenLength : Nat → Int32} {m_commentLength : Nat → Int32} {m_firstComment : Nat → Int32} (E : ws[37]? = some (ad 37, .inr (6, [.int m_thrown, .int m_rules, .ref (ad 38), .ref (ad 39), .ref (ad 40), .ref (ad 41), .ref (ad 42), .int m_length, .ref (ad 43), .int m_tree, .ref (ad 44), .int m_tokens, .ref (ad 45), .ref (ad 46), .ref (ad 47), .int m_comments, .ref (ad 48), .ref (ad 49), .ref (ad 50), .ref (ad 51), .ref (ad 52), .ref (ad 53), .int m_parts, .ref (ad 54), .ref (ad 55), .ref (ad 56), .ref (ad 57), .ref (ad 58), .ref (ad 59), .ref (ad 60), .ref (ad 61), .int m_end, .int m_open, .ref (ad 62), .ref (ad 63), .ref (ad 64), .ref (ad 65), .ref (ad 66), .int m_column, .int m_printed, .ref (ad 67), .int m_repaired, .int m_paid])) ∧ ws[46]? = some (ad 46, .inl (cI, 17, .inl m_tokenLength)) ∧ ws[49]? = some (ad 49, .inl (cI, 41, .inl m_commentLength)) ∧ ws[50]? = some (ad 50, .inl (cI, 18, .inl m_firstComment))) {o : Int32} {k52 : (Int32) → (Int32) → (Int32) → Option (Int32)} (hk52 : ∀ (x2 : Int32) (x3 : Int32) (x4 : Int32), k52 x2 x3 x4 = some o → KW l xX6_width D (kT cI cB cJ cZ) ws z (kQi D (kT cI cB cJ cZ) o [] ws z) 52 [(0, .ref (ad 37)), (2, .int x2), (3, .int x3), (4, .int x4)] [] []) : ∀ (n : Nat) (x2 : Int32) (x3 : Int32) (x4 : Int32) (x5 : Int32), lp_X6_width_20 m_tokenLength m_commentLength m_firstComment k52 n x2 x3 x4 x5 = some o → KW l xX6_width D (kT cI cB cJ cZ) ws z (kQi D (kT cI cB cJ cZ) o [] ws z) 20 [(0, .ref (ad 37)), (2, .int x2), (3, .int x3), (4, .int x4), (5, .int x5)] [] [] := by
  intro n
  induction n with
  | zero => intro x2 x3 x4 x5 h; exact absurd h (by simp [lp_X6_width_20])
  | succ n hk20 =>
    intro x2 x3 x4 x5 h
    unfold lp_X6_width_20 at h
    refine k_iload dX6_width_20 4 rfl ?_
    refine k_aload_n dX6_width_22 0 rfl rfl ?_
    refine k_get 37 18 E.1 rfl qX6_width_wX6 (by decide) qX6_width_f47 rfl dX6_width_23 ?_
    refine k_iload dX6_width_26 3 rfl ?_
    refine k_iconst (v := 1) dX6_width_28 (by decide) ?_
    refine k_iadd dX6_width_29 ?_
    refine k_iald 50 0 E.2.2.2 rfl dX6_width_30 h (fun v5 h => ?_)
    refine k_icmp_ge 52 dX6_width_31 (by decide) h (fun h => ?_) (fun h => ?_)
    · skip
      refine k_sub [0, 1, 2, 3] rfl ?_
      exact hk52 _ _ _ h
    · skip
      refine k_iload_n dX6_width_34 2 rfl rfl ?_
      refine k_aload_n dX6_width_35 0 rfl rfl ?_
      refine k_get 37 17 E.1 rfl qX6_width_wX6 (by decide) qX6_width_f44 rfl dX6_width_36 ?_
      refine k_iload dX6_width_39 4 rfl ?_
      refine k_iald 49 0 E.2.2.1 rfl dX6_width_41 h (fun v6 h => ?_)
      refine k_iconst (v := 1) dX6_width_42 (by decide) ?_
      refine k_iadd dX6_width_43 ?_
      refine k_iadd dX6_width_44 ?_
      refine k_istore_n (i := 3) (lv' := fun x => [(3, .int x), (0, .ref (ad 37)), (2, .int x2), (4, .int x4), (5, .int x5)]) dX6_width_45 rfl (Nat.le_of_ble_eq_true rfl) (fun _ => rfl) h (fun x3_7 h => ?_)
      refine k_iinc (i := 5) (lv' := fun x => [(5, .int x), (3, .int x3_7), (0, .ref (ad 37)), (2, .int x2), (4, .int x4)]) dX6_width_46 4 rfl (Nat.le_of_ble_eq_true rfl) (fun _ => rfl) h (fun x5_8 h => ?_)
      refine k_goto 20 dX6_width_49 (by decide) ?_
      refine k_sub [2, 3, 1, 4, 0] rfl ?_
      exact hk20 _ _ _ _ h
set_option maxHeartbeats 4000000 in
set_option maxRecDepth 100000 in
theorem wlp_X6_width_5 {l : Launch} {D : va_G} {cI cB cJ cZ : ClassId} {ad : Nat → Nat} {ws : va_W} {z : Nat} {m_thrown : Int32} {m_rules : Int32} {m_length : Int32} {m_tree : Int32} {m_tokens : Int32} {m_comments : Int32} {m_parts : Int32} {m_end : Int32} {m_open : Int32} {m_column : Int32} {m_printed : Int32} {m_repaired : Int32} {m_paid : Int32} {m_tokenLength : Nat → Int32} {m_commentLength : Nat → Int32} {m_firstComment : Nat → Int32} (E : ws[37]? = some (ad 37, .inr (6, [.int m_thrown, .int m_rules, .ref (ad 38), .ref (ad 39), .ref (ad 40), .ref (ad 41), .ref (ad 42), .int m_length, .ref (ad 43), .int m_tree, .ref (ad 44), .int m_tokens, .ref (ad 45), .ref (ad 46), .ref (ad 47), .int m_comments, .ref (ad 48), .ref (ad 49), .ref (ad 50), .ref (ad 51), .ref (ad 52), .ref (ad 53), .int m_parts, .ref (ad 54), .ref (ad 55), .ref (ad 56), .ref (ad 57), .ref (ad 58), .ref (ad 59), .ref (ad 60), .ref (ad 61), .int m_end, .int m_open, .ref (ad 62), .ref (ad 63), .ref (ad 64), .ref (ad 65), .ref (ad 66), .int m_column, .int m_printed, .ref (ad 67), .int m_repaired, .int m_paid])) ∧ ws[46]? = some (ad 46, .inl (cI, 17, .inl m_tokenLength)) ∧ ws[49]? = some (ad 49, .inl (cI, 41, .inl m_commentLength)) ∧ ws[50]? = some (ad 50, .inl (cI, 18, .inl m_firstComment))) {o : Int32} {k70 : (Int32) → Option (Int32)} (hk70 : ∀ (x3 : Int32), k70 x3 = some o → KW l xX6_width D (kT cI cB cJ cZ) ws z (kQi D (kT cI cB cJ cZ) o [] ws z) 70 [(3, .int x3)] [] []) : ∀ (n : Nat) (x2 : Int32) (x3 : Int32) (x4 : Int32), lp_X6_width_5 m_tokenLength m_commentLength m_firstComment k70 n x2 x3 x4 = some o → KW l xX6_width D (kT cI cB cJ cZ) ws z (kQi D (kT cI cB cJ cZ) o [] ws z) 5 [(0, .ref (ad 37)), (2, .int x2), (3, .int x3), (4, .int x4)] [] [] := by
  intro n
  induction n with
  | zero => intro x2 x3 x4 h; exact absurd h (by simp [lp_X6_width_5])
  | succ n hk5 =>
    intro x2 x3 x4 h
    unfold lp_X6_width_5 at h
    refine k_iload dX6_width_5 3 rfl ?_
    refine k_iload_n dX6_width_7 1 rfl rfl ?_
    refine k_icmp_ge 70 dX6_width_8 (by decide) h (fun h => ?_) (fun h => ?_)
    · skip
      refine k_sub [2] rfl ?_
      exact hk70 _ h
    · skip
      refine k_aload_n dX6_width_11 0 rfl rfl ?_
      refine k_get 37 18 E.1 rfl qX6_width_wX6 (by decide) qX6_width_f47 rfl dX6_width_12 ?_
      refine k_iload dX6_width_15 3 rfl ?_
      refine k_iald 50 0 E.2.2.2 rfl dX6_width_17 h (fun v3 h => ?_)
      refine k_istore (i := 5) (lv' := fun x => [(5, .int x), (0, .ref (ad 37)), (2, .int x2), (3, .int x3), (4, .int x4)]) dX6_width_18 (Nat.le_of_ble_eq_true rfl) (fun _ => rfl) h (fun x5_4 h => ?_)
      refine k_sub [1, 2, 3, 4, 0] rfl ?_
      refine wlp_X6_width_20 (cI := cI) (cB := cB) (cJ := cJ) (cZ := cZ) (ad := ad) E ?_ FU _ _ _ _ h
      · intro x2 x3 x4 h
        refine k_iload_n dX6_width_52 2 rfl rfl ?_
        refine k_aload_n dX6_width_53 0 rfl rfl ?_
        refine k_get 37 13 E.1 rfl qX6_width_wX6 (by decide) qX6_width_f35 rfl dX6_width_54 ?_
        refine k_iload dX6_width_57 3 rfl ?_
        refine k_iald 46 0 E.2.1 rfl dX6_width_59 h (fun v9 h => ?_)
        refine k_iconst (v := 1) dX6_width_60 (by decide) ?_
        refine k_iadd dX6_width_61 ?_
        refine k_iadd dX6_width_62 ?_
        refine k_istore_n (i := 3) (lv' := fun x => [(3, .int x), (0, .ref (ad 37)), (2, .int x2), (4, .int x4)]) dX6_width_63 rfl (Nat.le_of_ble_eq_true rfl) (fun _ => rfl) h (fun x3_10 h => ?_)
        refine k_iinc (i := 4) (lv' := fun x => [(4, .int x), (3, .int x3_10), (0, .ref (ad 37)), (2, .int x2)]) dX6_width_64 3 rfl (Nat.le_of_ble_eq_true rfl) (fun _ => rfl) h (fun x4_11 h => ?_)
        refine k_goto 5 dX6_width_67 (by decide) ?_
        refine k_sub [2, 3, 1, 0] rfl ?_
        exact hk5 _ _ _ h
set_option maxHeartbeats 4000000 in
set_option maxRecDepth 100000 in
theorem wjn_X6_width_81 {l : Launch} {D : va_G} {cI cB cJ cZ : ClassId} {ad : Nat → Nat} {ws : va_W} {z : Nat} {m_thrown : Int32} {m_rules : Int32} {m_length : Int32} {m_tree : Int32} {m_tokens : Int32} {m_comments : Int32} {m_parts : Int32} {m_end : Int32} {m_open : Int32} {m_column : Int32} {m_printed : Int32} {m_repaired : Int32} {m_paid : Int32} {m_tokenLength : Nat → Int32} {m_commentLength : Nat → Int32} {m_firstComment : Nat → Int32} (E : ws[37]? = some (ad 37, .inr (6, [.int m_thrown, .int m_rules, .ref (ad 38), .ref (ad 39), .ref (ad 40), .ref (ad 41), .ref (ad 42), .int m_length, .ref (ad 43), .int m_tree, .ref (ad 44), .int m_tokens, .ref (ad 45), .ref (ad 46), .ref (ad 47), .int m_comments, .ref (ad 48), .ref (ad 49), .ref (ad 50), .ref (ad 51), .ref (ad 52), .ref (ad 53), .int m_parts, .ref (ad 54), .ref (ad 55), .ref (ad 56), .ref (ad 57), .ref (ad 58), .ref (ad 59), .ref (ad 60), .ref (ad 61), .int m_end, .int m_open, .ref (ad 62), .ref (ad 63), .ref (ad 64), .ref (ad 65), .ref (ad 66), .int m_column, .int m_printed, .ref (ad 67), .int m_repaired, .int m_paid])) ∧ ws[46]? = some (ad 46, .inl (cI, 17, .inl m_tokenLength)) ∧ ws[49]? = some (ad 49, .inl (cI, 41, .inl m_commentLength)) ∧ ws[50]? = some (ad 50, .inl (cI, 18, .inl m_firstComment))) {o : Int32}   : ∀ (s0 : Int32), jn_X6_width_81 m_tokenLength m_commentLength m_firstComment s0 = some o → KW l xX6_width D (kT cI cB cJ cZ) ws z (kQi D (kT cI cB cJ cZ) o [] ws z) 81 [] [.int s0] [] := by
  intro s0 h
  unfold jn_X6_width_81 at h
  obtain rfl := Option.some.inj h
  exact k_iret rfl dX6_width_81
set_option maxHeartbeats 4000000 in
set_option maxRecDepth 100000 in
/-- KindParserModel.width -/
theorem c_X6_width {l : Launch} {D : va_G} {cI cB cJ cZ : ClassId} {ad : Nat → Nat} (ws : va_W) (z : Nat) {m_thrown : Int32} {m_rules : Int32} {m_length : Int32} {m_tree : Int32} {m_tokens : Int32} {m_comments : Int32} {m_parts : Int32} {m_end : Int32} {m_open : Int32} {m_column : Int32} {m_printed : Int32} {m_repaired : Int32} {m_paid : Int32} {m_tokenLength : Nat → Int32} {m_commentLength : Nat → Int32} {m_firstComment : Nat → Int32} (E : ws[37]? = some (ad 37, .inr (6, [.int m_thrown, .int m_rules, .ref (ad 38), .ref (ad 39), .ref (ad 40), .ref (ad 41), .ref (ad 42), .int m_length, .ref (ad 43), .int m_tree, .ref (ad 44), .int m_tokens, .ref (ad 45), .ref (ad 46), .ref (ad 47), .int m_comments, .ref (ad 48), .ref (ad 49), .ref (ad 50), .ref (ad 51), .ref (ad 52), .ref (ad 53), .int m_parts, .ref (ad 54), .ref (ad 55), .ref (ad 56), .ref (ad 57), .ref (ad 58), .ref (ad 59), .ref (ad 60), .ref (ad 61), .int m_end, .int m_open, .ref (ad 62), .ref (ad 63), .ref (ad 64), .ref (ad 65), .ref (ad 66), .int m_column, .int m_printed, .ref (ad 67), .int m_repaired, .int m_paid])) ∧ ws[46]? = some (ad 46, .inl (cI, 17, .inl m_tokenLength)) ∧ ws[49]? = some (ad 49, .inl (cI, 41, .inl m_commentLength)) ∧ ws[50]? = some (ad 50, .inl (cI, 18, .inl m_firstComment)))  {a1 : Int32} {a2 : Int32} {o : Int32} (h : f_X6_width a1 a2 m_tokenLength m_commentLength m_firstComment = some o) : Met l yX6_width wsX6_width rmX6_width (kPc D (kT cI cB cJ cZ) [.ref (ad 37), .int a1, .int a2] ws z) (kQi D (kT cI cB cJ cZ) o [] ws z) 0 0 (va_A ws z) := by
  refine KW.met (rm := rmX6_width) (lv := [(0, .ref (ad 37)), (1, .int a1), (2, .int a2)]) (L := []) rfl (by decide) (Nat.le_of_ble_eq_true rfl) rfl (fun q hq => by cases hq) ?_
  unfold f_X6_width at h
  show KW l xX6_width D (kT cI cB cJ cZ) ws z (kQi D (kT cI cB cJ cZ) o [] ws z) 0 [(0, .ref (ad 37)), (1, .int a1), (2, .int a2)] [] []
  refine k_iconst (v := 0) dX6_width_0 (by decide) ?_
  refine k_istore_n (i := 3) (lv' := fun x => [(3, .int x), (0, .ref (ad 37)), (1, .int a1), (2, .int a2)]) dX6_width_1 rfl (Nat.le_of_ble_eq_true rfl) (fun _ => rfl) h (fun x3_1 h => ?_)
  refine k_iload_n dX6_width_2 2 rfl rfl ?_
  refine k_istore (i := 4) (lv' := fun x => [(4, .int x), (3, .int x3_1), (0, .ref (ad 37)), (1, .int a1), (2, .int a2)]) dX6_width_3 (Nat.le_of_ble_eq_true rfl) (fun _ => rfl) h (fun x4_2 h => ?_)
  refine k_sub [2, 4, 1, 0] rfl ?_
  refine wlp_X6_width_5 (cI := cI) (cB := cB) (cJ := cJ) (cZ := cZ) (ad := ad) E ?_ FU _ _ _ h
  · intro x3 h
    refine k_iload_n dX6_width_70 0 rfl rfl ?_
    refine k_if_ne 78 dX6_width_71 (by decide) h (fun h => ?_) (fun h => ?_)
    · skip
      refine k_iconst (v := 0) dX6_width_74 (by decide) ?_
      refine k_goto 81 dX6_width_75 (by decide) ?_
      refine k_sub [] rfl ?_
      exact wjn_X6_width_81 (cI := cI) (cB := cB) (cJ := cJ) (cZ := cZ) (ad := ad) E  _ h
    · skip
      refine k_iload_n dX6_width_78 0 rfl rfl ?_
      refine k_iconst (v := 1) dX6_width_79 (by decide) ?_
      refine k_isub dX6_width_80 ?_
      refine k_sub [] rfl ?_
      exact wjn_X6_width_81 (cI := cI) (cB := cB) (cJ := cJ) (cZ := cZ) (ad := ad) E  _ h
abbrev rmX6_hintOf : Room := { frames := 0, cells := 0, slots := 0, locals := 0 }
abbrev xX6_hintOf : KX := (rmX6_hintOf, cX6_hintOf, 2, some .int, RX6, wsX6_hintOf)
theorem hySX6_hintOf : yX6_hintOf.cls ≠ "java/lang/invoke/MethodHandle" ∧ yX6_hintOf.cls ≠ "java/lang/invoke/VarHandle" ∧ (parseMethodDescriptor yX6_hintOf.desc).map (fun d => d.parameters.length) = some 1 := by decide +kernel
theorem hyVX6_hintOf : yX6_hintOf.cls = RX6 ∧ yX6_hintOf.cls ≠ "java/lang/invoke/MethodHandle" ∧ yX6_hintOf.cls ≠ "java/lang/invoke/VarHandle" ∧ (parseMethodDescriptor yX6_hintOf.desc).map (fun d => d.parameters.length) = some 1 := ⟨rfl, hySX6_hintOf⟩
theorem qX6_hintOf_wX6 : ∀ w ∈ u_ws RX6 TX6 43, w ∈ wsX6_hintOf := by decide +kernel
theorem qX6_hintOf_f19 : Cond.fieldLink RX6 19 "KindParserModel" "hint" "[I" ∈ wsX6_hintOf := by decide +kernel
theorem qX6_hintOf_f60 : Cond.fieldLink RX6 60 "KindParserModel" "ruleOf" "[I" ∈ wsX6_hintOf := by decide +kernel
theorem qX6_hintOf_f66 : Cond.fieldLink RX6 66 "KindParserModel" "parent" "[I" ∈ wsX6_hintOf := by decide +kernel
theorem qX6_hintOf_f69 : Cond.fieldLink RX6 69 "KindParserModel" "place" "[I" ∈ wsX6_hintOf := by decide +kernel
set_option maxHeartbeats 4000000 in
set_option maxRecDepth 100000 in
/-- KindParserModel.hintOf -/
theorem c_X6_hintOf {l : Launch} {D : va_G} {cI cB cJ cZ : ClassId} {ad : Nat → Nat} (ws : va_W) (z : Nat) {m_thrown : Int32} {m_rules : Int32} {m_length : Int32} {m_tree : Int32} {m_tokens : Int32} {m_comments : Int32} {m_parts : Int32} {m_end : Int32} {m_open : Int32} {m_column : Int32} {m_printed : Int32} {m_repaired : Int32} {m_paid : Int32} {m_hint : Nat → Int32} {m_ruleOf : Nat → Int32} {m_parent : Nat → Int32} {m_place : Nat → Int32} (E : ws[37]? = some (ad 37, .inr (6, [.int m_thrown, .int m_rules, .ref (ad 38), .ref (ad 39), .ref (ad 40), .ref (ad 41), .ref (ad 42), .int m_length, .ref (ad 43), .int m_tree, .ref (ad 44), .int m_tokens, .ref (ad 45), .ref (ad 46), .ref (ad 47), .int m_comments, .ref (ad 48), .ref (ad 49), .ref (ad 50), .ref (ad 51), .ref (ad 52), .ref (ad 53), .int m_parts, .ref (ad 54), .ref (ad 55), .ref (ad 56), .ref (ad 57), .ref (ad 58), .ref (ad 59), .ref (ad 60), .ref (ad 61), .int m_end, .int m_open, .ref (ad 62), .ref (ad 63), .ref (ad 64), .ref (ad 65), .ref (ad 66), .int m_column, .int m_printed, .ref (ad 67), .int m_repaired, .int m_paid])) ∧ ws[41]? = some (ad 41, .inl (cI, 100, .inl m_hint)) ∧ ws[54]? = some (ad 54, .inl (cI, 150, .inl m_ruleOf)) ∧ ws[56]? = some (ad 56, .inl (cI, 150, .inl m_parent)) ∧ ws[57]? = some (ad 57, .inl (cI, 150, .inl m_place)))  {a1 : Int32} {o : Int32} (h : f_X6_hintOf a1 m_hint m_ruleOf m_parent m_place = some o) : Met l yX6_hintOf wsX6_hintOf rmX6_hintOf (kPc D (kT cI cB cJ cZ) [.ref (ad 37), .int a1] ws z) (kQi D (kT cI cB cJ cZ) o [] ws z) 0 0 (va_A ws z) := by
  refine KW.met (rm := rmX6_hintOf) (lv := [(0, .ref (ad 37)), (1, .int a1)]) (L := []) rfl (by decide) (Nat.le_of_ble_eq_true rfl) rfl (fun q hq => by cases hq) ?_
  unfold f_X6_hintOf at h
  show KW l xX6_hintOf D (kT cI cB cJ cZ) ws z (kQi D (kT cI cB cJ cZ) o [] ws z) 0 [(0, .ref (ad 37)), (1, .int a1)] [] []
  refine k_aload_n dX6_hintOf_0 0 rfl rfl ?_
  refine k_get 37 5 E.1 rfl qX6_hintOf_wX6 (by decide) qX6_hintOf_f19 rfl dX6_hintOf_1 ?_
  refine k_iconst (v := 5) dX6_hintOf_4 (by decide) ?_
  refine k_aload_n dX6_hintOf_5 0 rfl rfl ?_
  refine k_get 37 23 E.1 rfl qX6_hintOf_wX6 (by decide) qX6_hintOf_f60 rfl dX6_hintOf_6 ?_
  refine k_aload_n dX6_hintOf_9 0 rfl rfl ?_
  refine k_get 37 25 E.1 rfl qX6_hintOf_wX6 (by decide) qX6_hintOf_f66 rfl dX6_hintOf_10 ?_
  refine k_iload_n dX6_hintOf_13 1 rfl rfl ?_
  refine k_iald 56 0 E.2.2.2.1 rfl dX6_hintOf_14 h (fun v1 h => ?_)
  refine k_iald 54 0 E.2.2.1 rfl dX6_hintOf_15 h (fun v2 h => ?_)
  refine k_imul dX6_hintOf_16 ?_
  refine k_aload_n dX6_hintOf_17 0 rfl rfl ?_
  refine k_get 37 26 E.1 rfl qX6_hintOf_wX6 (by decide) qX6_hintOf_f69 rfl dX6_hintOf_18 ?_
  refine k_iload_n dX6_hintOf_21 1 rfl rfl ?_
  refine k_iald 57 0 E.2.2.2.2 rfl dX6_hintOf_22 h (fun v3 h => ?_)
  refine k_iadd dX6_hintOf_23 ?_
  refine k_iald 41 0 E.2.1 rfl dX6_hintOf_24 h (fun v4 h => ?_)
  obtain rfl := Option.some.inj h
  exact k_iret rfl dX6_hintOf_25
abbrev rmX6_digit : Room := { frames := 0, cells := 0, slots := 0, locals := 0 }
abbrev xX6_digit : KX := (rmX6_digit, cX6_digit, 1, some .boolean, RX6, wsX6_digit)
theorem hySX6_digit : yX6_digit.cls ≠ "java/lang/invoke/MethodHandle" ∧ yX6_digit.cls ≠ "java/lang/invoke/VarHandle" ∧ (parseMethodDescriptor yX6_digit.desc).map (fun d => d.parameters.length) = some 1 := by decide +kernel
set_option maxHeartbeats 4000000 in
set_option maxRecDepth 100000 in
theorem wjn_X6_digit_17 {l : Launch} {D : va_G} {cI cB cJ cZ : ClassId} {ad : Nat → Nat} {ws : va_W} {z : Nat}  (E : True) {o : Int32}   : ∀ (s0 : Int32), jn_X6_digit_17  s0 = some o → KW l xX6_digit D (kT cI cB cJ cZ) ws z (kQi D (kT cI cB cJ cZ) o [] ws z) 17 [] [.int s0] [] := by
  intro s0 h
  unfold jn_X6_digit_17 at h
  obtain ⟨hz, h⟩ := zc_some h
  obtain rfl := Option.some.inj h
  exact k_zret rfl hz dX6_digit_17
set_option maxHeartbeats 4000000 in
set_option maxRecDepth 100000 in
theorem wjn_X6_digit_16 {l : Launch} {D : va_G} {cI cB cJ cZ : ClassId} {ad : Nat → Nat} {ws : va_W} {z : Nat}  (E : True) {o : Int32}   : jn_X6_digit_16  = some o → KW l xX6_digit D (kT cI cB cJ cZ) ws z (kQi D (kT cI cB cJ cZ) o [] ws z) 16 [] [] [] := by
  intro h
  unfold jn_X6_digit_16 at h
  refine k_iconst (v := 0) dX6_digit_16 (by decide) ?_
  refine k_sub [] rfl ?_
  exact wjn_X6_digit_17 (cI := cI) (cB := cB) (cJ := cJ) (cZ := cZ) (ad := ad) E  _ h
set_option maxHeartbeats 4000000 in
set_option maxRecDepth 100000 in
/-- KindParserModel.digit -/
theorem c_X6_digit {l : Launch} {D : va_G} {cI cB cJ cZ : ClassId} {ad : Nat → Nat} (ws : va_W) (z : Nat)  (E : True)  {a0 : Int32} {o : Int32} (h : f_X6_digit a0 = some o) : Met l yX6_digit wsX6_digit rmX6_digit (kPc D (kT cI cB cJ cZ) [.int a0] ws z) (kQi D (kT cI cB cJ cZ) o [] ws z) 0 0 (va_A ws z) := by
  refine KW.met (rm := rmX6_digit) (lv := [(0, .int a0)]) (L := []) rfl (by decide) (Nat.le_of_ble_eq_true rfl) rfl (fun q hq => by cases hq) ?_
  unfold f_X6_digit at h
  show KW l xX6_digit D (kT cI cB cJ cZ) ws z (kQi D (kT cI cB cJ cZ) o [] ws z) 0 [(0, .int a0)] [] []
  refine k_iload_n dX6_digit_0 0 rfl rfl ?_
  refine k_bipush (v := 48) dX6_digit_1 (by decide) ?_
  refine k_icmp_lt 16 dX6_digit_3 (by decide) h (fun h => ?_) (fun h => ?_)
  · skip
    refine k_sub [] rfl ?_
    exact wjn_X6_digit_16 (cI := cI) (cB := cB) (cJ := cJ) (cZ := cZ) (ad := ad) E   h
  · skip
    refine k_iload_n dX6_digit_6 0 rfl rfl ?_
    refine k_bipush (v := 57) dX6_digit_7 (by decide) ?_
    refine k_icmp_gt 16 dX6_digit_9 (by decide) h (fun h => ?_) (fun h => ?_)
    · skip
      refine k_sub [] rfl ?_
      exact wjn_X6_digit_16 (cI := cI) (cB := cB) (cJ := cJ) (cZ := cZ) (ad := ad) E   h
    · skip
      refine k_iconst (v := 1) dX6_digit_12 (by decide) ?_
      refine k_goto 17 dX6_digit_13 (by decide) ?_
      refine k_sub [] rfl ?_
      exact wjn_X6_digit_17 (cI := cI) (cB := cB) (cJ := cJ) (cZ := cZ) (ad := ad) E  _ h
