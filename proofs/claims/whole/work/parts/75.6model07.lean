abbrev rmX6_measure : Room := { frames := 1, cells := 0, slots := 0, locals := 25 }
abbrev xX6_measure : KX := (rmX6_measure, cX6_measure, 4, none, RX6, wsX6_measure)
theorem hySX6_measure : yX6_measure.cls ≠ "java/lang/invoke/MethodHandle" ∧ yX6_measure.cls ≠ "java/lang/invoke/VarHandle" ∧ (parseMethodDescriptor yX6_measure.desc).map (fun d => d.parameters.length) = some 0 := by decide +kernel
theorem hyVX6_measure : yX6_measure.cls = RX6 ∧ yX6_measure.cls ≠ "java/lang/invoke/MethodHandle" ∧ yX6_measure.cls ≠ "java/lang/invoke/VarHandle" ∧ (parseMethodDescriptor yX6_measure.desc).map (fun d => d.parameters.length) = some 0 := ⟨rfl, hySX6_measure⟩
theorem qX6_measure_wX6 : ∀ w ∈ u_ws RX6 TX6 43, w ∈ wsX6_measure := by decide +kernel
theorem qX6_measure_f157 : Cond.fieldLink RX6 157 "KindParserModel" "parts" "I" ∈ wsX6_measure := by decide +kernel
theorem qX6_measure_f93 : Cond.fieldLink RX6 93 "KindParserModel" "started" "[Z" ∈ wsX6_measure := by decide +kernel
theorem qX6_measure_f96 : Cond.fieldLink RX6 96 "KindParserModel" "broken" "[Z" ∈ wsX6_measure := by decide +kernel
theorem qX6_measure_f90 : Cond.fieldLink RX6 90 "KindParserModel" "begins" "[I" ∈ wsX6_measure := by decide +kernel
theorem qX6_measure_f87 : Cond.fieldLink RX6 87 "KindParserModel" "wide" "[I" ∈ wsX6_measure := by decide +kernel
theorem qX6_measure_f63 : Cond.fieldLink RX6 63 "KindParserModel" "symbolOf" "[I" ∈ wsX6_measure := by decide +kernel
theorem qX6_measure_f66 : Cond.fieldLink RX6 66 "KindParserModel" "parent" "[I" ∈ wsX6_measure := by decide +kernel
theorem qX6_measure_f75 : Cond.fieldLink RX6 75 "KindParserModel" "to" "[I" ∈ wsX6_measure := by decide +kernel
theorem qX6_measure_f72 : Cond.fieldLink RX6 72 "KindParserModel" "from" "[I" ∈ wsX6_measure := by decide +kernel
theorem qX6_measure_f47 : Cond.fieldLink RX6 47 "KindParserModel" "firstComment" "[I" ∈ wsX6_measure := by decide +kernel
theorem qX6_measure_f29 : Cond.fieldLink RX6 29 "KindParserModel" "kept" "[I" ∈ wsX6_measure := by decide +kernel
theorem qX6_measure_f32 : Cond.fieldLink RX6 32 "KindParserModel" "tokenAt" "[I" ∈ wsX6_measure := by decide +kernel
set_option maxHeartbeats 4000000 in
set_option maxRecDepth 100000 in
theorem wjn_X6_measure_270 {l : Launch} {D : va_G} {cI cB cJ cZ : ClassId} {ad : Nat → Nat} {ws : va_W} {z : Nat} {m_thrown : Int32} {m_rules : Int32} {m_length : Int32} {m_tree : Int32} {m_tokens : Int32} {m_comments : Int32} {m_parts : Int32} {m_end : Int32} {m_open : Int32} {m_column : Int32} {m_printed : Int32} {m_repaired : Int32} {m_paid : Int32} {m_hint : Nat → Int32} {m_kept : Nat → Int32} {m_tokenAt : Nat → Int32} {m_tokenLength : Nat → Int32} {m_commentLength : Nat → Int32} {m_firstComment : Nat → Int32} {m_ruleOf : Nat → Int32} {m_symbolOf : Nat → Int32} {m_parent : Nat → Int32} {m_place : Nat → Int32} {m_from : Nat → Int32} {m_to : Nat → Int32} (E : ws[37]? = some (ad 37, .inr (6, [.int m_thrown, .int m_rules, .ref (ad 38), .ref (ad 39), .ref (ad 40), .ref (ad 41), .ref (ad 42), .int m_length, .ref (ad 43), .int m_tree, .ref (ad 44), .int m_tokens, .ref (ad 45), .ref (ad 46), .ref (ad 47), .int m_comments, .ref (ad 48), .ref (ad 49), .ref (ad 50), .ref (ad 51), .ref (ad 52), .ref (ad 53), .int m_parts, .ref (ad 54), .ref (ad 55), .ref (ad 56), .ref (ad 57), .ref (ad 58), .ref (ad 59), .ref (ad 60), .ref (ad 61), .int m_end, .int m_open, .ref (ad 62), .ref (ad 63), .ref (ad 64), .ref (ad 65), .ref (ad 66), .int m_column, .int m_printed, .ref (ad 67), .int m_repaired, .int m_paid])) ∧ ws[41]? = some (ad 41, .inl (cI, 100, .inl m_hint)) ∧ ws[44]? = some (ad 44, .inl (cI, 80, .inl m_kept)) ∧ ws[45]? = some (ad 45, .inl (cI, 17, .inl m_tokenAt)) ∧ ws[46]? = some (ad 46, .inl (cI, 17, .inl m_tokenLength)) ∧ ws[49]? = some (ad 49, .inl (cI, 41, .inl m_commentLength)) ∧ ws[50]? = some (ad 50, .inl (cI, 18, .inl m_firstComment)) ∧ ws[54]? = some (ad 54, .inl (cI, 150, .inl m_ruleOf)) ∧ ws[55]? = some (ad 55, .inl (cI, 150, .inl m_symbolOf)) ∧ ws[56]? = some (ad 56, .inl (cI, 150, .inl m_parent)) ∧ ws[57]? = some (ad 57, .inl (cI, 150, .inl m_place)) ∧ ws[58]? = some (ad 58, .inl (cI, 150, .inl m_from)) ∧ ws[59]? = some (ad 59, .inl (cI, 150, .inl m_to))) {o : (Nat → Int32) × (Nat → Int32) × (Nat → Int32) × (Nat → Int32)} {k142 : (Int32) → (Int32) → (Nat → Int32) → (Nat → Int32) → (Nat → Int32) → (Nat → Int32) → Option ((Nat → Int32) × (Nat → Int32) × (Nat → Int32) × (Nat → Int32))} (hk142 : ∀ (x1 : Int32) (x2 : Int32) (m_wide : Nat → Int32) (m_begins : Nat → Int32) (m_started : Nat → Int32) (m_broken : Nat → Int32), k142 x1 x2 m_wide m_begins m_started m_broken = some o → KW l xX6_measure D (kT cI cB cJ cZ) ws z (kQv D (kT cI cB cJ cZ) [(63, (ad 63, .inl (cI, 150, .inl o.1))), (64, (ad 64, .inl (cI, 150, .inl o.2.1))), (65, (ad 65, .inl (cZ, 150, .inl o.2.2.1))), (66, (ad 66, .inl (cZ, 150, .inl o.2.2.2)))] ws z) 142 [(0, .ref (ad 37)), (1, .int x1), (2, .int x2)] [] [(63, (ad 63, .inl (cI, 150, .inl m_wide))), (64, (ad 64, .inl (cI, 150, .inl m_begins))), (65, (ad 65, .inl (cZ, 150, .inl m_started))), (66, (ad 66, .inl (cZ, 150, .inl m_broken)))]) : ∀ (x1 : Int32) (x2 : Int32) (m_wide : Nat → Int32) (m_begins : Nat → Int32) (m_started : Nat → Int32) (m_broken : Nat → Int32), jn_X6_measure_270 m_parts m_hint m_kept m_tokenAt m_tokenLength m_commentLength m_firstComment m_ruleOf m_symbolOf m_parent m_place m_from m_to k142 x1 x2 m_wide m_begins m_started m_broken = some o → KW l xX6_measure D (kT cI cB cJ cZ) ws z (kQv D (kT cI cB cJ cZ) [(63, (ad 63, .inl (cI, 150, .inl o.1))), (64, (ad 64, .inl (cI, 150, .inl o.2.1))), (65, (ad 65, .inl (cZ, 150, .inl o.2.2.1))), (66, (ad 66, .inl (cZ, 150, .inl o.2.2.2)))] ws z) 270 [(0, .ref (ad 37)), (1, .int x1), (2, .int x2)] [] [(63, (ad 63, .inl (cI, 150, .inl m_wide))), (64, (ad 64, .inl (cI, 150, .inl m_begins))), (65, (ad 65, .inl (cZ, 150, .inl m_started))), (66, (ad 66, .inl (cZ, 150, .inl m_broken)))] := by
  intro x1 x2 m_wide m_begins m_started m_broken h
  unfold jn_X6_measure_270 at h
  refine k_iinc (i := 2) (lv' := fun x => [(2, .int x), (0, .ref (ad 37)), (1, .int x1)]) dX6_measure_270 2 rfl (Nat.le_of_ble_eq_true rfl) (fun _ => rfl) h (fun x2_11 h => ?_)
  refine k_goto 142 dX6_measure_273 (by decide) ?_
  refine k_sub [1, 2, 0] rfl ?_
  exact hk142 _ _ _ _ _ _ h
set_option maxHeartbeats 4000000 in
set_option maxRecDepth 100000 in
theorem wjn_X6_measure_267 {l : Launch} {D : va_G} {cI cB cJ cZ : ClassId} {ad : Nat → Nat} {ws : va_W} {z : Nat} {m_thrown : Int32} {m_rules : Int32} {m_length : Int32} {m_tree : Int32} {m_tokens : Int32} {m_comments : Int32} {m_parts : Int32} {m_end : Int32} {m_open : Int32} {m_column : Int32} {m_printed : Int32} {m_repaired : Int32} {m_paid : Int32} {m_hint : Nat → Int32} {m_kept : Nat → Int32} {m_tokenAt : Nat → Int32} {m_tokenLength : Nat → Int32} {m_commentLength : Nat → Int32} {m_firstComment : Nat → Int32} {m_ruleOf : Nat → Int32} {m_symbolOf : Nat → Int32} {m_parent : Nat → Int32} {m_place : Nat → Int32} {m_from : Nat → Int32} {m_to : Nat → Int32} (E : ws[37]? = some (ad 37, .inr (6, [.int m_thrown, .int m_rules, .ref (ad 38), .ref (ad 39), .ref (ad 40), .ref (ad 41), .ref (ad 42), .int m_length, .ref (ad 43), .int m_tree, .ref (ad 44), .int m_tokens, .ref (ad 45), .ref (ad 46), .ref (ad 47), .int m_comments, .ref (ad 48), .ref (ad 49), .ref (ad 50), .ref (ad 51), .ref (ad 52), .ref (ad 53), .int m_parts, .ref (ad 54), .ref (ad 55), .ref (ad 56), .ref (ad 57), .ref (ad 58), .ref (ad 59), .ref (ad 60), .ref (ad 61), .int m_end, .int m_open, .ref (ad 62), .ref (ad 63), .ref (ad 64), .ref (ad 65), .ref (ad 66), .int m_column, .int m_printed, .ref (ad 67), .int m_repaired, .int m_paid])) ∧ ws[41]? = some (ad 41, .inl (cI, 100, .inl m_hint)) ∧ ws[44]? = some (ad 44, .inl (cI, 80, .inl m_kept)) ∧ ws[45]? = some (ad 45, .inl (cI, 17, .inl m_tokenAt)) ∧ ws[46]? = some (ad 46, .inl (cI, 17, .inl m_tokenLength)) ∧ ws[49]? = some (ad 49, .inl (cI, 41, .inl m_commentLength)) ∧ ws[50]? = some (ad 50, .inl (cI, 18, .inl m_firstComment)) ∧ ws[54]? = some (ad 54, .inl (cI, 150, .inl m_ruleOf)) ∧ ws[55]? = some (ad 55, .inl (cI, 150, .inl m_symbolOf)) ∧ ws[56]? = some (ad 56, .inl (cI, 150, .inl m_parent)) ∧ ws[57]? = some (ad 57, .inl (cI, 150, .inl m_place)) ∧ ws[58]? = some (ad 58, .inl (cI, 150, .inl m_from)) ∧ ws[59]? = some (ad 59, .inl (cI, 150, .inl m_to))) {o : (Nat → Int32) × (Nat → Int32) × (Nat → Int32) × (Nat → Int32)} {k142 : (Int32) → (Int32) → (Nat → Int32) → (Nat → Int32) → (Nat → Int32) → (Nat → Int32) → Option ((Nat → Int32) × (Nat → Int32) × (Nat → Int32) × (Nat → Int32))} (hk142 : ∀ (x1 : Int32) (x2 : Int32) (m_wide : Nat → Int32) (m_begins : Nat → Int32) (m_started : Nat → Int32) (m_broken : Nat → Int32), k142 x1 x2 m_wide m_begins m_started m_broken = some o → KW l xX6_measure D (kT cI cB cJ cZ) ws z (kQv D (kT cI cB cJ cZ) [(63, (ad 63, .inl (cI, 150, .inl o.1))), (64, (ad 64, .inl (cI, 150, .inl o.2.1))), (65, (ad 65, .inl (cZ, 150, .inl o.2.2.1))), (66, (ad 66, .inl (cZ, 150, .inl o.2.2.2)))] ws z) 142 [(0, .ref (ad 37)), (1, .int x1), (2, .int x2)] [] [(63, (ad 63, .inl (cI, 150, .inl m_wide))), (64, (ad 64, .inl (cI, 150, .inl m_begins))), (65, (ad 65, .inl (cZ, 150, .inl m_started))), (66, (ad 66, .inl (cZ, 150, .inl m_broken)))]) : ∀ (x1 : Int32) (x2 : Int32) (s1 : Int32) (s2 : Int32) (s3 : Int32) (s4 : Int32) (m_wide : Nat → Int32) (m_begins : Nat → Int32) (m_started : Nat → Int32) (m_broken : Nat → Int32), jn_X6_measure_267 m_parts m_hint m_kept m_tokenAt m_tokenLength m_commentLength m_firstComment m_ruleOf m_symbolOf m_parent m_place m_from m_to k142 x1 x2 s1 s2 s3 s4 m_wide m_begins m_started m_broken = some o → KW l xX6_measure D (kT cI cB cJ cZ) ws z (kQv D (kT cI cB cJ cZ) [(63, (ad 63, .inl (cI, 150, .inl o.1))), (64, (ad 64, .inl (cI, 150, .inl o.2.1))), (65, (ad 65, .inl (cZ, 150, .inl o.2.2.1))), (66, (ad 66, .inl (cZ, 150, .inl o.2.2.2)))] ws z) 267 [(0, .ref (ad 37)), (1, .int x1), (2, .int x2)] [.int s4, .int s3, .int s2, .int s1, .ref (ad 63)] [(63, (ad 63, .inl (cI, 150, .inl m_wide))), (64, (ad 64, .inl (cI, 150, .inl m_begins))), (65, (ad 65, .inl (cZ, 150, .inl m_started))), (66, (ad 66, .inl (cZ, 150, .inl m_broken)))] := by
  intro x1 x2 s1 s2 s3 s4 m_wide m_begins m_started m_broken h
  unfold jn_X6_measure_267 at h
  refine k_iadd dX6_measure_267 ?_
  refine k_iadd dX6_measure_268 ?_
  refine k_iast (L' := fun f => [(63, (ad 63, .inl (cI, 150, .inl f))), (64, (ad 64, .inl (cI, 150, .inl m_begins))), (65, (ad 65, .inl (cZ, 150, .inl m_started))), (66, (ad 66, .inl (cZ, 150, .inl m_broken)))]) 63 0 rfl rfl rfl dX6_measure_269 h (fun _ => rfl) (fun m_wide_19 h => ?_)
  refine k_sub [0, 1, 2] rfl ?_
  exact wjn_X6_measure_270 (cI := cI) (cB := cB) (cJ := cJ) (cZ := cZ) (ad := ad) E hk142 _ _ _ _ _ _ h
set_option maxHeartbeats 4000000 in
set_option maxRecDepth 100000 in
theorem wjn_X6_measure_244 {l : Launch} {D : va_G} {cI cB cJ cZ : ClassId} {ad : Nat → Nat} {ws : va_W} {z : Nat} {m_thrown : Int32} {m_rules : Int32} {m_length : Int32} {m_tree : Int32} {m_tokens : Int32} {m_comments : Int32} {m_parts : Int32} {m_end : Int32} {m_open : Int32} {m_column : Int32} {m_printed : Int32} {m_repaired : Int32} {m_paid : Int32} {m_hint : Nat → Int32} {m_kept : Nat → Int32} {m_tokenAt : Nat → Int32} {m_tokenLength : Nat → Int32} {m_commentLength : Nat → Int32} {m_firstComment : Nat → Int32} {m_ruleOf : Nat → Int32} {m_symbolOf : Nat → Int32} {m_parent : Nat → Int32} {m_place : Nat → Int32} {m_from : Nat → Int32} {m_to : Nat → Int32} (E : ws[37]? = some (ad 37, .inr (6, [.int m_thrown, .int m_rules, .ref (ad 38), .ref (ad 39), .ref (ad 40), .ref (ad 41), .ref (ad 42), .int m_length, .ref (ad 43), .int m_tree, .ref (ad 44), .int m_tokens, .ref (ad 45), .ref (ad 46), .ref (ad 47), .int m_comments, .ref (ad 48), .ref (ad 49), .ref (ad 50), .ref (ad 51), .ref (ad 52), .ref (ad 53), .int m_parts, .ref (ad 54), .ref (ad 55), .ref (ad 56), .ref (ad 57), .ref (ad 58), .ref (ad 59), .ref (ad 60), .ref (ad 61), .int m_end, .int m_open, .ref (ad 62), .ref (ad 63), .ref (ad 64), .ref (ad 65), .ref (ad 66), .int m_column, .int m_printed, .ref (ad 67), .int m_repaired, .int m_paid])) ∧ ws[41]? = some (ad 41, .inl (cI, 100, .inl m_hint)) ∧ ws[44]? = some (ad 44, .inl (cI, 80, .inl m_kept)) ∧ ws[45]? = some (ad 45, .inl (cI, 17, .inl m_tokenAt)) ∧ ws[46]? = some (ad 46, .inl (cI, 17, .inl m_tokenLength)) ∧ ws[49]? = some (ad 49, .inl (cI, 41, .inl m_commentLength)) ∧ ws[50]? = some (ad 50, .inl (cI, 18, .inl m_firstComment)) ∧ ws[54]? = some (ad 54, .inl (cI, 150, .inl m_ruleOf)) ∧ ws[55]? = some (ad 55, .inl (cI, 150, .inl m_symbolOf)) ∧ ws[56]? = some (ad 56, .inl (cI, 150, .inl m_parent)) ∧ ws[57]? = some (ad 57, .inl (cI, 150, .inl m_place)) ∧ ws[58]? = some (ad 58, .inl (cI, 150, .inl m_from)) ∧ ws[59]? = some (ad 59, .inl (cI, 150, .inl m_to))) {o : (Nat → Int32) × (Nat → Int32) × (Nat → Int32) × (Nat → Int32)} {k142 : (Int32) → (Int32) → (Nat → Int32) → (Nat → Int32) → (Nat → Int32) → (Nat → Int32) → Option ((Nat → Int32) × (Nat → Int32) × (Nat → Int32) × (Nat → Int32))} (hk142 : ∀ (x1 : Int32) (x2 : Int32) (m_wide : Nat → Int32) (m_begins : Nat → Int32) (m_started : Nat → Int32) (m_broken : Nat → Int32), k142 x1 x2 m_wide m_begins m_started m_broken = some o → KW l xX6_measure D (kT cI cB cJ cZ) ws z (kQv D (kT cI cB cJ cZ) [(63, (ad 63, .inl (cI, 150, .inl o.1))), (64, (ad 64, .inl (cI, 150, .inl o.2.1))), (65, (ad 65, .inl (cZ, 150, .inl o.2.2.1))), (66, (ad 66, .inl (cZ, 150, .inl o.2.2.2)))] ws z) 142 [(0, .ref (ad 37)), (1, .int x1), (2, .int x2)] [] [(63, (ad 63, .inl (cI, 150, .inl m_wide))), (64, (ad 64, .inl (cI, 150, .inl m_begins))), (65, (ad 65, .inl (cZ, 150, .inl m_started))), (66, (ad 66, .inl (cZ, 150, .inl m_broken)))]) : ∀ (x1 : Int32) (x2 : Int32) (x3 : Int32) (s1 : Int32) (s2 : Int32) (m_wide : Nat → Int32) (m_begins : Nat → Int32) (m_started : Nat → Int32) (m_broken : Nat → Int32), jn_X6_measure_244 m_parts m_hint m_kept m_tokenAt m_tokenLength m_commentLength m_firstComment m_ruleOf m_symbolOf m_parent m_place m_from m_to k142 x1 x2 x3 s1 s2 m_wide m_begins m_started m_broken = some o → KW l xX6_measure D (kT cI cB cJ cZ) ws z (kQv D (kT cI cB cJ cZ) [(63, (ad 63, .inl (cI, 150, .inl o.1))), (64, (ad 64, .inl (cI, 150, .inl o.2.1))), (65, (ad 65, .inl (cZ, 150, .inl o.2.2.1))), (66, (ad 66, .inl (cZ, 150, .inl o.2.2.2)))] ws z) 244 [(0, .ref (ad 37)), (1, .int x1), (2, .int x2), (3, .int x3)] [.int s2, .int s1, .ref (ad 64)] [(63, (ad 63, .inl (cI, 150, .inl m_wide))), (64, (ad 64, .inl (cI, 150, .inl m_begins))), (65, (ad 65, .inl (cZ, 150, .inl m_started))), (66, (ad 66, .inl (cZ, 150, .inl m_broken)))] := by
  intro x1 x2 x3 s1 s2 m_wide m_begins m_started m_broken h
  unfold jn_X6_measure_244 at h
  refine k_iast (L' := fun f => [(63, (ad 63, .inl (cI, 150, .inl m_wide))), (64, (ad 64, .inl (cI, 150, .inl f))), (65, (ad 65, .inl (cZ, 150, .inl m_started))), (66, (ad 66, .inl (cZ, 150, .inl m_broken)))]) 64 0 rfl rfl rfl dX6_measure_244 h (fun _ => rfl) (fun m_begins_16 h => ?_)
  refine k_aload_n dX6_measure_245 0 rfl rfl ?_
  refine k_get 37 34 E.1 rfl qX6_measure_wX6 (by decide) qX6_measure_f87 rfl dX6_measure_246 ?_
  refine k_iload_n dX6_measure_249 1 rfl rfl ?_
  refine k_dup2 dX6_measure_250 rfl rfl ?_
  refine k_iald 63 0 rfl rfl dX6_measure_251 h (fun v17 h => ?_)
  refine k_aload_n dX6_measure_252 0 rfl rfl ?_
  refine k_get 37 34 E.1 rfl qX6_measure_wX6 (by decide) qX6_measure_f87 rfl dX6_measure_253 ?_
  refine k_iload_n dX6_measure_256 2 rfl rfl ?_
  refine k_iald 63 0 rfl rfl dX6_measure_257 h (fun v18 h => ?_)
  refine k_iload_n dX6_measure_258 3 rfl rfl ?_
  refine k_if_eq 266 dX6_measure_259 (by decide) h (fun h => ?_) (fun h => ?_)
  · skip
    refine k_iconst (v := 0) dX6_measure_266 (by decide) ?_
    refine k_sub [0, 1, 2] rfl ?_
    exact wjn_X6_measure_267 (cI := cI) (cB := cB) (cJ := cJ) (cZ := cZ) (ad := ad) E hk142 _ _ _ _ _ _ _ _ _ _ h
  · skip
    refine k_iconst (v := 1) dX6_measure_262 (by decide) ?_
    refine k_goto 267 dX6_measure_263 (by decide) ?_
    refine k_sub [0, 1, 2] rfl ?_
    exact wjn_X6_measure_267 (cI := cI) (cB := cB) (cJ := cJ) (cZ := cZ) (ad := ad) E hk142 _ _ _ _ _ _ _ _ _ _ h
set_option maxHeartbeats 4000000 in
set_option maxRecDepth 100000 in
theorem wjn_X6_measure_214 {l : Launch} {D : va_G} {cI cB cJ cZ : ClassId} {ad : Nat → Nat} {ws : va_W} {z : Nat} {m_thrown : Int32} {m_rules : Int32} {m_length : Int32} {m_tree : Int32} {m_tokens : Int32} {m_comments : Int32} {m_parts : Int32} {m_end : Int32} {m_open : Int32} {m_column : Int32} {m_printed : Int32} {m_repaired : Int32} {m_paid : Int32} {m_hint : Nat → Int32} {m_kept : Nat → Int32} {m_tokenAt : Nat → Int32} {m_tokenLength : Nat → Int32} {m_commentLength : Nat → Int32} {m_firstComment : Nat → Int32} {m_ruleOf : Nat → Int32} {m_symbolOf : Nat → Int32} {m_parent : Nat → Int32} {m_place : Nat → Int32} {m_from : Nat → Int32} {m_to : Nat → Int32} (E : ws[37]? = some (ad 37, .inr (6, [.int m_thrown, .int m_rules, .ref (ad 38), .ref (ad 39), .ref (ad 40), .ref (ad 41), .ref (ad 42), .int m_length, .ref (ad 43), .int m_tree, .ref (ad 44), .int m_tokens, .ref (ad 45), .ref (ad 46), .ref (ad 47), .int m_comments, .ref (ad 48), .ref (ad 49), .ref (ad 50), .ref (ad 51), .ref (ad 52), .ref (ad 53), .int m_parts, .ref (ad 54), .ref (ad 55), .ref (ad 56), .ref (ad 57), .ref (ad 58), .ref (ad 59), .ref (ad 60), .ref (ad 61), .int m_end, .int m_open, .ref (ad 62), .ref (ad 63), .ref (ad 64), .ref (ad 65), .ref (ad 66), .int m_column, .int m_printed, .ref (ad 67), .int m_repaired, .int m_paid])) ∧ ws[41]? = some (ad 41, .inl (cI, 100, .inl m_hint)) ∧ ws[44]? = some (ad 44, .inl (cI, 80, .inl m_kept)) ∧ ws[45]? = some (ad 45, .inl (cI, 17, .inl m_tokenAt)) ∧ ws[46]? = some (ad 46, .inl (cI, 17, .inl m_tokenLength)) ∧ ws[49]? = some (ad 49, .inl (cI, 41, .inl m_commentLength)) ∧ ws[50]? = some (ad 50, .inl (cI, 18, .inl m_firstComment)) ∧ ws[54]? = some (ad 54, .inl (cI, 150, .inl m_ruleOf)) ∧ ws[55]? = some (ad 55, .inl (cI, 150, .inl m_symbolOf)) ∧ ws[56]? = some (ad 56, .inl (cI, 150, .inl m_parent)) ∧ ws[57]? = some (ad 57, .inl (cI, 150, .inl m_place)) ∧ ws[58]? = some (ad 58, .inl (cI, 150, .inl m_from)) ∧ ws[59]? = some (ad 59, .inl (cI, 150, .inl m_to))) {o : (Nat → Int32) × (Nat → Int32) × (Nat → Int32) × (Nat → Int32)} {k142 : (Int32) → (Int32) → (Nat → Int32) → (Nat → Int32) → (Nat → Int32) → (Nat → Int32) → Option ((Nat → Int32) × (Nat → Int32) × (Nat → Int32) × (Nat → Int32))} (hk142 : ∀ (x1 : Int32) (x2 : Int32) (m_wide : Nat → Int32) (m_begins : Nat → Int32) (m_started : Nat → Int32) (m_broken : Nat → Int32), k142 x1 x2 m_wide m_begins m_started m_broken = some o → KW l xX6_measure D (kT cI cB cJ cZ) ws z (kQv D (kT cI cB cJ cZ) [(63, (ad 63, .inl (cI, 150, .inl o.1))), (64, (ad 64, .inl (cI, 150, .inl o.2.1))), (65, (ad 65, .inl (cZ, 150, .inl o.2.2.1))), (66, (ad 66, .inl (cZ, 150, .inl o.2.2.2)))] ws z) 142 [(0, .ref (ad 37)), (1, .int x1), (2, .int x2)] [] [(63, (ad 63, .inl (cI, 150, .inl m_wide))), (64, (ad 64, .inl (cI, 150, .inl m_begins))), (65, (ad 65, .inl (cZ, 150, .inl m_started))), (66, (ad 66, .inl (cZ, 150, .inl m_broken)))]) : ∀ (x1 : Int32) (x2 : Int32) (s0 : Int32) (m_wide : Nat → Int32) (m_begins : Nat → Int32) (m_started : Nat → Int32) (m_broken : Nat → Int32), jn_X6_measure_214 m_parts m_hint m_kept m_tokenAt m_tokenLength m_commentLength m_firstComment m_ruleOf m_symbolOf m_parent m_place m_from m_to k142 x1 x2 s0 m_wide m_begins m_started m_broken = some o → KW l xX6_measure D (kT cI cB cJ cZ) ws z (kQv D (kT cI cB cJ cZ) [(63, (ad 63, .inl (cI, 150, .inl o.1))), (64, (ad 64, .inl (cI, 150, .inl o.2.1))), (65, (ad 65, .inl (cZ, 150, .inl o.2.2.1))), (66, (ad 66, .inl (cZ, 150, .inl o.2.2.2)))] ws z) 214 [(0, .ref (ad 37)), (1, .int x1), (2, .int x2)] [.int s0] [(63, (ad 63, .inl (cI, 150, .inl m_wide))), (64, (ad 64, .inl (cI, 150, .inl m_begins))), (65, (ad 65, .inl (cZ, 150, .inl m_started))), (66, (ad 66, .inl (cZ, 150, .inl m_broken)))] := by
  intro x1 x2 s0 m_wide m_begins m_started m_broken h
  unfold jn_X6_measure_214 at h
  refine k_istore_n (i := 3) (lv' := fun x => [(3, .int x), (0, .ref (ad 37)), (1, .int x1), (2, .int x2)]) dX6_measure_214 rfl (Nat.le_of_ble_eq_true rfl) (fun _ => rfl) h (fun x3_13 h => ?_)
  refine k_aload_n dX6_measure_215 1 rfl rfl ?_
  refine k_get 37 35 E.1 rfl qX6_measure_wX6 (by decide) qX6_measure_f90 rfl dX6_measure_216 ?_
  refine k_iload_n dX6_measure_219 2 rfl rfl ?_
  refine k_aload_n dX6_measure_220 1 rfl rfl ?_
  refine k_get 37 34 E.1 rfl qX6_measure_wX6 (by decide) qX6_measure_f87 rfl dX6_measure_221 ?_
  refine k_iload_n dX6_measure_224 2 rfl rfl ?_
  refine k_iald 63 0 rfl rfl dX6_measure_225 h (fun v14 h => ?_)
  refine k_if_ne 238 dX6_measure_226 (by decide) h (fun h => ?_) (fun h => ?_)
  · skip
    refine k_aload_n dX6_measure_229 1 rfl rfl ?_
    refine k_get 37 35 E.1 rfl qX6_measure_wX6 (by decide) qX6_measure_f90 rfl dX6_measure_230 ?_
    refine k_iload_n dX6_measure_233 3 rfl rfl ?_
    refine k_iald 64 0 rfl rfl dX6_measure_234 h (fun v15 h => ?_)
    refine k_goto 244 dX6_measure_235 (by decide) ?_
    refine k_sub [1, 2, 3, 0] rfl ?_
    exact wjn_X6_measure_244 (cI := cI) (cB := cB) (cJ := cJ) (cZ := cZ) (ad := ad) E hk142 _ _ _ _ _ _ _ _ _ h
  · skip
    refine k_aload_n dX6_measure_238 1 rfl rfl ?_
    refine k_get 37 35 E.1 rfl qX6_measure_wX6 (by decide) qX6_measure_f90 rfl dX6_measure_239 ?_
    refine k_iload_n dX6_measure_242 2 rfl rfl ?_
    refine k_iald 64 0 rfl rfl dX6_measure_243 h (fun v20 h => ?_)
    refine k_sub [1, 2, 3, 0] rfl ?_
    exact wjn_X6_measure_244 (cI := cI) (cB := cB) (cJ := cJ) (cZ := cZ) (ad := ad) E hk142 _ _ _ _ _ _ _ _ _ h
set_option maxHeartbeats 4000000 in
set_option maxRecDepth 100000 in
theorem wjn_X6_measure_213 {l : Launch} {D : va_G} {cI cB cJ cZ : ClassId} {ad : Nat → Nat} {ws : va_W} {z : Nat} {m_thrown : Int32} {m_rules : Int32} {m_length : Int32} {m_tree : Int32} {m_tokens : Int32} {m_comments : Int32} {m_parts : Int32} {m_end : Int32} {m_open : Int32} {m_column : Int32} {m_printed : Int32} {m_repaired : Int32} {m_paid : Int32} {m_hint : Nat → Int32} {m_kept : Nat → Int32} {m_tokenAt : Nat → Int32} {m_tokenLength : Nat → Int32} {m_commentLength : Nat → Int32} {m_firstComment : Nat → Int32} {m_ruleOf : Nat → Int32} {m_symbolOf : Nat → Int32} {m_parent : Nat → Int32} {m_place : Nat → Int32} {m_from : Nat → Int32} {m_to : Nat → Int32} (E : ws[37]? = some (ad 37, .inr (6, [.int m_thrown, .int m_rules, .ref (ad 38), .ref (ad 39), .ref (ad 40), .ref (ad 41), .ref (ad 42), .int m_length, .ref (ad 43), .int m_tree, .ref (ad 44), .int m_tokens, .ref (ad 45), .ref (ad 46), .ref (ad 47), .int m_comments, .ref (ad 48), .ref (ad 49), .ref (ad 50), .ref (ad 51), .ref (ad 52), .ref (ad 53), .int m_parts, .ref (ad 54), .ref (ad 55), .ref (ad 56), .ref (ad 57), .ref (ad 58), .ref (ad 59), .ref (ad 60), .ref (ad 61), .int m_end, .int m_open, .ref (ad 62), .ref (ad 63), .ref (ad 64), .ref (ad 65), .ref (ad 66), .int m_column, .int m_printed, .ref (ad 67), .int m_repaired, .int m_paid])) ∧ ws[41]? = some (ad 41, .inl (cI, 100, .inl m_hint)) ∧ ws[44]? = some (ad 44, .inl (cI, 80, .inl m_kept)) ∧ ws[45]? = some (ad 45, .inl (cI, 17, .inl m_tokenAt)) ∧ ws[46]? = some (ad 46, .inl (cI, 17, .inl m_tokenLength)) ∧ ws[49]? = some (ad 49, .inl (cI, 41, .inl m_commentLength)) ∧ ws[50]? = some (ad 50, .inl (cI, 18, .inl m_firstComment)) ∧ ws[54]? = some (ad 54, .inl (cI, 150, .inl m_ruleOf)) ∧ ws[55]? = some (ad 55, .inl (cI, 150, .inl m_symbolOf)) ∧ ws[56]? = some (ad 56, .inl (cI, 150, .inl m_parent)) ∧ ws[57]? = some (ad 57, .inl (cI, 150, .inl m_place)) ∧ ws[58]? = some (ad 58, .inl (cI, 150, .inl m_from)) ∧ ws[59]? = some (ad 59, .inl (cI, 150, .inl m_to))) {o : (Nat → Int32) × (Nat → Int32) × (Nat → Int32) × (Nat → Int32)} {k142 : (Int32) → (Int32) → (Nat → Int32) → (Nat → Int32) → (Nat → Int32) → (Nat → Int32) → Option ((Nat → Int32) × (Nat → Int32) × (Nat → Int32) × (Nat → Int32))} (hk142 : ∀ (x1 : Int32) (x2 : Int32) (m_wide : Nat → Int32) (m_begins : Nat → Int32) (m_started : Nat → Int32) (m_broken : Nat → Int32), k142 x1 x2 m_wide m_begins m_started m_broken = some o → KW l xX6_measure D (kT cI cB cJ cZ) ws z (kQv D (kT cI cB cJ cZ) [(63, (ad 63, .inl (cI, 150, .inl o.1))), (64, (ad 64, .inl (cI, 150, .inl o.2.1))), (65, (ad 65, .inl (cZ, 150, .inl o.2.2.1))), (66, (ad 66, .inl (cZ, 150, .inl o.2.2.2)))] ws z) 142 [(0, .ref (ad 37)), (1, .int x1), (2, .int x2)] [] [(63, (ad 63, .inl (cI, 150, .inl m_wide))), (64, (ad 64, .inl (cI, 150, .inl m_begins))), (65, (ad 65, .inl (cZ, 150, .inl m_started))), (66, (ad 66, .inl (cZ, 150, .inl m_broken)))]) : ∀ (x1 : Int32) (x2 : Int32) (m_wide : Nat → Int32) (m_begins : Nat → Int32) (m_started : Nat → Int32) (m_broken : Nat → Int32), jn_X6_measure_213 m_parts m_hint m_kept m_tokenAt m_tokenLength m_commentLength m_firstComment m_ruleOf m_symbolOf m_parent m_place m_from m_to k142 x1 x2 m_wide m_begins m_started m_broken = some o → KW l xX6_measure D (kT cI cB cJ cZ) ws z (kQv D (kT cI cB cJ cZ) [(63, (ad 63, .inl (cI, 150, .inl o.1))), (64, (ad 64, .inl (cI, 150, .inl o.2.1))), (65, (ad 65, .inl (cZ, 150, .inl o.2.2.1))), (66, (ad 66, .inl (cZ, 150, .inl o.2.2.2)))] ws z) 213 [(0, .ref (ad 37)), (1, .int x1), (2, .int x2)] [] [(63, (ad 63, .inl (cI, 150, .inl m_wide))), (64, (ad 64, .inl (cI, 150, .inl m_begins))), (65, (ad 65, .inl (cZ, 150, .inl m_started))), (66, (ad 66, .inl (cZ, 150, .inl m_broken)))] := by
  intro x1 x2 m_wide m_begins m_started m_broken h
  unfold jn_X6_measure_213 at h
  refine k_iconst (v := 0) dX6_measure_213 (by decide) ?_
  refine k_sub [0, 1, 2] rfl ?_
  exact wjn_X6_measure_214 (cI := cI) (cB := cB) (cJ := cJ) (cZ := cZ) (ad := ad) E hk142 _ _ _ _ _ _ _ h
set_option maxHeartbeats 4000000 in
set_option maxRecDepth 100000 in
theorem wjn_X6_measure_209 {l : Launch} {D : va_G} {cI cB cJ cZ : ClassId} {ad : Nat → Nat} {ws : va_W} {z : Nat} {m_thrown : Int32} {m_rules : Int32} {m_length : Int32} {m_tree : Int32} {m_tokens : Int32} {m_comments : Int32} {m_parts : Int32} {m_end : Int32} {m_open : Int32} {m_column : Int32} {m_printed : Int32} {m_repaired : Int32} {m_paid : Int32} {m_hint : Nat → Int32} {m_kept : Nat → Int32} {m_tokenAt : Nat → Int32} {m_tokenLength : Nat → Int32} {m_commentLength : Nat → Int32} {m_firstComment : Nat → Int32} {m_ruleOf : Nat → Int32} {m_symbolOf : Nat → Int32} {m_parent : Nat → Int32} {m_place : Nat → Int32} {m_from : Nat → Int32} {m_to : Nat → Int32} (E : ws[37]? = some (ad 37, .inr (6, [.int m_thrown, .int m_rules, .ref (ad 38), .ref (ad 39), .ref (ad 40), .ref (ad 41), .ref (ad 42), .int m_length, .ref (ad 43), .int m_tree, .ref (ad 44), .int m_tokens, .ref (ad 45), .ref (ad 46), .ref (ad 47), .int m_comments, .ref (ad 48), .ref (ad 49), .ref (ad 50), .ref (ad 51), .ref (ad 52), .ref (ad 53), .int m_parts, .ref (ad 54), .ref (ad 55), .ref (ad 56), .ref (ad 57), .ref (ad 58), .ref (ad 59), .ref (ad 60), .ref (ad 61), .int m_end, .int m_open, .ref (ad 62), .ref (ad 63), .ref (ad 64), .ref (ad 65), .ref (ad 66), .int m_column, .int m_printed, .ref (ad 67), .int m_repaired, .int m_paid])) ∧ ws[41]? = some (ad 41, .inl (cI, 100, .inl m_hint)) ∧ ws[44]? = some (ad 44, .inl (cI, 80, .inl m_kept)) ∧ ws[45]? = some (ad 45, .inl (cI, 17, .inl m_tokenAt)) ∧ ws[46]? = some (ad 46, .inl (cI, 17, .inl m_tokenLength)) ∧ ws[49]? = some (ad 49, .inl (cI, 41, .inl m_commentLength)) ∧ ws[50]? = some (ad 50, .inl (cI, 18, .inl m_firstComment)) ∧ ws[54]? = some (ad 54, .inl (cI, 150, .inl m_ruleOf)) ∧ ws[55]? = some (ad 55, .inl (cI, 150, .inl m_symbolOf)) ∧ ws[56]? = some (ad 56, .inl (cI, 150, .inl m_parent)) ∧ ws[57]? = some (ad 57, .inl (cI, 150, .inl m_place)) ∧ ws[58]? = some (ad 58, .inl (cI, 150, .inl m_from)) ∧ ws[59]? = some (ad 59, .inl (cI, 150, .inl m_to))) {o : (Nat → Int32) × (Nat → Int32) × (Nat → Int32) × (Nat → Int32)} {k142 : (Int32) → (Int32) → (Nat → Int32) → (Nat → Int32) → (Nat → Int32) → (Nat → Int32) → Option ((Nat → Int32) × (Nat → Int32) × (Nat → Int32) × (Nat → Int32))} (hk142 : ∀ (x1 : Int32) (x2 : Int32) (m_wide : Nat → Int32) (m_begins : Nat → Int32) (m_started : Nat → Int32) (m_broken : Nat → Int32), k142 x1 x2 m_wide m_begins m_started m_broken = some o → KW l xX6_measure D (kT cI cB cJ cZ) ws z (kQv D (kT cI cB cJ cZ) [(63, (ad 63, .inl (cI, 150, .inl o.1))), (64, (ad 64, .inl (cI, 150, .inl o.2.1))), (65, (ad 65, .inl (cZ, 150, .inl o.2.2.1))), (66, (ad 66, .inl (cZ, 150, .inl o.2.2.2)))] ws z) 142 [(0, .ref (ad 37)), (1, .int x1), (2, .int x2)] [] [(63, (ad 63, .inl (cI, 150, .inl m_wide))), (64, (ad 64, .inl (cI, 150, .inl m_begins))), (65, (ad 65, .inl (cZ, 150, .inl m_started))), (66, (ad 66, .inl (cZ, 150, .inl m_broken)))]) : ∀ (x1 : Int32) (x2 : Int32) (m_wide : Nat → Int32) (m_begins : Nat → Int32) (m_started : Nat → Int32) (m_broken : Nat → Int32), jn_X6_measure_209 m_parts m_hint m_kept m_tokenAt m_tokenLength m_commentLength m_firstComment m_ruleOf m_symbolOf m_parent m_place m_from m_to k142 x1 x2 m_wide m_begins m_started m_broken = some o → KW l xX6_measure D (kT cI cB cJ cZ) ws z (kQv D (kT cI cB cJ cZ) [(63, (ad 63, .inl (cI, 150, .inl o.1))), (64, (ad 64, .inl (cI, 150, .inl o.2.1))), (65, (ad 65, .inl (cZ, 150, .inl o.2.2.1))), (66, (ad 66, .inl (cZ, 150, .inl o.2.2.2)))] ws z) 209 [(0, .ref (ad 37)), (1, .int x1), (2, .int x2)] [] [(63, (ad 63, .inl (cI, 150, .inl m_wide))), (64, (ad 64, .inl (cI, 150, .inl m_begins))), (65, (ad 65, .inl (cZ, 150, .inl m_started))), (66, (ad 66, .inl (cZ, 150, .inl m_broken)))] := by
  intro x1 x2 m_wide m_begins m_started m_broken h
  unfold jn_X6_measure_209 at h
  refine k_iconst (v := 1) dX6_measure_209 (by decide) ?_
  refine k_goto 214 dX6_measure_210 (by decide) ?_
  refine k_sub [0, 1, 2] rfl ?_
  exact wjn_X6_measure_214 (cI := cI) (cB := cB) (cJ := cJ) (cZ := cZ) (ad := ad) E hk142 _ _ _ _ _ _ _ h
set_option maxHeartbeats 4000000 in
set_option maxRecDepth 100000 in
theorem wlp_X6_measure_142 {l : Launch} {D : va_G} {cI cB cJ cZ : ClassId} {ad : Nat → Nat} {ws : va_W} {z : Nat} {m_thrown : Int32} {m_rules : Int32} {m_length : Int32} {m_tree : Int32} {m_tokens : Int32} {m_comments : Int32} {m_parts : Int32} {m_end : Int32} {m_open : Int32} {m_column : Int32} {m_printed : Int32} {m_repaired : Int32} {m_paid : Int32} {m_hint : Nat → Int32} {m_kept : Nat → Int32} {m_tokenAt : Nat → Int32} {m_tokenLength : Nat → Int32} {m_commentLength : Nat → Int32} {m_firstComment : Nat → Int32} {m_ruleOf : Nat → Int32} {m_symbolOf : Nat → Int32} {m_parent : Nat → Int32} {m_place : Nat → Int32} {m_from : Nat → Int32} {m_to : Nat → Int32} (E : ws[37]? = some (ad 37, .inr (6, [.int m_thrown, .int m_rules, .ref (ad 38), .ref (ad 39), .ref (ad 40), .ref (ad 41), .ref (ad 42), .int m_length, .ref (ad 43), .int m_tree, .ref (ad 44), .int m_tokens, .ref (ad 45), .ref (ad 46), .ref (ad 47), .int m_comments, .ref (ad 48), .ref (ad 49), .ref (ad 50), .ref (ad 51), .ref (ad 52), .ref (ad 53), .int m_parts, .ref (ad 54), .ref (ad 55), .ref (ad 56), .ref (ad 57), .ref (ad 58), .ref (ad 59), .ref (ad 60), .ref (ad 61), .int m_end, .int m_open, .ref (ad 62), .ref (ad 63), .ref (ad 64), .ref (ad 65), .ref (ad 66), .int m_column, .int m_printed, .ref (ad 67), .int m_repaired, .int m_paid])) ∧ ws[41]? = some (ad 41, .inl (cI, 100, .inl m_hint)) ∧ ws[44]? = some (ad 44, .inl (cI, 80, .inl m_kept)) ∧ ws[45]? = some (ad 45, .inl (cI, 17, .inl m_tokenAt)) ∧ ws[46]? = some (ad 46, .inl (cI, 17, .inl m_tokenLength)) ∧ ws[49]? = some (ad 49, .inl (cI, 41, .inl m_commentLength)) ∧ ws[50]? = some (ad 50, .inl (cI, 18, .inl m_firstComment)) ∧ ws[54]? = some (ad 54, .inl (cI, 150, .inl m_ruleOf)) ∧ ws[55]? = some (ad 55, .inl (cI, 150, .inl m_symbolOf)) ∧ ws[56]? = some (ad 56, .inl (cI, 150, .inl m_parent)) ∧ ws[57]? = some (ad 57, .inl (cI, 150, .inl m_place)) ∧ ws[58]? = some (ad 58, .inl (cI, 150, .inl m_from)) ∧ ws[59]? = some (ad 59, .inl (cI, 150, .inl m_to))) {o : (Nat → Int32) × (Nat → Int32) × (Nat → Int32) × (Nat → Int32)} {k276 : (Int32) → (Nat → Int32) → (Nat → Int32) → (Nat → Int32) → (Nat → Int32) → Option ((Nat → Int32) × (Nat → Int32) × (Nat → Int32) × (Nat → Int32))} (hk276 : ∀ (x1 : Int32) (m_wide : Nat → Int32) (m_begins : Nat → Int32) (m_started : Nat → Int32) (m_broken : Nat → Int32), k276 x1 m_wide m_begins m_started m_broken = some o → KW l xX6_measure D (kT cI cB cJ cZ) ws z (kQv D (kT cI cB cJ cZ) [(63, (ad 63, .inl (cI, 150, .inl o.1))), (64, (ad 64, .inl (cI, 150, .inl o.2.1))), (65, (ad 65, .inl (cZ, 150, .inl o.2.2.1))), (66, (ad 66, .inl (cZ, 150, .inl o.2.2.2)))] ws z) 276 [(0, .ref (ad 37)), (1, .int x1)] [] [(63, (ad 63, .inl (cI, 150, .inl m_wide))), (64, (ad 64, .inl (cI, 150, .inl m_begins))), (65, (ad 65, .inl (cZ, 150, .inl m_started))), (66, (ad 66, .inl (cZ, 150, .inl m_broken)))]) : ∀ (n : Nat) (x1 : Int32) (x2 : Int32) (m_wide : Nat → Int32) (m_begins : Nat → Int32) (m_started : Nat → Int32) (m_broken : Nat → Int32), lp_X6_measure_142 m_parts m_hint m_kept m_tokenAt m_tokenLength m_commentLength m_firstComment m_ruleOf m_symbolOf m_parent m_place m_from m_to k276 n x1 x2 m_wide m_begins m_started m_broken = some o → KW l xX6_measure D (kT cI cB cJ cZ) ws z (kQv D (kT cI cB cJ cZ) [(63, (ad 63, .inl (cI, 150, .inl o.1))), (64, (ad 64, .inl (cI, 150, .inl o.2.1))), (65, (ad 65, .inl (cZ, 150, .inl o.2.2.1))), (66, (ad 66, .inl (cZ, 150, .inl o.2.2.2)))] ws z) 142 [(0, .ref (ad 37)), (1, .int x1), (2, .int x2)] [] [(63, (ad 63, .inl (cI, 150, .inl m_wide))), (64, (ad 64, .inl (cI, 150, .inl m_begins))), (65, (ad 65, .inl (cZ, 150, .inl m_started))), (66, (ad 66, .inl (cZ, 150, .inl m_broken)))] := by
  intro n
  induction n with
  | zero => intro x1 x2 m_wide m_begins m_started m_broken h; exact absurd h (by simp [lp_X6_measure_142])
  | succ n hk142 =>
    intro x1 x2 m_wide m_begins m_started m_broken h
    unfold lp_X6_measure_142 at h
    refine k_iload_n dX6_measure_142 2 rfl rfl ?_
    refine k_aload_n dX6_measure_143 0 rfl rfl ?_
    refine k_get 37 22 E.1 rfl qX6_measure_wX6 (by decide) qX6_measure_f157 rfl dX6_measure_144 ?_
    refine k_icmp_ge 276 dX6_measure_147 (by decide) h (fun h => ?_) (fun h => ?_)
    · skip
      refine k_sub [0, 1] rfl ?_
      exact hk276 _ _ _ _ _ h
    · skip
      refine k_aload_n dX6_measure_150 0 rfl rfl ?_
      refine k_get 37 24 E.1 rfl qX6_measure_wX6 (by decide) qX6_measure_f63 rfl dX6_measure_151 ?_
      refine k_iload_n dX6_measure_154 1 rfl rfl ?_
      refine k_iald 55 0 E.2.2.2.2.2.2.2.2.1 rfl dX6_measure_155 h (fun v8 h => ?_)
      refine k_bipush (v := 8) dX6_measure_156 (by decide) ?_
      refine k_icmp_le 276 dX6_measure_158 (by decide) h (fun h => ?_) (fun h => ?_)
      · skip
        refine k_sub [0, 1] rfl ?_
        exact hk276 _ _ _ _ _ h
      · skip
        refine k_aload_n dX6_measure_161 0 rfl rfl ?_
        refine k_get 37 25 E.1 rfl qX6_measure_wX6 (by decide) qX6_measure_f66 rfl dX6_measure_162 ?_
        refine k_iload_n dX6_measure_165 2 rfl rfl ?_
        refine k_iald 56 0 E.2.2.2.2.2.2.2.2.2.1 rfl dX6_measure_166 h (fun v9 h => ?_)
        refine k_iload_n dX6_measure_167 1 rfl rfl ?_
        refine k_icmp_ne 270 dX6_measure_168 (by decide) h (fun h => ?_) (fun h => ?_)
        · skip
          refine k_aload_n dX6_measure_171 0 rfl rfl ?_
          refine k_get 37 34 E.1 rfl qX6_measure_wX6 (by decide) qX6_measure_f87 rfl dX6_measure_172 ?_
          refine k_iload_n dX6_measure_175 2 rfl rfl ?_
          refine k_iald 63 0 rfl rfl dX6_measure_176 h (fun v10 h => ?_)
          refine k_if_le 270 dX6_measure_177 (by decide) h (fun h => ?_) (fun h => ?_)
          · skip
            refine k_sub [0, 1, 2] rfl ?_
            exact wjn_X6_measure_270 (cI := cI) (cB := cB) (cJ := cJ) (cZ := cZ) (ad := ad) E hk142 _ _ _ _ _ _ h
          · skip
            refine k_aload_n dX6_measure_180 0 rfl rfl ?_
            refine k_get 37 34 E.1 rfl qX6_measure_wX6 (by decide) qX6_measure_f87 rfl dX6_measure_181 ?_
            refine k_iload_n dX6_measure_184 1 rfl rfl ?_
            refine k_iald 63 0 rfl rfl dX6_measure_185 h (fun v12 h => ?_)
            refine k_if_le 213 dX6_measure_186 (by decide) h (fun h => ?_) (fun h => ?_)
            · skip
              refine k_sub [0, 1, 2] rfl ?_
              exact wjn_X6_measure_213 (cI := cI) (cB := cB) (cJ := cJ) (cZ := cZ) (ad := ad) E hk142 _ _ _ _ _ _ h
            · skip
              refine k_aload_n dX6_measure_189 0 rfl rfl ?_
              refine k_iload_n dX6_measure_190 2 rfl rfl ?_
              obtain ⟨r21, hr21, h⟩ := Option.bind_eq_some_iff.mp h
              refine k_calliV (As := [.int x2]) (st := []) (Lc := []) (L' := [(63, (ad 63, .inl (cI, 150, .inl m_wide))), (64, (ad 64, .inl (cI, 150, .inl m_begins))), (65, (ad 65, .inl (cZ, 150, .inl m_started))), (66, (ad 66, .inl (cZ, 150, .inl m_broken)))]) (r := r21) gX6_measure_X6_hintOf rfl rfl rfl hyVX6_hintOf ⟨Nat.le_of_ble_eq_true rfl, Nat.le_of_ble_eq_true rfl⟩ rfl rfl (Nat.le_of_ble_eq_true rfl) 37 E.1 rfl dX6_measure_191 (fun w z hw => c_X6_hintOf (cI := cI) (cB := cB) (cJ := cJ) (cZ := cZ) (ad := ad) w z ⟨((hw 37).trans E.1), ((hw 41).trans E.2.1), ((hw 54).trans E.2.2.2.2.2.2.2.1), ((hw 56).trans E.2.2.2.2.2.2.2.2.2.1), ((hw 57).trans E.2.2.2.2.2.2.2.2.2.2.1)⟩  hr21) rfl rfl ?_
              refine k_if_gt 209 dX6_measure_194 (by decide) h (fun h => ?_) (fun h => ?_)
              · skip
                refine k_sub [0, 1, 2] rfl ?_
                exact wjn_X6_measure_209 (cI := cI) (cB := cB) (cJ := cJ) (cZ := cZ) (ad := ad) E hk142 _ _ _ _ _ _ h
              · skip
                refine k_aload_n dX6_measure_197 0 rfl rfl ?_
                refine k_get 37 35 E.1 rfl qX6_measure_wX6 (by decide) qX6_measure_f90 rfl dX6_measure_198 ?_
                refine k_iload_n dX6_measure_201 2 rfl rfl ?_
                refine k_iald 64 0 rfl rfl dX6_measure_202 h (fun v22 h => ?_)
                obtain ⟨r23, hr23, h⟩ := Option.bind_eq_some_iff.mp h
                refine k_calliS (As := [.int v22]) (st := []) (Lc := []) (L' := [(63, (ad 63, .inl (cI, 150, .inl m_wide))), (64, (ad 64, .inl (cI, 150, .inl m_begins))), (65, (ad 65, .inl (cZ, 150, .inl m_started))), (66, (ad 66, .inl (cZ, 150, .inl m_broken)))]) (r := r23) gX6_measure_X6_digit rfl rfl rfl hySX6_digit ⟨Nat.le_of_ble_eq_true rfl, Nat.le_of_ble_eq_true rfl⟩ rfl rfl (Nat.le_of_ble_eq_true rfl) dX6_measure_203 (fun w z hw => c_X6_digit (cI := cI) (cB := cB) (cJ := cJ) (cZ := cZ) (ad := ad) w z trivial  hr23) rfl rfl ?_
                refine k_if_eq 213 dX6_measure_206 (by decide) h (fun h => ?_) (fun h => ?_)
                · skip
                  refine k_sub [0, 1, 2] rfl ?_
                  exact wjn_X6_measure_213 (cI := cI) (cB := cB) (cJ := cJ) (cZ := cZ) (ad := ad) E hk142 _ _ _ _ _ _ h
                · skip
                  refine k_sub [0, 1, 2] rfl ?_
                  exact wjn_X6_measure_209 (cI := cI) (cB := cB) (cJ := cJ) (cZ := cZ) (ad := ad) E hk142 _ _ _ _ _ _ h
        · skip
          refine k_sub [0, 1, 2] rfl ?_
          exact wjn_X6_measure_270 (cI := cI) (cB := cB) (cJ := cJ) (cZ := cZ) (ad := ad) E hk142 _ _ _ _ _ _ h
set_option maxHeartbeats 4000000 in
set_option maxRecDepth 100000 in
theorem wjn_X6_measure_276 {l : Launch} {D : va_G} {cI cB cJ cZ : ClassId} {ad : Nat → Nat} {ws : va_W} {z : Nat} {m_thrown : Int32} {m_rules : Int32} {m_length : Int32} {m_tree : Int32} {m_tokens : Int32} {m_comments : Int32} {m_parts : Int32} {m_end : Int32} {m_open : Int32} {m_column : Int32} {m_printed : Int32} {m_repaired : Int32} {m_paid : Int32} {m_hint : Nat → Int32} {m_kept : Nat → Int32} {m_tokenAt : Nat → Int32} {m_tokenLength : Nat → Int32} {m_commentLength : Nat → Int32} {m_firstComment : Nat → Int32} {m_ruleOf : Nat → Int32} {m_symbolOf : Nat → Int32} {m_parent : Nat → Int32} {m_place : Nat → Int32} {m_from : Nat → Int32} {m_to : Nat → Int32} (E : ws[37]? = some (ad 37, .inr (6, [.int m_thrown, .int m_rules, .ref (ad 38), .ref (ad 39), .ref (ad 40), .ref (ad 41), .ref (ad 42), .int m_length, .ref (ad 43), .int m_tree, .ref (ad 44), .int m_tokens, .ref (ad 45), .ref (ad 46), .ref (ad 47), .int m_comments, .ref (ad 48), .ref (ad 49), .ref (ad 50), .ref (ad 51), .ref (ad 52), .ref (ad 53), .int m_parts, .ref (ad 54), .ref (ad 55), .ref (ad 56), .ref (ad 57), .ref (ad 58), .ref (ad 59), .ref (ad 60), .ref (ad 61), .int m_end, .int m_open, .ref (ad 62), .ref (ad 63), .ref (ad 64), .ref (ad 65), .ref (ad 66), .int m_column, .int m_printed, .ref (ad 67), .int m_repaired, .int m_paid])) ∧ ws[41]? = some (ad 41, .inl (cI, 100, .inl m_hint)) ∧ ws[44]? = some (ad 44, .inl (cI, 80, .inl m_kept)) ∧ ws[45]? = some (ad 45, .inl (cI, 17, .inl m_tokenAt)) ∧ ws[46]? = some (ad 46, .inl (cI, 17, .inl m_tokenLength)) ∧ ws[49]? = some (ad 49, .inl (cI, 41, .inl m_commentLength)) ∧ ws[50]? = some (ad 50, .inl (cI, 18, .inl m_firstComment)) ∧ ws[54]? = some (ad 54, .inl (cI, 150, .inl m_ruleOf)) ∧ ws[55]? = some (ad 55, .inl (cI, 150, .inl m_symbolOf)) ∧ ws[56]? = some (ad 56, .inl (cI, 150, .inl m_parent)) ∧ ws[57]? = some (ad 57, .inl (cI, 150, .inl m_place)) ∧ ws[58]? = some (ad 58, .inl (cI, 150, .inl m_from)) ∧ ws[59]? = some (ad 59, .inl (cI, 150, .inl m_to))) {o : (Nat → Int32) × (Nat → Int32) × (Nat → Int32) × (Nat → Int32)} {k7 : (Int32) → (Nat → Int32) → (Nat → Int32) → (Nat → Int32) → (Nat → Int32) → Option ((Nat → Int32) × (Nat → Int32) × (Nat → Int32) × (Nat → Int32))} (hk7 : ∀ (x1 : Int32) (m_wide : Nat → Int32) (m_begins : Nat → Int32) (m_started : Nat → Int32) (m_broken : Nat → Int32), k7 x1 m_wide m_begins m_started m_broken = some o → KW l xX6_measure D (kT cI cB cJ cZ) ws z (kQv D (kT cI cB cJ cZ) [(63, (ad 63, .inl (cI, 150, .inl o.1))), (64, (ad 64, .inl (cI, 150, .inl o.2.1))), (65, (ad 65, .inl (cZ, 150, .inl o.2.2.1))), (66, (ad 66, .inl (cZ, 150, .inl o.2.2.2)))] ws z) 7 [(0, .ref (ad 37)), (1, .int x1)] [] [(63, (ad 63, .inl (cI, 150, .inl m_wide))), (64, (ad 64, .inl (cI, 150, .inl m_begins))), (65, (ad 65, .inl (cZ, 150, .inl m_started))), (66, (ad 66, .inl (cZ, 150, .inl m_broken)))]) : ∀ (x1 : Int32) (m_wide : Nat → Int32) (m_begins : Nat → Int32) (m_started : Nat → Int32) (m_broken : Nat → Int32), jn_X6_measure_276 m_parts m_hint m_kept m_tokenAt m_tokenLength m_commentLength m_firstComment m_ruleOf m_symbolOf m_parent m_place m_from m_to k7 x1 m_wide m_begins m_started m_broken = some o → KW l xX6_measure D (kT cI cB cJ cZ) ws z (kQv D (kT cI cB cJ cZ) [(63, (ad 63, .inl (cI, 150, .inl o.1))), (64, (ad 64, .inl (cI, 150, .inl o.2.1))), (65, (ad 65, .inl (cZ, 150, .inl o.2.2.1))), (66, (ad 66, .inl (cZ, 150, .inl o.2.2.2)))] ws z) 276 [(0, .ref (ad 37)), (1, .int x1)] [] [(63, (ad 63, .inl (cI, 150, .inl m_wide))), (64, (ad 64, .inl (cI, 150, .inl m_begins))), (65, (ad 65, .inl (cZ, 150, .inl m_started))), (66, (ad 66, .inl (cZ, 150, .inl m_broken)))] := by
  intro x1 m_wide m_begins m_started m_broken h
  unfold jn_X6_measure_276 at h
  refine k_iinc (i := 1) (lv' := fun x => [(1, .int x), (0, .ref (ad 37))]) dX6_measure_276 1 rfl (Nat.le_of_ble_eq_true rfl) (fun _ => rfl) h (fun x1_24 h => ?_)
  refine k_goto 7 dX6_measure_279 (by decide) ?_
  refine k_sub [1, 0] rfl ?_
  exact hk7 _ _ _ _ _ h
set_option maxHeartbeats 4000000 in
set_option maxRecDepth 100000 in
theorem wjn_X6_measure_138 {l : Launch} {D : va_G} {cI cB cJ cZ : ClassId} {ad : Nat → Nat} {ws : va_W} {z : Nat} {m_thrown : Int32} {m_rules : Int32} {m_length : Int32} {m_tree : Int32} {m_tokens : Int32} {m_comments : Int32} {m_parts : Int32} {m_end : Int32} {m_open : Int32} {m_column : Int32} {m_printed : Int32} {m_repaired : Int32} {m_paid : Int32} {m_hint : Nat → Int32} {m_kept : Nat → Int32} {m_tokenAt : Nat → Int32} {m_tokenLength : Nat → Int32} {m_commentLength : Nat → Int32} {m_firstComment : Nat → Int32} {m_ruleOf : Nat → Int32} {m_symbolOf : Nat → Int32} {m_parent : Nat → Int32} {m_place : Nat → Int32} {m_from : Nat → Int32} {m_to : Nat → Int32} (E : ws[37]? = some (ad 37, .inr (6, [.int m_thrown, .int m_rules, .ref (ad 38), .ref (ad 39), .ref (ad 40), .ref (ad 41), .ref (ad 42), .int m_length, .ref (ad 43), .int m_tree, .ref (ad 44), .int m_tokens, .ref (ad 45), .ref (ad 46), .ref (ad 47), .int m_comments, .ref (ad 48), .ref (ad 49), .ref (ad 50), .ref (ad 51), .ref (ad 52), .ref (ad 53), .int m_parts, .ref (ad 54), .ref (ad 55), .ref (ad 56), .ref (ad 57), .ref (ad 58), .ref (ad 59), .ref (ad 60), .ref (ad 61), .int m_end, .int m_open, .ref (ad 62), .ref (ad 63), .ref (ad 64), .ref (ad 65), .ref (ad 66), .int m_column, .int m_printed, .ref (ad 67), .int m_repaired, .int m_paid])) ∧ ws[41]? = some (ad 41, .inl (cI, 100, .inl m_hint)) ∧ ws[44]? = some (ad 44, .inl (cI, 80, .inl m_kept)) ∧ ws[45]? = some (ad 45, .inl (cI, 17, .inl m_tokenAt)) ∧ ws[46]? = some (ad 46, .inl (cI, 17, .inl m_tokenLength)) ∧ ws[49]? = some (ad 49, .inl (cI, 41, .inl m_commentLength)) ∧ ws[50]? = some (ad 50, .inl (cI, 18, .inl m_firstComment)) ∧ ws[54]? = some (ad 54, .inl (cI, 150, .inl m_ruleOf)) ∧ ws[55]? = some (ad 55, .inl (cI, 150, .inl m_symbolOf)) ∧ ws[56]? = some (ad 56, .inl (cI, 150, .inl m_parent)) ∧ ws[57]? = some (ad 57, .inl (cI, 150, .inl m_place)) ∧ ws[58]? = some (ad 58, .inl (cI, 150, .inl m_from)) ∧ ws[59]? = some (ad 59, .inl (cI, 150, .inl m_to))) {o : (Nat → Int32) × (Nat → Int32) × (Nat → Int32) × (Nat → Int32)} {k7 : (Int32) → (Nat → Int32) → (Nat → Int32) → (Nat → Int32) → (Nat → Int32) → Option ((Nat → Int32) × (Nat → Int32) × (Nat → Int32) × (Nat → Int32))} (hk7 : ∀ (x1 : Int32) (m_wide : Nat → Int32) (m_begins : Nat → Int32) (m_started : Nat → Int32) (m_broken : Nat → Int32), k7 x1 m_wide m_begins m_started m_broken = some o → KW l xX6_measure D (kT cI cB cJ cZ) ws z (kQv D (kT cI cB cJ cZ) [(63, (ad 63, .inl (cI, 150, .inl o.1))), (64, (ad 64, .inl (cI, 150, .inl o.2.1))), (65, (ad 65, .inl (cZ, 150, .inl o.2.2.1))), (66, (ad 66, .inl (cZ, 150, .inl o.2.2.2)))] ws z) 7 [(0, .ref (ad 37)), (1, .int x1)] [] [(63, (ad 63, .inl (cI, 150, .inl m_wide))), (64, (ad 64, .inl (cI, 150, .inl m_begins))), (65, (ad 65, .inl (cZ, 150, .inl m_started))), (66, (ad 66, .inl (cZ, 150, .inl m_broken)))]) : ∀ (x1 : Int32) (m_wide : Nat → Int32) (m_begins : Nat → Int32) (m_started : Nat → Int32) (m_broken : Nat → Int32), jn_X6_measure_138 m_parts m_hint m_kept m_tokenAt m_tokenLength m_commentLength m_firstComment m_ruleOf m_symbolOf m_parent m_place m_from m_to k7 x1 m_wide m_begins m_started m_broken = some o → KW l xX6_measure D (kT cI cB cJ cZ) ws z (kQv D (kT cI cB cJ cZ) [(63, (ad 63, .inl (cI, 150, .inl o.1))), (64, (ad 64, .inl (cI, 150, .inl o.2.1))), (65, (ad 65, .inl (cZ, 150, .inl o.2.2.1))), (66, (ad 66, .inl (cZ, 150, .inl o.2.2.2)))] ws z) 138 [(0, .ref (ad 37)), (1, .int x1)] [] [(63, (ad 63, .inl (cI, 150, .inl m_wide))), (64, (ad 64, .inl (cI, 150, .inl m_begins))), (65, (ad 65, .inl (cZ, 150, .inl m_started))), (66, (ad 66, .inl (cZ, 150, .inl m_broken)))] := by
  intro x1 m_wide m_begins m_started m_broken h
  unfold jn_X6_measure_138 at h
  refine k_iload_n dX6_measure_138 1 rfl rfl ?_
  refine k_iconst (v := 1) dX6_measure_139 (by decide) ?_
  refine k_iadd dX6_measure_140 ?_
  refine k_istore_n (i := 2) (lv' := fun x => [(2, .int x), (0, .ref (ad 37)), (1, .int x1)]) dX6_measure_141 rfl (Nat.le_of_ble_eq_true rfl) (fun _ => rfl) h (fun x2_7 h => ?_)
  refine k_sub [1, 2, 0] rfl ?_
  refine wlp_X6_measure_142 (cI := cI) (cB := cB) (cJ := cJ) (cZ := cZ) (ad := ad) E ?_ FU _ _ _ _ _ _ h
  · intro x1 m_wide m_begins m_started m_broken h
    refine k_sub [0, 1] rfl ?_
    exact wjn_X6_measure_276 (cI := cI) (cB := cB) (cJ := cJ) (cZ := cZ) (ad := ad) E hk7 _ _ _ _ _ h
set_option maxHeartbeats 4000000 in
set_option maxRecDepth 100000 in
theorem wjn_X6_measure_120 {l : Launch} {D : va_G} {cI cB cJ cZ : ClassId} {ad : Nat → Nat} {ws : va_W} {z : Nat} {m_thrown : Int32} {m_rules : Int32} {m_length : Int32} {m_tree : Int32} {m_tokens : Int32} {m_comments : Int32} {m_parts : Int32} {m_end : Int32} {m_open : Int32} {m_column : Int32} {m_printed : Int32} {m_repaired : Int32} {m_paid : Int32} {m_hint : Nat → Int32} {m_kept : Nat → Int32} {m_tokenAt : Nat → Int32} {m_tokenLength : Nat → Int32} {m_commentLength : Nat → Int32} {m_firstComment : Nat → Int32} {m_ruleOf : Nat → Int32} {m_symbolOf : Nat → Int32} {m_parent : Nat → Int32} {m_place : Nat → Int32} {m_from : Nat → Int32} {m_to : Nat → Int32} (E : ws[37]? = some (ad 37, .inr (6, [.int m_thrown, .int m_rules, .ref (ad 38), .ref (ad 39), .ref (ad 40), .ref (ad 41), .ref (ad 42), .int m_length, .ref (ad 43), .int m_tree, .ref (ad 44), .int m_tokens, .ref (ad 45), .ref (ad 46), .ref (ad 47), .int m_comments, .ref (ad 48), .ref (ad 49), .ref (ad 50), .ref (ad 51), .ref (ad 52), .ref (ad 53), .int m_parts, .ref (ad 54), .ref (ad 55), .ref (ad 56), .ref (ad 57), .ref (ad 58), .ref (ad 59), .ref (ad 60), .ref (ad 61), .int m_end, .int m_open, .ref (ad 62), .ref (ad 63), .ref (ad 64), .ref (ad 65), .ref (ad 66), .int m_column, .int m_printed, .ref (ad 67), .int m_repaired, .int m_paid])) ∧ ws[41]? = some (ad 41, .inl (cI, 100, .inl m_hint)) ∧ ws[44]? = some (ad 44, .inl (cI, 80, .inl m_kept)) ∧ ws[45]? = some (ad 45, .inl (cI, 17, .inl m_tokenAt)) ∧ ws[46]? = some (ad 46, .inl (cI, 17, .inl m_tokenLength)) ∧ ws[49]? = some (ad 49, .inl (cI, 41, .inl m_commentLength)) ∧ ws[50]? = some (ad 50, .inl (cI, 18, .inl m_firstComment)) ∧ ws[54]? = some (ad 54, .inl (cI, 150, .inl m_ruleOf)) ∧ ws[55]? = some (ad 55, .inl (cI, 150, .inl m_symbolOf)) ∧ ws[56]? = some (ad 56, .inl (cI, 150, .inl m_parent)) ∧ ws[57]? = some (ad 57, .inl (cI, 150, .inl m_place)) ∧ ws[58]? = some (ad 58, .inl (cI, 150, .inl m_from)) ∧ ws[59]? = some (ad 59, .inl (cI, 150, .inl m_to))) {o : (Nat → Int32) × (Nat → Int32) × (Nat → Int32) × (Nat → Int32)} {k7 : (Int32) → (Nat → Int32) → (Nat → Int32) → (Nat → Int32) → (Nat → Int32) → Option ((Nat → Int32) × (Nat → Int32) × (Nat → Int32) × (Nat → Int32))} (hk7 : ∀ (x1 : Int32) (m_wide : Nat → Int32) (m_begins : Nat → Int32) (m_started : Nat → Int32) (m_broken : Nat → Int32), k7 x1 m_wide m_begins m_started m_broken = some o → KW l xX6_measure D (kT cI cB cJ cZ) ws z (kQv D (kT cI cB cJ cZ) [(63, (ad 63, .inl (cI, 150, .inl o.1))), (64, (ad 64, .inl (cI, 150, .inl o.2.1))), (65, (ad 65, .inl (cZ, 150, .inl o.2.2.1))), (66, (ad 66, .inl (cZ, 150, .inl o.2.2.2)))] ws z) 7 [(0, .ref (ad 37)), (1, .int x1)] [] [(63, (ad 63, .inl (cI, 150, .inl m_wide))), (64, (ad 64, .inl (cI, 150, .inl m_begins))), (65, (ad 65, .inl (cZ, 150, .inl m_started))), (66, (ad 66, .inl (cZ, 150, .inl m_broken)))]) : ∀ (x1 : Int32) (x2 : Int32) (s1 : Int32) (s2 : Int32) (m_wide : Nat → Int32) (m_begins : Nat → Int32) (m_started : Nat → Int32) (m_broken : Nat → Int32), jn_X6_measure_120 m_parts m_hint m_kept m_tokenAt m_tokenLength m_commentLength m_firstComment m_ruleOf m_symbolOf m_parent m_place m_from m_to k7 x1 x2 s1 s2 m_wide m_begins m_started m_broken = some o → KW l xX6_measure D (kT cI cB cJ cZ) ws z (kQv D (kT cI cB cJ cZ) [(63, (ad 63, .inl (cI, 150, .inl o.1))), (64, (ad 64, .inl (cI, 150, .inl o.2.1))), (65, (ad 65, .inl (cZ, 150, .inl o.2.2.1))), (66, (ad 66, .inl (cZ, 150, .inl o.2.2.2)))] ws z) 120 [(0, .ref (ad 37)), (1, .int x1), (2, .int x2)] [.int s2, .int s1, .ref (ad 64)] [(63, (ad 63, .inl (cI, 150, .inl m_wide))), (64, (ad 64, .inl (cI, 150, .inl m_begins))), (65, (ad 65, .inl (cZ, 150, .inl m_started))), (66, (ad 66, .inl (cZ, 150, .inl m_broken)))] := by
  intro x1 x2 s1 s2 m_wide m_begins m_started m_broken h
  unfold jn_X6_measure_120 at h
  refine k_iast (L' := fun f => [(63, (ad 63, .inl (cI, 150, .inl m_wide))), (64, (ad 64, .inl (cI, 150, .inl f))), (65, (ad 65, .inl (cZ, 150, .inl m_started))), (66, (ad 66, .inl (cZ, 150, .inl m_broken)))]) 64 0 rfl rfl rfl dX6_measure_120 h (fun _ => rfl) (fun m_begins_34 h => ?_)
  refine k_aload_n dX6_measure_121 0 rfl rfl ?_
  refine k_get 37 34 E.1 rfl qX6_measure_wX6 (by decide) qX6_measure_f87 rfl dX6_measure_122 ?_
  refine k_iload_n dX6_measure_125 1 rfl rfl ?_
  refine k_aload_n dX6_measure_126 0 rfl rfl ?_
  refine k_iload_n dX6_measure_127 2 rfl rfl ?_
  refine k_aload_n dX6_measure_128 0 rfl rfl ?_
  refine k_get 37 28 E.1 rfl qX6_measure_wX6 (by decide) qX6_measure_f75 rfl dX6_measure_129 ?_
  refine k_iload_n dX6_measure_132 1 rfl rfl ?_
  refine k_iald 59 0 E.2.2.2.2.2.2.2.2.2.2.2.2 rfl dX6_measure_133 h (fun v35 h => ?_)
  obtain ⟨r36, hr36, h⟩ := Option.bind_eq_some_iff.mp h
  refine k_calliV (As := [.int x2, .int v35]) (st := [.int x1, .ref (ad 63)]) (Lc := []) (L' := [(63, (ad 63, .inl (cI, 150, .inl m_wide))), (64, (ad 64, .inl (cI, 150, .inl m_begins_34))), (65, (ad 65, .inl (cZ, 150, .inl m_started))), (66, (ad 66, .inl (cZ, 150, .inl m_broken)))]) (r := r36) gX6_measure_X6_width rfl rfl rfl hyVX6_width ⟨Nat.le_of_ble_eq_true rfl, Nat.le_of_ble_eq_true rfl⟩ rfl rfl (Nat.le_of_ble_eq_true rfl) 37 E.1 rfl dX6_measure_134 (fun w z hw => c_X6_width (cI := cI) (cB := cB) (cJ := cJ) (cZ := cZ) (ad := ad) w z ⟨((hw 37).trans E.1), ((hw 46).trans E.2.2.2.2.1), ((hw 49).trans E.2.2.2.2.2.1), ((hw 50).trans E.2.2.2.2.2.2.1)⟩  hr36) rfl rfl ?_
  refine k_iast (L' := fun f => [(63, (ad 63, .inl (cI, 150, .inl f))), (64, (ad 64, .inl (cI, 150, .inl m_begins_34))), (65, (ad 65, .inl (cZ, 150, .inl m_started))), (66, (ad 66, .inl (cZ, 150, .inl m_broken)))]) 63 0 rfl rfl rfl dX6_measure_137 h (fun _ => rfl) (fun m_wide_37 h => ?_)
  refine k_sub [0, 1] rfl ?_
  exact wjn_X6_measure_138 (cI := cI) (cB := cB) (cJ := cJ) (cZ := cZ) (ad := ad) E hk7 _ _ _ _ _ h
set_option maxHeartbeats 4000000 in
set_option maxRecDepth 100000 in
theorem wjn_X6_measure_94 {l : Launch} {D : va_G} {cI cB cJ cZ : ClassId} {ad : Nat → Nat} {ws : va_W} {z : Nat} {m_thrown : Int32} {m_rules : Int32} {m_length : Int32} {m_tree : Int32} {m_tokens : Int32} {m_comments : Int32} {m_parts : Int32} {m_end : Int32} {m_open : Int32} {m_column : Int32} {m_printed : Int32} {m_repaired : Int32} {m_paid : Int32} {m_hint : Nat → Int32} {m_kept : Nat → Int32} {m_tokenAt : Nat → Int32} {m_tokenLength : Nat → Int32} {m_commentLength : Nat → Int32} {m_firstComment : Nat → Int32} {m_ruleOf : Nat → Int32} {m_symbolOf : Nat → Int32} {m_parent : Nat → Int32} {m_place : Nat → Int32} {m_from : Nat → Int32} {m_to : Nat → Int32} (E : ws[37]? = some (ad 37, .inr (6, [.int m_thrown, .int m_rules, .ref (ad 38), .ref (ad 39), .ref (ad 40), .ref (ad 41), .ref (ad 42), .int m_length, .ref (ad 43), .int m_tree, .ref (ad 44), .int m_tokens, .ref (ad 45), .ref (ad 46), .ref (ad 47), .int m_comments, .ref (ad 48), .ref (ad 49), .ref (ad 50), .ref (ad 51), .ref (ad 52), .ref (ad 53), .int m_parts, .ref (ad 54), .ref (ad 55), .ref (ad 56), .ref (ad 57), .ref (ad 58), .ref (ad 59), .ref (ad 60), .ref (ad 61), .int m_end, .int m_open, .ref (ad 62), .ref (ad 63), .ref (ad 64), .ref (ad 65), .ref (ad 66), .int m_column, .int m_printed, .ref (ad 67), .int m_repaired, .int m_paid])) ∧ ws[41]? = some (ad 41, .inl (cI, 100, .inl m_hint)) ∧ ws[44]? = some (ad 44, .inl (cI, 80, .inl m_kept)) ∧ ws[45]? = some (ad 45, .inl (cI, 17, .inl m_tokenAt)) ∧ ws[46]? = some (ad 46, .inl (cI, 17, .inl m_tokenLength)) ∧ ws[49]? = some (ad 49, .inl (cI, 41, .inl m_commentLength)) ∧ ws[50]? = some (ad 50, .inl (cI, 18, .inl m_firstComment)) ∧ ws[54]? = some (ad 54, .inl (cI, 150, .inl m_ruleOf)) ∧ ws[55]? = some (ad 55, .inl (cI, 150, .inl m_symbolOf)) ∧ ws[56]? = some (ad 56, .inl (cI, 150, .inl m_parent)) ∧ ws[57]? = some (ad 57, .inl (cI, 150, .inl m_place)) ∧ ws[58]? = some (ad 58, .inl (cI, 150, .inl m_from)) ∧ ws[59]? = some (ad 59, .inl (cI, 150, .inl m_to))) {o : (Nat → Int32) × (Nat → Int32) × (Nat → Int32) × (Nat → Int32)} {k7 : (Int32) → (Nat → Int32) → (Nat → Int32) → (Nat → Int32) → (Nat → Int32) → Option ((Nat → Int32) × (Nat → Int32) × (Nat → Int32) × (Nat → Int32))} (hk7 : ∀ (x1 : Int32) (m_wide : Nat → Int32) (m_begins : Nat → Int32) (m_started : Nat → Int32) (m_broken : Nat → Int32), k7 x1 m_wide m_begins m_started m_broken = some o → KW l xX6_measure D (kT cI cB cJ cZ) ws z (kQv D (kT cI cB cJ cZ) [(63, (ad 63, .inl (cI, 150, .inl o.1))), (64, (ad 64, .inl (cI, 150, .inl o.2.1))), (65, (ad 65, .inl (cZ, 150, .inl o.2.2.1))), (66, (ad 66, .inl (cZ, 150, .inl o.2.2.2)))] ws z) 7 [(0, .ref (ad 37)), (1, .int x1)] [] [(63, (ad 63, .inl (cI, 150, .inl m_wide))), (64, (ad 64, .inl (cI, 150, .inl m_begins))), (65, (ad 65, .inl (cZ, 150, .inl m_started))), (66, (ad 66, .inl (cZ, 150, .inl m_broken)))]) : ∀ (x1 : Int32) (x2 : Int32) (s0 : Int32) (m_wide : Nat → Int32) (m_begins : Nat → Int32) (m_started : Nat → Int32) (m_broken : Nat → Int32), jn_X6_measure_94 m_parts m_hint m_kept m_tokenAt m_tokenLength m_commentLength m_firstComment m_ruleOf m_symbolOf m_parent m_place m_from m_to k7 x1 x2 s0 m_wide m_begins m_started m_broken = some o → KW l xX6_measure D (kT cI cB cJ cZ) ws z (kQv D (kT cI cB cJ cZ) [(63, (ad 63, .inl (cI, 150, .inl o.1))), (64, (ad 64, .inl (cI, 150, .inl o.2.1))), (65, (ad 65, .inl (cZ, 150, .inl o.2.2.1))), (66, (ad 66, .inl (cZ, 150, .inl o.2.2.2)))] ws z) 94 [(0, .ref (ad 37)), (1, .int x1), (2, .int x2)] [.int s0] [(63, (ad 63, .inl (cI, 150, .inl m_wide))), (64, (ad 64, .inl (cI, 150, .inl m_begins))), (65, (ad 65, .inl (cZ, 150, .inl m_started))), (66, (ad 66, .inl (cZ, 150, .inl m_broken)))] := by
  intro x1 x2 s0 m_wide m_begins m_started m_broken h
  unfold jn_X6_measure_94 at h
  refine k_istore_n (i := 3) (lv' := fun x => [(3, .int x), (0, .ref (ad 37)), (1, .int x1), (2, .int x2)]) dX6_measure_94 rfl (Nat.le_of_ble_eq_true rfl) (fun _ => rfl) h (fun x3_31 h => ?_)
  refine k_aload_n dX6_measure_95 1 rfl rfl ?_
  refine k_get 37 35 E.1 rfl qX6_measure_wX6 (by decide) qX6_measure_f90 rfl dX6_measure_96 ?_
  refine k_iload_n dX6_measure_99 2 rfl rfl ?_
  refine k_iload_n dX6_measure_100 0 rfl rfl ?_
  refine k_if_eq 109 dX6_measure_101 (by decide) h (fun h => ?_) (fun h => ?_)
  · skip
    refine k_aload_n dX6_measure_109 1 rfl rfl ?_
    refine k_get 37 10 E.1 rfl qX6_measure_wX6 (by decide) qX6_measure_f29 rfl dX6_measure_110 ?_
    refine k_aload_n dX6_measure_113 1 rfl rfl ?_
    refine k_get 37 12 E.1 rfl qX6_measure_wX6 (by decide) qX6_measure_f32 rfl dX6_measure_114 ?_
    refine k_iload_n dX6_measure_117 3 rfl rfl ?_
    refine k_iald 45 0 E.2.2.2.1 rfl dX6_measure_118 h (fun v32 h => ?_)
    refine k_iald 44 0 E.2.2.1 rfl dX6_measure_119 h (fun v33 h => ?_)
    refine k_sub [1, 2, 3] rfl ?_
    exact wjn_X6_measure_120 (cI := cI) (cB := cB) (cJ := cJ) (cZ := cZ) (ad := ad) E hk7 _ _ _ _ _ _ _ _ h
  · skip
    refine k_bipush (v := 123) dX6_measure_104 (by decide) ?_
    refine k_goto 120 dX6_measure_106 (by decide) ?_
    refine k_sub [1, 2, 3] rfl ?_
    exact wjn_X6_measure_120 (cI := cI) (cB := cB) (cJ := cJ) (cZ := cZ) (ad := ad) E hk7 _ _ _ _ _ _ _ _ h
set_option maxHeartbeats 4000000 in
set_option maxRecDepth 100000 in
theorem wlp_X6_measure_7 {l : Launch} {D : va_G} {cI cB cJ cZ : ClassId} {ad : Nat → Nat} {ws : va_W} {z : Nat} {m_thrown : Int32} {m_rules : Int32} {m_length : Int32} {m_tree : Int32} {m_tokens : Int32} {m_comments : Int32} {m_parts : Int32} {m_end : Int32} {m_open : Int32} {m_column : Int32} {m_printed : Int32} {m_repaired : Int32} {m_paid : Int32} {m_hint : Nat → Int32} {m_kept : Nat → Int32} {m_tokenAt : Nat → Int32} {m_tokenLength : Nat → Int32} {m_commentLength : Nat → Int32} {m_firstComment : Nat → Int32} {m_ruleOf : Nat → Int32} {m_symbolOf : Nat → Int32} {m_parent : Nat → Int32} {m_place : Nat → Int32} {m_from : Nat → Int32} {m_to : Nat → Int32} (E : ws[37]? = some (ad 37, .inr (6, [.int m_thrown, .int m_rules, .ref (ad 38), .ref (ad 39), .ref (ad 40), .ref (ad 41), .ref (ad 42), .int m_length, .ref (ad 43), .int m_tree, .ref (ad 44), .int m_tokens, .ref (ad 45), .ref (ad 46), .ref (ad 47), .int m_comments, .ref (ad 48), .ref (ad 49), .ref (ad 50), .ref (ad 51), .ref (ad 52), .ref (ad 53), .int m_parts, .ref (ad 54), .ref (ad 55), .ref (ad 56), .ref (ad 57), .ref (ad 58), .ref (ad 59), .ref (ad 60), .ref (ad 61), .int m_end, .int m_open, .ref (ad 62), .ref (ad 63), .ref (ad 64), .ref (ad 65), .ref (ad 66), .int m_column, .int m_printed, .ref (ad 67), .int m_repaired, .int m_paid])) ∧ ws[41]? = some (ad 41, .inl (cI, 100, .inl m_hint)) ∧ ws[44]? = some (ad 44, .inl (cI, 80, .inl m_kept)) ∧ ws[45]? = some (ad 45, .inl (cI, 17, .inl m_tokenAt)) ∧ ws[46]? = some (ad 46, .inl (cI, 17, .inl m_tokenLength)) ∧ ws[49]? = some (ad 49, .inl (cI, 41, .inl m_commentLength)) ∧ ws[50]? = some (ad 50, .inl (cI, 18, .inl m_firstComment)) ∧ ws[54]? = some (ad 54, .inl (cI, 150, .inl m_ruleOf)) ∧ ws[55]? = some (ad 55, .inl (cI, 150, .inl m_symbolOf)) ∧ ws[56]? = some (ad 56, .inl (cI, 150, .inl m_parent)) ∧ ws[57]? = some (ad 57, .inl (cI, 150, .inl m_place)) ∧ ws[58]? = some (ad 58, .inl (cI, 150, .inl m_from)) ∧ ws[59]? = some (ad 59, .inl (cI, 150, .inl m_to))) {o : (Nat → Int32) × (Nat → Int32) × (Nat → Int32) × (Nat → Int32)} {k282 : (Nat → Int32) → (Nat → Int32) → (Nat → Int32) → (Nat → Int32) → Option ((Nat → Int32) × (Nat → Int32) × (Nat → Int32) × (Nat → Int32))} (hk282 : ∀ (m_wide : Nat → Int32) (m_begins : Nat → Int32) (m_started : Nat → Int32) (m_broken : Nat → Int32), k282 m_wide m_begins m_started m_broken = some o → KW l xX6_measure D (kT cI cB cJ cZ) ws z (kQv D (kT cI cB cJ cZ) [(63, (ad 63, .inl (cI, 150, .inl o.1))), (64, (ad 64, .inl (cI, 150, .inl o.2.1))), (65, (ad 65, .inl (cZ, 150, .inl o.2.2.1))), (66, (ad 66, .inl (cZ, 150, .inl o.2.2.2)))] ws z) 282 [] [] [(63, (ad 63, .inl (cI, 150, .inl m_wide))), (64, (ad 64, .inl (cI, 150, .inl m_begins))), (65, (ad 65, .inl (cZ, 150, .inl m_started))), (66, (ad 66, .inl (cZ, 150, .inl m_broken)))]) : ∀ (n : Nat) (x1 : Int32) (m_wide : Nat → Int32) (m_begins : Nat → Int32) (m_started : Nat → Int32) (m_broken : Nat → Int32), lp_X6_measure_7 m_parts m_hint m_kept m_tokenAt m_tokenLength m_commentLength m_firstComment m_ruleOf m_symbolOf m_parent m_place m_from m_to k282 n x1 m_wide m_begins m_started m_broken = some o → KW l xX6_measure D (kT cI cB cJ cZ) ws z (kQv D (kT cI cB cJ cZ) [(63, (ad 63, .inl (cI, 150, .inl o.1))), (64, (ad 64, .inl (cI, 150, .inl o.2.1))), (65, (ad 65, .inl (cZ, 150, .inl o.2.2.1))), (66, (ad 66, .inl (cZ, 150, .inl o.2.2.2)))] ws z) 7 [(0, .ref (ad 37)), (1, .int x1)] [] [(63, (ad 63, .inl (cI, 150, .inl m_wide))), (64, (ad 64, .inl (cI, 150, .inl m_begins))), (65, (ad 65, .inl (cZ, 150, .inl m_started))), (66, (ad 66, .inl (cZ, 150, .inl m_broken)))] := by
  intro n
  induction n with
  | zero => intro x1 m_wide m_begins m_started m_broken h; exact absurd h (by simp [lp_X6_measure_7])
  | succ n hk7 =>
    intro x1 m_wide m_begins m_started m_broken h
    unfold lp_X6_measure_7 at h
    refine k_iload_n dX6_measure_7 1 rfl rfl ?_
    refine k_if_lt 282 dX6_measure_8 (by decide) h (fun h => ?_) (fun h => ?_)
    · skip
      refine k_sub [] rfl ?_
      exact hk282 _ _ _ _ h
    · skip
      refine k_aload_n dX6_measure_11 0 rfl rfl ?_
      refine k_get 37 36 E.1 rfl qX6_measure_wX6 (by decide) qX6_measure_f93 rfl dX6_measure_12 ?_
      refine k_iload_n dX6_measure_15 1 rfl rfl ?_
      refine k_iconst (v := 0) dX6_measure_16 (by decide) ?_
      refine k_zast (L' := fun f => [(63, (ad 63, .inl (cI, 150, .inl m_wide))), (64, (ad 64, .inl (cI, 150, .inl m_begins))), (65, (ad 65, .inl (cZ, 150, .inl f))), (66, (ad 66, .inl (cZ, 150, .inl m_broken)))]) 65 3 rfl rfl rfl dX6_measure_17 h (fun _ => rfl) (fun m_started_2 h => ?_)
      refine k_aload_n dX6_measure_18 0 rfl rfl ?_
      refine k_get 37 37 E.1 rfl qX6_measure_wX6 (by decide) qX6_measure_f96 rfl dX6_measure_19 ?_
      refine k_iload_n dX6_measure_22 1 rfl rfl ?_
      refine k_iconst (v := 0) dX6_measure_23 (by decide) ?_
      refine k_zast (L' := fun f => [(63, (ad 63, .inl (cI, 150, .inl m_wide))), (64, (ad 64, .inl (cI, 150, .inl m_begins))), (65, (ad 65, .inl (cZ, 150, .inl m_started_2))), (66, (ad 66, .inl (cZ, 150, .inl f)))]) 66 3 rfl rfl rfl dX6_measure_24 h (fun _ => rfl) (fun m_broken_3 h => ?_)
      refine k_aload_n dX6_measure_25 0 rfl rfl ?_
      refine k_get 37 35 E.1 rfl qX6_measure_wX6 (by decide) qX6_measure_f90 rfl dX6_measure_26 ?_
      refine k_iload_n dX6_measure_29 1 rfl rfl ?_
      refine k_iconst (v := (-1)) dX6_measure_30 (by decide) ?_
      refine k_iast (L' := fun f => [(63, (ad 63, .inl (cI, 150, .inl m_wide))), (64, (ad 64, .inl (cI, 150, .inl f))), (65, (ad 65, .inl (cZ, 150, .inl m_started_2))), (66, (ad 66, .inl (cZ, 150, .inl m_broken_3)))]) 64 0 rfl rfl rfl dX6_measure_31 h (fun _ => rfl) (fun m_begins_4 h => ?_)
      refine k_aload_n dX6_measure_32 0 rfl rfl ?_
      refine k_get 37 34 E.1 rfl qX6_measure_wX6 (by decide) qX6_measure_f87 rfl dX6_measure_33 ?_
      refine k_iload_n dX6_measure_36 1 rfl rfl ?_
      refine k_iconst (v := 0) dX6_measure_37 (by decide) ?_
      refine k_iast (L' := fun f => [(63, (ad 63, .inl (cI, 150, .inl f))), (64, (ad 64, .inl (cI, 150, .inl m_begins_4))), (65, (ad 65, .inl (cZ, 150, .inl m_started_2))), (66, (ad 66, .inl (cZ, 150, .inl m_broken_3)))]) 63 0 rfl rfl rfl dX6_measure_38 h (fun _ => rfl) (fun m_wide_5 h => ?_)
      refine k_aload_n dX6_measure_39 0 rfl rfl ?_
      refine k_get 37 24 E.1 rfl qX6_measure_wX6 (by decide) qX6_measure_f63 rfl dX6_measure_40 ?_
      refine k_iload_n dX6_measure_43 1 rfl rfl ?_
      refine k_iald 55 0 E.2.2.2.2.2.2.2.2.1 rfl dX6_measure_44 h (fun v6 h => ?_)
      refine k_bipush (v := 9) dX6_measure_45 (by decide) ?_
      refine k_icmp_ge 138 dX6_measure_47 (by decide) h (fun h => ?_) (fun h => ?_)
      · skip
        refine k_sub [0, 1] rfl ?_
        exact wjn_X6_measure_138 (cI := cI) (cB := cB) (cJ := cJ) (cZ := cZ) (ad := ad) E hk7 _ _ _ _ _ h
      · skip
        refine k_aload_n dX6_measure_50 0 rfl rfl ?_
        refine k_get 37 28 E.1 rfl qX6_measure_wX6 (by decide) qX6_measure_f75 rfl dX6_measure_51 ?_
        refine k_iload_n dX6_measure_54 1 rfl rfl ?_
        refine k_iald 59 0 E.2.2.2.2.2.2.2.2.2.2.2.2 rfl dX6_measure_55 h (fun v25 h => ?_)
        refine k_aload_n dX6_measure_56 0 rfl rfl ?_
        refine k_get 37 27 E.1 rfl qX6_measure_wX6 (by decide) qX6_measure_f72 rfl dX6_measure_57 ?_
        refine k_iload_n dX6_measure_60 1 rfl rfl ?_
        refine k_iald 58 0 E.2.2.2.2.2.2.2.2.2.2.2.1 rfl dX6_measure_61 h (fun v26 h => ?_)
        refine k_icmp_le 138 dX6_measure_62 (by decide) h (fun h => ?_) (fun h => ?_)
        · skip
          refine k_sub [0, 1] rfl ?_
          exact wjn_X6_measure_138 (cI := cI) (cB := cB) (cJ := cJ) (cZ := cZ) (ad := ad) E hk7 _ _ _ _ _ h
        · skip
          refine k_aload_n dX6_measure_65 0 rfl rfl ?_
          refine k_get 37 27 E.1 rfl qX6_measure_wX6 (by decide) qX6_measure_f72 rfl dX6_measure_66 ?_
          refine k_iload_n dX6_measure_69 1 rfl rfl ?_
          refine k_iald 58 0 E.2.2.2.2.2.2.2.2.2.2.2.1 rfl dX6_measure_70 h (fun v27 h => ?_)
          refine k_istore_n (i := 2) (lv' := fun x => [(2, .int x), (0, .ref (ad 37)), (1, .int x1)]) dX6_measure_71 rfl (Nat.le_of_ble_eq_true rfl) (fun _ => rfl) h (fun x2_28 h => ?_)
          refine k_aload_n dX6_measure_72 1 rfl rfl ?_
          refine k_get 37 18 E.1 rfl qX6_measure_wX6 (by decide) qX6_measure_f47 rfl dX6_measure_73 ?_
          refine k_iload_n dX6_measure_76 0 rfl rfl ?_
          refine k_iald 50 0 E.2.2.2.2.2.2.1 rfl dX6_measure_77 h (fun v29 h => ?_)
          refine k_aload_n dX6_measure_78 1 rfl rfl ?_
          refine k_get 37 18 E.1 rfl qX6_measure_wX6 (by decide) qX6_measure_f47 rfl dX6_measure_79 ?_
          refine k_iload_n dX6_measure_82 0 rfl rfl ?_
          refine k_iconst (v := 1) dX6_measure_83 (by decide) ?_
          refine k_iadd dX6_measure_84 ?_
          refine k_iald 50 0 E.2.2.2.2.2.2.1 rfl dX6_measure_85 h (fun v30 h => ?_)
          refine k_icmp_ge 93 dX6_measure_86 (by decide) h (fun h => ?_) (fun h => ?_)
          · skip
            refine k_iconst (v := 0) dX6_measure_93 (by decide) ?_
            refine k_sub [1, 2, 0] rfl ?_
            exact wjn_X6_measure_94 (cI := cI) (cB := cB) (cJ := cJ) (cZ := cZ) (ad := ad) E hk7 _ _ _ _ _ _ _ h
          · skip
            refine k_iconst (v := 1) dX6_measure_89 (by decide) ?_
            refine k_goto 94 dX6_measure_90 (by decide) ?_
            refine k_sub [1, 2, 0] rfl ?_
            exact wjn_X6_measure_94 (cI := cI) (cB := cB) (cJ := cJ) (cZ := cZ) (ad := ad) E hk7 _ _ _ _ _ _ _ h
set_option maxHeartbeats 4000000 in
set_option maxRecDepth 100000 in
/-- KindParserModel.measure -/
theorem c_X6_measure {l : Launch} {D : va_G} {cI cB cJ cZ : ClassId} {ad : Nat → Nat} (ws : va_W) (z : Nat) {m_thrown : Int32} {m_rules : Int32} {m_length : Int32} {m_tree : Int32} {m_tokens : Int32} {m_comments : Int32} {m_parts : Int32} {m_end : Int32} {m_open : Int32} {m_column : Int32} {m_printed : Int32} {m_repaired : Int32} {m_paid : Int32} {m_hint : Nat → Int32} {m_kept : Nat → Int32} {m_tokenAt : Nat → Int32} {m_tokenLength : Nat → Int32} {m_commentLength : Nat → Int32} {m_firstComment : Nat → Int32} {m_ruleOf : Nat → Int32} {m_symbolOf : Nat → Int32} {m_parent : Nat → Int32} {m_place : Nat → Int32} {m_from : Nat → Int32} {m_to : Nat → Int32} {m_wide : Nat → Int32} {m_begins : Nat → Int32} {m_started : Nat → Int32} {m_broken : Nat → Int32} (E : ws[37]? = some (ad 37, .inr (6, [.int m_thrown, .int m_rules, .ref (ad 38), .ref (ad 39), .ref (ad 40), .ref (ad 41), .ref (ad 42), .int m_length, .ref (ad 43), .int m_tree, .ref (ad 44), .int m_tokens, .ref (ad 45), .ref (ad 46), .ref (ad 47), .int m_comments, .ref (ad 48), .ref (ad 49), .ref (ad 50), .ref (ad 51), .ref (ad 52), .ref (ad 53), .int m_parts, .ref (ad 54), .ref (ad 55), .ref (ad 56), .ref (ad 57), .ref (ad 58), .ref (ad 59), .ref (ad 60), .ref (ad 61), .int m_end, .int m_open, .ref (ad 62), .ref (ad 63), .ref (ad 64), .ref (ad 65), .ref (ad 66), .int m_column, .int m_printed, .ref (ad 67), .int m_repaired, .int m_paid])) ∧ ws[41]? = some (ad 41, .inl (cI, 100, .inl m_hint)) ∧ ws[44]? = some (ad 44, .inl (cI, 80, .inl m_kept)) ∧ ws[45]? = some (ad 45, .inl (cI, 17, .inl m_tokenAt)) ∧ ws[46]? = some (ad 46, .inl (cI, 17, .inl m_tokenLength)) ∧ ws[49]? = some (ad 49, .inl (cI, 41, .inl m_commentLength)) ∧ ws[50]? = some (ad 50, .inl (cI, 18, .inl m_firstComment)) ∧ ws[54]? = some (ad 54, .inl (cI, 150, .inl m_ruleOf)) ∧ ws[55]? = some (ad 55, .inl (cI, 150, .inl m_symbolOf)) ∧ ws[56]? = some (ad 56, .inl (cI, 150, .inl m_parent)) ∧ ws[57]? = some (ad 57, .inl (cI, 150, .inl m_place)) ∧ ws[58]? = some (ad 58, .inl (cI, 150, .inl m_from)) ∧ ws[59]? = some (ad 59, .inl (cI, 150, .inl m_to))) (e63 : ws[63]? = some (ad 63, .inl (cI, 150, .inl m_wide))) (e64 : ws[64]? = some (ad 64, .inl (cI, 150, .inl m_begins))) (e65 : ws[65]? = some (ad 65, .inl (cZ, 150, .inl m_started))) (e66 : ws[66]? = some (ad 66, .inl (cZ, 150, .inl m_broken)))  {o : (Nat → Int32) × (Nat → Int32) × (Nat → Int32) × (Nat → Int32)} (h : f_X6_measure m_parts m_hint m_kept m_tokenAt m_tokenLength m_commentLength m_firstComment m_ruleOf m_symbolOf m_parent m_place m_from m_to m_wide m_begins m_started m_broken = some o) : Met l yX6_measure wsX6_measure rmX6_measure (kPc D (kT cI cB cJ cZ) [.ref (ad 37)] ws z) (kQv D (kT cI cB cJ cZ) [(63, (ad 63, .inl (cI, 150, .inl o.1))), (64, (ad 64, .inl (cI, 150, .inl o.2.1))), (65, (ad 65, .inl (cZ, 150, .inl o.2.2.1))), (66, (ad 66, .inl (cZ, 150, .inl o.2.2.2)))] ws z) 0 0 (va_A ws z) := by
  refine KW.met (rm := rmX6_measure) (lv := [(0, .ref (ad 37))]) (L := [(63, (ad 63, .inl (cI, 150, .inl m_wide))), (64, (ad 64, .inl (cI, 150, .inl m_begins))), (65, (ad 65, .inl (cZ, 150, .inl m_started))), (66, (ad 66, .inl (cZ, 150, .inl m_broken)))]) rfl (by decide) (Nat.le_of_ble_eq_true rfl) rfl (by intro q hq; simp only [List.mem_cons, List.not_mem_nil, or_false] at hq; rcases hq with rfl | rfl | rfl | rfl <;> assumption) ?_
  unfold f_X6_measure at h
  show KW l xX6_measure D (kT cI cB cJ cZ) ws z (kQv D (kT cI cB cJ cZ) [(63, (ad 63, .inl (cI, 150, .inl o.1))), (64, (ad 64, .inl (cI, 150, .inl o.2.1))), (65, (ad 65, .inl (cZ, 150, .inl o.2.2.1))), (66, (ad 66, .inl (cZ, 150, .inl o.2.2.2)))] ws z) 0 [(0, .ref (ad 37))] [] [(63, (ad 63, .inl (cI, 150, .inl m_wide))), (64, (ad 64, .inl (cI, 150, .inl m_begins))), (65, (ad 65, .inl (cZ, 150, .inl m_started))), (66, (ad 66, .inl (cZ, 150, .inl m_broken)))]
  refine k_aload_n dX6_measure_0 0 rfl rfl ?_
  refine k_get 37 22 E.1 rfl qX6_measure_wX6 (by decide) qX6_measure_f157 rfl dX6_measure_1 ?_
  refine k_iconst (v := 1) dX6_measure_4 (by decide) ?_
  refine k_isub dX6_measure_5 ?_
  refine k_istore_n (i := 1) (lv' := fun x => [(1, .int x), (0, .ref (ad 37))]) dX6_measure_6 rfl (Nat.le_of_ble_eq_true rfl) (fun _ => rfl) h (fun x1_1 h => ?_)
  refine k_sub [1, 0] rfl ?_
  refine wlp_X6_measure_7 (cI := cI) (cB := cB) (cJ := cJ) (cZ := cZ) (ad := ad) E ?_ FU _ _ _ _ _ h
  · intro m_wide m_begins m_started m_broken h
    obtain rfl := Option.some.inj h
    exact k_vret rfl dX6_measure_282
abbrev rmX6_joint : Room := { frames := 0, cells := 0, slots := 0, locals := 0 }
abbrev xX6_joint : KX := (rmX6_joint, cX6_joint, 3, some .int, RX6, wsX6_joint)
theorem hySX6_joint : yX6_joint.cls ≠ "java/lang/invoke/MethodHandle" ∧ yX6_joint.cls ≠ "java/lang/invoke/VarHandle" ∧ (parseMethodDescriptor yX6_joint.desc).map (fun d => d.parameters.length) = some 1 := by decide +kernel
theorem hyVX6_joint : yX6_joint.cls = RX6 ∧ yX6_joint.cls ≠ "java/lang/invoke/MethodHandle" ∧ yX6_joint.cls ≠ "java/lang/invoke/VarHandle" ∧ (parseMethodDescriptor yX6_joint.desc).map (fun d => d.parameters.length) = some 1 := ⟨rfl, hySX6_joint⟩
theorem qX6_joint_wX6 : ∀ w ∈ u_ws RX6 TX6 43, w ∈ wsX6_joint := by decide +kernel
theorem qX6_joint_f66 : Cond.fieldLink RX6 66 "KindParserModel" "parent" "[I" ∈ wsX6_joint := by decide +kernel
theorem qX6_joint_f93 : Cond.fieldLink RX6 93 "KindParserModel" "started" "[Z" ∈ wsX6_joint := by decide +kernel
set_option maxHeartbeats 4000000 in
set_option maxRecDepth 100000 in
theorem wlp_X6_joint_2 {l : Launch} {D : va_G} {cI cB cJ cZ : ClassId} {ad : Nat → Nat} {ws : va_W} {z : Nat} {m_thrown : Int32} {m_rules : Int32} {m_length : Int32} {m_tree : Int32} {m_tokens : Int32} {m_comments : Int32} {m_parts : Int32} {m_end : Int32} {m_open : Int32} {m_column : Int32} {m_printed : Int32} {m_repaired : Int32} {m_paid : Int32} {m_parent : Nat → Int32} {m_started : Nat → Int32} (E : ws[37]? = some (ad 37, .inr (6, [.int m_thrown, .int m_rules, .ref (ad 38), .ref (ad 39), .ref (ad 40), .ref (ad 41), .ref (ad 42), .int m_length, .ref (ad 43), .int m_tree, .ref (ad 44), .int m_tokens, .ref (ad 45), .ref (ad 46), .ref (ad 47), .int m_comments, .ref (ad 48), .ref (ad 49), .ref (ad 50), .ref (ad 51), .ref (ad 52), .ref (ad 53), .int m_parts, .ref (ad 54), .ref (ad 55), .ref (ad 56), .ref (ad 57), .ref (ad 58), .ref (ad 59), .ref (ad 60), .ref (ad 61), .int m_end, .int m_open, .ref (ad 62), .ref (ad 63), .ref (ad 64), .ref (ad 65), .ref (ad 66), .int m_column, .int m_printed, .ref (ad 67), .int m_repaired, .int m_paid])) ∧ ws[56]? = some (ad 56, .inl (cI, 150, .inl m_parent)) ∧ ws[65]? = some (ad 65, .inl (cZ, 150, .inl m_started))) {o : Int32} {k35 : (Int32) → Option (Int32)} (hk35 : ∀ (x2 : Int32), k35 x2 = some o → KW l xX6_joint D (kT cI cB cJ cZ) ws z (kQi D (kT cI cB cJ cZ) o [] ws z) 35 [(2, .int x2)] [] []) : ∀ (n : Nat) (x2 : Int32), lp_X6_joint_2 m_parent m_started k35 n x2 = some o → KW l xX6_joint D (kT cI cB cJ cZ) ws z (kQi D (kT cI cB cJ cZ) o [] ws z) 2 [(0, .ref (ad 37)), (2, .int x2)] [] [] := by
  intro n
  induction n with
  | zero => intro x2 h; exact absurd h (by simp [lp_X6_joint_2])
  | succ n hk2 =>
    intro x2 h
    unfold lp_X6_joint_2 at h
    refine k_aload_n dX6_joint_2 0 rfl rfl ?_
    refine k_get 37 25 E.1 rfl qX6_joint_wX6 (by decide) qX6_joint_f66 rfl dX6_joint_3 ?_
    refine k_iload_n dX6_joint_6 1 rfl rfl ?_
    refine k_iald 56 0 E.2.1 rfl dX6_joint_7 h (fun v2 h => ?_)
    refine k_if_lt 35 dX6_joint_8 (by decide) h (fun h => ?_) (fun h => ?_)
    · skip
      refine k_sub [1] rfl ?_
      exact hk35 _ h
    · skip
      refine k_aload_n dX6_joint_11 0 rfl rfl ?_
      refine k_get 37 36 E.1 rfl qX6_joint_wX6 (by decide) qX6_joint_f93 rfl dX6_joint_12 ?_
      refine k_aload_n dX6_joint_15 0 rfl rfl ?_
      refine k_get 37 25 E.1 rfl qX6_joint_wX6 (by decide) qX6_joint_f66 rfl dX6_joint_16 ?_
      refine k_iload_n dX6_joint_19 1 rfl rfl ?_
      refine k_iald 56 0 E.2.1 rfl dX6_joint_20 h (fun v3 h => ?_)
      refine k_zald 65 3 E.2.2 rfl dX6_joint_21 h (fun v4 h => ?_)
      refine k_if_ne 35 dX6_joint_22 (by decide) h (fun h => ?_) (fun h => ?_)
      · skip
        refine k_aload_n dX6_joint_25 0 rfl rfl ?_
        refine k_get 37 25 E.1 rfl qX6_joint_wX6 (by decide) qX6_joint_f66 rfl dX6_joint_26 ?_
        refine k_iload_n dX6_joint_29 1 rfl rfl ?_
        refine k_iald 56 0 E.2.1 rfl dX6_joint_30 h (fun v5 h => ?_)
        refine k_istore_n (i := 2) (lv' := fun x => [(2, .int x), (0, .ref (ad 37))]) dX6_joint_31 rfl (Nat.le_of_ble_eq_true rfl) (fun _ => rfl) h (fun x2_6 h => ?_)
        refine k_goto 2 dX6_joint_32 (by decide) ?_
        refine k_sub [1, 0] rfl ?_
        exact hk2 _ h
      · skip
        refine k_sub [1] rfl ?_
        exact hk35 _ h
set_option maxHeartbeats 4000000 in
set_option maxRecDepth 100000 in
theorem wjn_X6_joint_35 {l : Launch} {D : va_G} {cI cB cJ cZ : ClassId} {ad : Nat → Nat} {ws : va_W} {z : Nat} {m_thrown : Int32} {m_rules : Int32} {m_length : Int32} {m_tree : Int32} {m_tokens : Int32} {m_comments : Int32} {m_parts : Int32} {m_end : Int32} {m_open : Int32} {m_column : Int32} {m_printed : Int32} {m_repaired : Int32} {m_paid : Int32} {m_parent : Nat → Int32} {m_started : Nat → Int32} (E : ws[37]? = some (ad 37, .inr (6, [.int m_thrown, .int m_rules, .ref (ad 38), .ref (ad 39), .ref (ad 40), .ref (ad 41), .ref (ad 42), .int m_length, .ref (ad 43), .int m_tree, .ref (ad 44), .int m_tokens, .ref (ad 45), .ref (ad 46), .ref (ad 47), .int m_comments, .ref (ad 48), .ref (ad 49), .ref (ad 50), .ref (ad 51), .ref (ad 52), .ref (ad 53), .int m_parts, .ref (ad 54), .ref (ad 55), .ref (ad 56), .ref (ad 57), .ref (ad 58), .ref (ad 59), .ref (ad 60), .ref (ad 61), .int m_end, .int m_open, .ref (ad 62), .ref (ad 63), .ref (ad 64), .ref (ad 65), .ref (ad 66), .int m_column, .int m_printed, .ref (ad 67), .int m_repaired, .int m_paid])) ∧ ws[56]? = some (ad 56, .inl (cI, 150, .inl m_parent)) ∧ ws[65]? = some (ad 65, .inl (cZ, 150, .inl m_started))) {o : Int32}   : ∀ (x2 : Int32), jn_X6_joint_35 m_parent m_started x2 = some o → KW l xX6_joint D (kT cI cB cJ cZ) ws z (kQi D (kT cI cB cJ cZ) o [] ws z) 35 [(2, .int x2)] [] [] := by
  intro x2 h
  unfold jn_X6_joint_35 at h
  refine k_iload_n dX6_joint_35 0 rfl rfl ?_
  obtain rfl := Option.some.inj h
  exact k_iret rfl dX6_joint_36
set_option maxHeartbeats 4000000 in
set_option maxRecDepth 100000 in
/-- KindParserModel.joint -/
theorem c_X6_joint {l : Launch} {D : va_G} {cI cB cJ cZ : ClassId} {ad : Nat → Nat} (ws : va_W) (z : Nat) {m_thrown : Int32} {m_rules : Int32} {m_length : Int32} {m_tree : Int32} {m_tokens : Int32} {m_comments : Int32} {m_parts : Int32} {m_end : Int32} {m_open : Int32} {m_column : Int32} {m_printed : Int32} {m_repaired : Int32} {m_paid : Int32} {m_parent : Nat → Int32} {m_started : Nat → Int32} (E : ws[37]? = some (ad 37, .inr (6, [.int m_thrown, .int m_rules, .ref (ad 38), .ref (ad 39), .ref (ad 40), .ref (ad 41), .ref (ad 42), .int m_length, .ref (ad 43), .int m_tree, .ref (ad 44), .int m_tokens, .ref (ad 45), .ref (ad 46), .ref (ad 47), .int m_comments, .ref (ad 48), .ref (ad 49), .ref (ad 50), .ref (ad 51), .ref (ad 52), .ref (ad 53), .int m_parts, .ref (ad 54), .ref (ad 55), .ref (ad 56), .ref (ad 57), .ref (ad 58), .ref (ad 59), .ref (ad 60), .ref (ad 61), .int m_end, .int m_open, .ref (ad 62), .ref (ad 63), .ref (ad 64), .ref (ad 65), .ref (ad 66), .int m_column, .int m_printed, .ref (ad 67), .int m_repaired, .int m_paid])) ∧ ws[56]? = some (ad 56, .inl (cI, 150, .inl m_parent)) ∧ ws[65]? = some (ad 65, .inl (cZ, 150, .inl m_started)))  {a1 : Int32} {o : Int32} (h : f_X6_joint a1 m_parent m_started = some o) : Met l yX6_joint wsX6_joint rmX6_joint (kPc D (kT cI cB cJ cZ) [.ref (ad 37), .int a1] ws z) (kQi D (kT cI cB cJ cZ) o [] ws z) 0 0 (va_A ws z) := by
  refine KW.met (rm := rmX6_joint) (lv := [(0, .ref (ad 37)), (1, .int a1)]) (L := []) rfl (by decide) (Nat.le_of_ble_eq_true rfl) rfl (fun q hq => by cases hq) ?_
  unfold f_X6_joint at h
  show KW l xX6_joint D (kT cI cB cJ cZ) ws z (kQi D (kT cI cB cJ cZ) o [] ws z) 0 [(0, .ref (ad 37)), (1, .int a1)] [] []
  refine k_iload_n dX6_joint_0 1 rfl rfl ?_
  refine k_istore_n (i := 2) (lv' := fun x => [(2, .int x), (0, .ref (ad 37)), (1, .int a1)]) dX6_joint_1 rfl (Nat.le_of_ble_eq_true rfl) (fun _ => rfl) h (fun x2_1 h => ?_)
  refine k_sub [1, 0] rfl ?_
  refine wlp_X6_joint_2 (cI := cI) (cB := cB) (cJ := cJ) (cZ := cZ) (ad := ad) E ?_ FU _ h
  · intro x2 h
    refine k_sub [0] rfl ?_
    exact wjn_X6_joint_35 (cI := cI) (cB := cB) (cJ := cJ) (cZ := cZ) (ad := ad) E  _ h
