abbrev rmX6_part : Room := { frames := 1, cells := 0, slots := 0, locals := 21 }
abbrev xX6_part : KX := (rmX6_part, cX6_part, 3, some .int, RX6, wsX6_part)
theorem hySX6_part : yX6_part.cls ≠ "java/lang/invoke/MethodHandle" ∧ yX6_part.cls ≠ "java/lang/invoke/VarHandle" ∧ (parseMethodDescriptor yX6_part.desc).map (fun d => d.parameters.length) = some 2 := by decide +kernel
theorem hyVX6_part : yX6_part.cls = RX6 ∧ yX6_part.cls ≠ "java/lang/invoke/MethodHandle" ∧ yX6_part.cls ≠ "java/lang/invoke/VarHandle" ∧ (parseMethodDescriptor yX6_part.desc).map (fun d => d.parameters.length) = some 2 := ⟨rfl, hySX6_part⟩
theorem qX6_part_wX6 : ∀ w ∈ u_ws RX6 TX6 43, w ∈ wsX6_part := by decide +kernel
theorem qX6_part_f102 : Cond.fieldLink RX6 102 "KindParserModel" "thrown" "I" ∈ wsX6_part := by decide +kernel
theorem qX6_part_f113 : Cond.fieldLink RX6 113 "KindParserModel" "tree" "Z" ∈ wsX6_part := by decide +kernel
theorem qX6_part_f157 : Cond.fieldLink RX6 157 "KindParserModel" "parts" "I" ∈ wsX6_part := by decide +kernel
theorem qX6_part_f60 : Cond.fieldLink RX6 60 "KindParserModel" "ruleOf" "[I" ∈ wsX6_part := by decide +kernel
theorem qX6_part_f75 : Cond.fieldLink RX6 75 "KindParserModel" "to" "[I" ∈ wsX6_part := by decide +kernel
theorem qX6_part_f72 : Cond.fieldLink RX6 72 "KindParserModel" "from" "[I" ∈ wsX6_part := by decide +kernel
theorem qX6_part_f38 : Cond.fieldLink RX6 38 "KindParserModel" "sign" "[I" ∈ wsX6_part := by decide +kernel
theorem qX6_part_f63 : Cond.fieldLink RX6 63 "KindParserModel" "symbolOf" "[I" ∈ wsX6_part := by decide +kernel
theorem qX6_part_f13 : Cond.fieldLink RX6 13 "KindParserModel" "size" "[I" ∈ wsX6_part := by decide +kernel
theorem qX6_part_f78 : Cond.fieldLink RX6 78 "KindParserModel" "cost" "[I" ∈ wsX6_part := by decide +kernel
theorem qX6_part_f66 : Cond.fieldLink RX6 66 "KindParserModel" "parent" "[I" ∈ wsX6_part := by decide +kernel
set_option maxHeartbeats 4000000 in
set_option maxRecDepth 100000 in
theorem wjn_X6_part_32 {l : Launch} {D : va_G} {cI cB cJ cZ : ClassId} {ad : Nat → Nat} {ws : va_W} {z : Nat} {m_rules : Int32} {m_length : Int32} {m_tree : Int32} {m_tokens : Int32} {m_comments : Int32} {m_parts : Int32} {m_end : Int32} {m_open : Int32} {m_column : Int32} {m_printed : Int32} {m_repaired : Int32} {m_paid : Int32} {m_size : Nat → Int32} {m_sign : Nat → Int32} {m_ruleOf : Nat → Int32} {m_symbolOf : Nat → Int32} {m_parent : Nat → Int32} {m_from : Nat → Int32} {m_to : Nat → Int32} {m_cost : Nat → Int32} (E : ws[39]? = some (ad 39, .inl (cI, 20, .inl m_size)) ∧ ws[47]? = some (ad 47, .inl (cI, 17, .inl m_sign)) ∧ ws[54]? = some (ad 54, .inl (cI, 150, .inl m_ruleOf)) ∧ ws[55]? = some (ad 55, .inl (cI, 150, .inl m_symbolOf)) ∧ ws[56]? = some (ad 56, .inl (cI, 150, .inl m_parent)) ∧ ws[58]? = some (ad 58, .inl (cI, 150, .inl m_from)) ∧ ws[59]? = some (ad 59, .inl (cI, 150, .inl m_to)) ∧ ws[60]? = some (ad 60, .inl (cI, 150, .inl m_cost))) {o : Int32 × (Int32)}   : ∀ (m_thrown : Int32), jn_X6_part_32 m_tree m_parts m_size m_sign m_ruleOf m_symbolOf m_parent m_from m_to m_cost m_thrown = some o → KW l xX6_part D (kT cI cB cJ cZ) ws z (kQi D (kT cI cB cJ cZ) o.1 [(37, (ad 37, .inr (6, [.int o.2, .int m_rules, .ref (ad 38), .ref (ad 39), .ref (ad 40), .ref (ad 41), .ref (ad 42), .int m_length, .ref (ad 43), .int m_tree, .ref (ad 44), .int m_tokens, .ref (ad 45), .ref (ad 46), .ref (ad 47), .int m_comments, .ref (ad 48), .ref (ad 49), .ref (ad 50), .ref (ad 51), .ref (ad 52), .ref (ad 53), .int m_parts, .ref (ad 54), .ref (ad 55), .ref (ad 56), .ref (ad 57), .ref (ad 58), .ref (ad 59), .ref (ad 60), .ref (ad 61), .int m_end, .int m_open, .ref (ad 62), .ref (ad 63), .ref (ad 64), .ref (ad 65), .ref (ad 66), .int m_column, .int m_printed, .ref (ad 67), .int m_repaired, .int m_paid])))] ws z) 32 [(0, .ref (ad 37))] [] [(37, (ad 37, .inr (6, [.int m_thrown, .int m_rules, .ref (ad 38), .ref (ad 39), .ref (ad 40), .ref (ad 41), .ref (ad 42), .int m_length, .ref (ad 43), .int m_tree, .ref (ad 44), .int m_tokens, .ref (ad 45), .ref (ad 46), .ref (ad 47), .int m_comments, .ref (ad 48), .ref (ad 49), .ref (ad 50), .ref (ad 51), .ref (ad 52), .ref (ad 53), .int m_parts, .ref (ad 54), .ref (ad 55), .ref (ad 56), .ref (ad 57), .ref (ad 58), .ref (ad 59), .ref (ad 60), .ref (ad 61), .int m_end, .int m_open, .ref (ad 62), .ref (ad 63), .ref (ad 64), .ref (ad 65), .ref (ad 66), .int m_column, .int m_printed, .ref (ad 67), .int m_repaired, .int m_paid])))] := by
  intro m_thrown h
  unfold jn_X6_part_32 at h
  refine k_aload_n dX6_part_32 0 rfl rfl ?_
  refine k_iconst (v := 1) dX6_part_33 (by decide) ?_
  obtain ⟨r1, hr1, h⟩ := Option.bind_eq_some_iff.mp h
  refine k_calliV (As := [.int 1]) (st := []) (Lc := [(37, (ad 37, .inr (6, [.int r1.2, .int m_rules, .ref (ad 38), .ref (ad 39), .ref (ad 40), .ref (ad 41), .ref (ad 42), .int m_length, .ref (ad 43), .int m_tree, .ref (ad 44), .int m_tokens, .ref (ad 45), .ref (ad 46), .ref (ad 47), .int m_comments, .ref (ad 48), .ref (ad 49), .ref (ad 50), .ref (ad 51), .ref (ad 52), .ref (ad 53), .int m_parts, .ref (ad 54), .ref (ad 55), .ref (ad 56), .ref (ad 57), .ref (ad 58), .ref (ad 59), .ref (ad 60), .ref (ad 61), .int m_end, .int m_open, .ref (ad 62), .ref (ad 63), .ref (ad 64), .ref (ad 65), .ref (ad 66), .int m_column, .int m_printed, .ref (ad 67), .int m_repaired, .int m_paid])))]) (L' := [(37, (ad 37, .inr (6, [.int r1.2, .int m_rules, .ref (ad 38), .ref (ad 39), .ref (ad 40), .ref (ad 41), .ref (ad 42), .int m_length, .ref (ad 43), .int m_tree, .ref (ad 44), .int m_tokens, .ref (ad 45), .ref (ad 46), .ref (ad 47), .int m_comments, .ref (ad 48), .ref (ad 49), .ref (ad 50), .ref (ad 51), .ref (ad 52), .ref (ad 53), .int m_parts, .ref (ad 54), .ref (ad 55), .ref (ad 56), .ref (ad 57), .ref (ad 58), .ref (ad 59), .ref (ad 60), .ref (ad 61), .int m_end, .int m_open, .ref (ad 62), .ref (ad 63), .ref (ad 64), .ref (ad 65), .ref (ad 66), .int m_column, .int m_printed, .ref (ad 67), .int m_repaired, .int m_paid])))]) (r := r1.1) gX6_part_X6_fail rfl rfl rfl hyVX6_fail ⟨Nat.le_of_ble_eq_true rfl, Nat.le_of_ble_eq_true rfl⟩ rfl rfl (Nat.le_of_ble_eq_true rfl) 37 rfl rfl dX6_part_34 (fun w z hw => c_X6_fail (cI := cI) (cB := cB) (cJ := cJ) (cZ := cZ) (ad := ad) w z trivial (hw 37) hr1) rfl rfl ?_
  obtain rfl := Option.some.inj h
  exact k_iret rfl dX6_part_37
set_option maxHeartbeats 4000000 in
set_option maxRecDepth 100000 in
theorem wjn_X6_part_192 {l : Launch} {D : va_G} {cI cB cJ cZ : ClassId} {ad : Nat → Nat} {ws : va_W} {z : Nat} {m_rules : Int32} {m_length : Int32} {m_tree : Int32} {m_tokens : Int32} {m_comments : Int32} {m_parts : Int32} {m_end : Int32} {m_open : Int32} {m_column : Int32} {m_printed : Int32} {m_repaired : Int32} {m_paid : Int32} {m_size : Nat → Int32} {m_sign : Nat → Int32} {m_ruleOf : Nat → Int32} {m_symbolOf : Nat → Int32} {m_parent : Nat → Int32} {m_from : Nat → Int32} {m_to : Nat → Int32} {m_cost : Nat → Int32} (E : ws[39]? = some (ad 39, .inl (cI, 20, .inl m_size)) ∧ ws[47]? = some (ad 47, .inl (cI, 17, .inl m_sign)) ∧ ws[54]? = some (ad 54, .inl (cI, 150, .inl m_ruleOf)) ∧ ws[55]? = some (ad 55, .inl (cI, 150, .inl m_symbolOf)) ∧ ws[56]? = some (ad 56, .inl (cI, 150, .inl m_parent)) ∧ ws[58]? = some (ad 58, .inl (cI, 150, .inl m_from)) ∧ ws[59]? = some (ad 59, .inl (cI, 150, .inl m_to)) ∧ ws[60]? = some (ad 60, .inl (cI, 150, .inl m_cost))) {o : Int32 × (Int32)}   : ∀ (s0 : Int32) (m_thrown : Int32), jn_X6_part_192 m_tree m_parts m_size m_sign m_ruleOf m_symbolOf m_parent m_from m_to m_cost s0 m_thrown = some o → KW l xX6_part D (kT cI cB cJ cZ) ws z (kQi D (kT cI cB cJ cZ) o.1 [(37, (ad 37, .inr (6, [.int o.2, .int m_rules, .ref (ad 38), .ref (ad 39), .ref (ad 40), .ref (ad 41), .ref (ad 42), .int m_length, .ref (ad 43), .int m_tree, .ref (ad 44), .int m_tokens, .ref (ad 45), .ref (ad 46), .ref (ad 47), .int m_comments, .ref (ad 48), .ref (ad 49), .ref (ad 50), .ref (ad 51), .ref (ad 52), .ref (ad 53), .int m_parts, .ref (ad 54), .ref (ad 55), .ref (ad 56), .ref (ad 57), .ref (ad 58), .ref (ad 59), .ref (ad 60), .ref (ad 61), .int m_end, .int m_open, .ref (ad 62), .ref (ad 63), .ref (ad 64), .ref (ad 65), .ref (ad 66), .int m_column, .int m_printed, .ref (ad 67), .int m_repaired, .int m_paid])))] ws z) 192 [] [.int s0] [(37, (ad 37, .inr (6, [.int m_thrown, .int m_rules, .ref (ad 38), .ref (ad 39), .ref (ad 40), .ref (ad 41), .ref (ad 42), .int m_length, .ref (ad 43), .int m_tree, .ref (ad 44), .int m_tokens, .ref (ad 45), .ref (ad 46), .ref (ad 47), .int m_comments, .ref (ad 48), .ref (ad 49), .ref (ad 50), .ref (ad 51), .ref (ad 52), .ref (ad 53), .int m_parts, .ref (ad 54), .ref (ad 55), .ref (ad 56), .ref (ad 57), .ref (ad 58), .ref (ad 59), .ref (ad 60), .ref (ad 61), .int m_end, .int m_open, .ref (ad 62), .ref (ad 63), .ref (ad 64), .ref (ad 65), .ref (ad 66), .int m_column, .int m_printed, .ref (ad 67), .int m_repaired, .int m_paid])))] := by
  intro s0 m_thrown h
  unfold jn_X6_part_192 at h
  obtain rfl := Option.some.inj h
  exact k_iret rfl dX6_part_192
set_option maxHeartbeats 4000000 in
set_option maxRecDepth 100000 in
theorem wjn_X6_part_124 {l : Launch} {D : va_G} {cI cB cJ cZ : ClassId} {ad : Nat → Nat} {ws : va_W} {z : Nat} {m_rules : Int32} {m_length : Int32} {m_tree : Int32} {m_tokens : Int32} {m_comments : Int32} {m_parts : Int32} {m_end : Int32} {m_open : Int32} {m_column : Int32} {m_printed : Int32} {m_repaired : Int32} {m_paid : Int32} {m_size : Nat → Int32} {m_sign : Nat → Int32} {m_ruleOf : Nat → Int32} {m_symbolOf : Nat → Int32} {m_parent : Nat → Int32} {m_from : Nat → Int32} {m_to : Nat → Int32} {m_cost : Nat → Int32} (E : ws[39]? = some (ad 39, .inl (cI, 20, .inl m_size)) ∧ ws[47]? = some (ad 47, .inl (cI, 17, .inl m_sign)) ∧ ws[54]? = some (ad 54, .inl (cI, 150, .inl m_ruleOf)) ∧ ws[55]? = some (ad 55, .inl (cI, 150, .inl m_symbolOf)) ∧ ws[56]? = some (ad 56, .inl (cI, 150, .inl m_parent)) ∧ ws[58]? = some (ad 58, .inl (cI, 150, .inl m_from)) ∧ ws[59]? = some (ad 59, .inl (cI, 150, .inl m_to)) ∧ ws[60]? = some (ad 60, .inl (cI, 150, .inl m_cost))) {o : Int32 × (Int32)}   : ∀ (s0 : Int32) (m_thrown : Int32), jn_X6_part_124 m_tree m_parts m_size m_sign m_ruleOf m_symbolOf m_parent m_from m_to m_cost s0 m_thrown = some o → KW l xX6_part D (kT cI cB cJ cZ) ws z (kQi D (kT cI cB cJ cZ) o.1 [(37, (ad 37, .inr (6, [.int o.2, .int m_rules, .ref (ad 38), .ref (ad 39), .ref (ad 40), .ref (ad 41), .ref (ad 42), .int m_length, .ref (ad 43), .int m_tree, .ref (ad 44), .int m_tokens, .ref (ad 45), .ref (ad 46), .ref (ad 47), .int m_comments, .ref (ad 48), .ref (ad 49), .ref (ad 50), .ref (ad 51), .ref (ad 52), .ref (ad 53), .int m_parts, .ref (ad 54), .ref (ad 55), .ref (ad 56), .ref (ad 57), .ref (ad 58), .ref (ad 59), .ref (ad 60), .ref (ad 61), .int m_end, .int m_open, .ref (ad 62), .ref (ad 63), .ref (ad 64), .ref (ad 65), .ref (ad 66), .int m_column, .int m_printed, .ref (ad 67), .int m_repaired, .int m_paid])))] ws z) 124 [] [.int s0] [(37, (ad 37, .inr (6, [.int m_thrown, .int m_rules, .ref (ad 38), .ref (ad 39), .ref (ad 40), .ref (ad 41), .ref (ad 42), .int m_length, .ref (ad 43), .int m_tree, .ref (ad 44), .int m_tokens, .ref (ad 45), .ref (ad 46), .ref (ad 47), .int m_comments, .ref (ad 48), .ref (ad 49), .ref (ad 50), .ref (ad 51), .ref (ad 52), .ref (ad 53), .int m_parts, .ref (ad 54), .ref (ad 55), .ref (ad 56), .ref (ad 57), .ref (ad 58), .ref (ad 59), .ref (ad 60), .ref (ad 61), .int m_end, .int m_open, .ref (ad 62), .ref (ad 63), .ref (ad 64), .ref (ad 65), .ref (ad 66), .int m_column, .int m_printed, .ref (ad 67), .int m_repaired, .int m_paid])))] := by
  intro s0 m_thrown h
  unfold jn_X6_part_124 at h
  obtain rfl := Option.some.inj h
  exact k_iret rfl dX6_part_124
set_option maxHeartbeats 4000000 in
set_option maxRecDepth 100000 in
theorem wjn_X6_part_76 {l : Launch} {D : va_G} {cI cB cJ cZ : ClassId} {ad : Nat → Nat} {ws : va_W} {z : Nat} {m_rules : Int32} {m_length : Int32} {m_tree : Int32} {m_tokens : Int32} {m_comments : Int32} {m_parts : Int32} {m_end : Int32} {m_open : Int32} {m_column : Int32} {m_printed : Int32} {m_repaired : Int32} {m_paid : Int32} {m_size : Nat → Int32} {m_sign : Nat → Int32} {m_ruleOf : Nat → Int32} {m_symbolOf : Nat → Int32} {m_parent : Nat → Int32} {m_from : Nat → Int32} {m_to : Nat → Int32} {m_cost : Nat → Int32} (E : ws[39]? = some (ad 39, .inl (cI, 20, .inl m_size)) ∧ ws[47]? = some (ad 47, .inl (cI, 17, .inl m_sign)) ∧ ws[54]? = some (ad 54, .inl (cI, 150, .inl m_ruleOf)) ∧ ws[55]? = some (ad 55, .inl (cI, 150, .inl m_symbolOf)) ∧ ws[56]? = some (ad 56, .inl (cI, 150, .inl m_parent)) ∧ ws[58]? = some (ad 58, .inl (cI, 150, .inl m_from)) ∧ ws[59]? = some (ad 59, .inl (cI, 150, .inl m_to)) ∧ ws[60]? = some (ad 60, .inl (cI, 150, .inl m_cost))) {o : Int32 × (Int32)}   : ∀ (s0 : Int32) (m_thrown : Int32), jn_X6_part_76 m_tree m_parts m_size m_sign m_ruleOf m_symbolOf m_parent m_from m_to m_cost s0 m_thrown = some o → KW l xX6_part D (kT cI cB cJ cZ) ws z (kQi D (kT cI cB cJ cZ) o.1 [(37, (ad 37, .inr (6, [.int o.2, .int m_rules, .ref (ad 38), .ref (ad 39), .ref (ad 40), .ref (ad 41), .ref (ad 42), .int m_length, .ref (ad 43), .int m_tree, .ref (ad 44), .int m_tokens, .ref (ad 45), .ref (ad 46), .ref (ad 47), .int m_comments, .ref (ad 48), .ref (ad 49), .ref (ad 50), .ref (ad 51), .ref (ad 52), .ref (ad 53), .int m_parts, .ref (ad 54), .ref (ad 55), .ref (ad 56), .ref (ad 57), .ref (ad 58), .ref (ad 59), .ref (ad 60), .ref (ad 61), .int m_end, .int m_open, .ref (ad 62), .ref (ad 63), .ref (ad 64), .ref (ad 65), .ref (ad 66), .int m_column, .int m_printed, .ref (ad 67), .int m_repaired, .int m_paid])))] ws z) 76 [] [.int s0] [(37, (ad 37, .inr (6, [.int m_thrown, .int m_rules, .ref (ad 38), .ref (ad 39), .ref (ad 40), .ref (ad 41), .ref (ad 42), .int m_length, .ref (ad 43), .int m_tree, .ref (ad 44), .int m_tokens, .ref (ad 45), .ref (ad 46), .ref (ad 47), .int m_comments, .ref (ad 48), .ref (ad 49), .ref (ad 50), .ref (ad 51), .ref (ad 52), .ref (ad 53), .int m_parts, .ref (ad 54), .ref (ad 55), .ref (ad 56), .ref (ad 57), .ref (ad 58), .ref (ad 59), .ref (ad 60), .ref (ad 61), .int m_end, .int m_open, .ref (ad 62), .ref (ad 63), .ref (ad 64), .ref (ad 65), .ref (ad 66), .int m_column, .int m_printed, .ref (ad 67), .int m_repaired, .int m_paid])))] := by
  intro s0 m_thrown h
  unfold jn_X6_part_76 at h
  obtain rfl := Option.some.inj h
  exact k_iret rfl dX6_part_76
set_option maxHeartbeats 4000000 in
set_option maxRecDepth 100000 in
/-- KindParserModel.part -/
theorem c_X6_part {l : Launch} {D : va_G} {cI cB cJ cZ : ClassId} {ad : Nat → Nat} (ws : va_W) (z : Nat) {m_thrown : Int32} {m_rules : Int32} {m_length : Int32} {m_tree : Int32} {m_tokens : Int32} {m_comments : Int32} {m_parts : Int32} {m_end : Int32} {m_open : Int32} {m_column : Int32} {m_printed : Int32} {m_repaired : Int32} {m_paid : Int32} {m_size : Nat → Int32} {m_sign : Nat → Int32} {m_ruleOf : Nat → Int32} {m_symbolOf : Nat → Int32} {m_parent : Nat → Int32} {m_from : Nat → Int32} {m_to : Nat → Int32} {m_cost : Nat → Int32} (E : ws[39]? = some (ad 39, .inl (cI, 20, .inl m_size)) ∧ ws[47]? = some (ad 47, .inl (cI, 17, .inl m_sign)) ∧ ws[54]? = some (ad 54, .inl (cI, 150, .inl m_ruleOf)) ∧ ws[55]? = some (ad 55, .inl (cI, 150, .inl m_symbolOf)) ∧ ws[56]? = some (ad 56, .inl (cI, 150, .inl m_parent)) ∧ ws[58]? = some (ad 58, .inl (cI, 150, .inl m_from)) ∧ ws[59]? = some (ad 59, .inl (cI, 150, .inl m_to)) ∧ ws[60]? = some (ad 60, .inl (cI, 150, .inl m_cost))) (e37 : ws[37]? = some (ad 37, .inr (6, [.int m_thrown, .int m_rules, .ref (ad 38), .ref (ad 39), .ref (ad 40), .ref (ad 41), .ref (ad 42), .int m_length, .ref (ad 43), .int m_tree, .ref (ad 44), .int m_tokens, .ref (ad 45), .ref (ad 46), .ref (ad 47), .int m_comments, .ref (ad 48), .ref (ad 49), .ref (ad 50), .ref (ad 51), .ref (ad 52), .ref (ad 53), .int m_parts, .ref (ad 54), .ref (ad 55), .ref (ad 56), .ref (ad 57), .ref (ad 58), .ref (ad 59), .ref (ad 60), .ref (ad 61), .int m_end, .int m_open, .ref (ad 62), .ref (ad 63), .ref (ad 64), .ref (ad 65), .ref (ad 66), .int m_column, .int m_printed, .ref (ad 67), .int m_repaired, .int m_paid]))) {a1 : Int32} {a2 : Int32} {o : Int32 × (Int32)} (h : f_X6_part a1 a2 m_tree m_parts m_size m_sign m_ruleOf m_symbolOf m_parent m_from m_to m_cost m_thrown = some o) : Met l yX6_part wsX6_part rmX6_part (kPc D (kT cI cB cJ cZ) [.ref (ad 37), .int a1, .int a2] ws z) (kQi D (kT cI cB cJ cZ) o.1 [(37, (ad 37, .inr (6, [.int o.2, .int m_rules, .ref (ad 38), .ref (ad 39), .ref (ad 40), .ref (ad 41), .ref (ad 42), .int m_length, .ref (ad 43), .int m_tree, .ref (ad 44), .int m_tokens, .ref (ad 45), .ref (ad 46), .ref (ad 47), .int m_comments, .ref (ad 48), .ref (ad 49), .ref (ad 50), .ref (ad 51), .ref (ad 52), .ref (ad 53), .int m_parts, .ref (ad 54), .ref (ad 55), .ref (ad 56), .ref (ad 57), .ref (ad 58), .ref (ad 59), .ref (ad 60), .ref (ad 61), .int m_end, .int m_open, .ref (ad 62), .ref (ad 63), .ref (ad 64), .ref (ad 65), .ref (ad 66), .int m_column, .int m_printed, .ref (ad 67), .int m_repaired, .int m_paid])))] ws z) 0 0 (va_A ws z) := by
  refine KW.met (rm := rmX6_part) (lv := [(0, .ref (ad 37)), (1, .int a1), (2, .int a2)]) (L := [(37, (ad 37, .inr (6, [.int m_thrown, .int m_rules, .ref (ad 38), .ref (ad 39), .ref (ad 40), .ref (ad 41), .ref (ad 42), .int m_length, .ref (ad 43), .int m_tree, .ref (ad 44), .int m_tokens, .ref (ad 45), .ref (ad 46), .ref (ad 47), .int m_comments, .ref (ad 48), .ref (ad 49), .ref (ad 50), .ref (ad 51), .ref (ad 52), .ref (ad 53), .int m_parts, .ref (ad 54), .ref (ad 55), .ref (ad 56), .ref (ad 57), .ref (ad 58), .ref (ad 59), .ref (ad 60), .ref (ad 61), .int m_end, .int m_open, .ref (ad 62), .ref (ad 63), .ref (ad 64), .ref (ad 65), .ref (ad 66), .int m_column, .int m_printed, .ref (ad 67), .int m_repaired, .int m_paid])))]) rfl (by decide) (Nat.le_of_ble_eq_true rfl) rfl (by intro q hq; simp only [List.mem_cons, List.not_mem_nil, or_false] at hq; rcases hq with rfl <;> assumption) ?_
  unfold f_X6_part at h
  show KW l xX6_part D (kT cI cB cJ cZ) ws z (kQi D (kT cI cB cJ cZ) o.1 [(37, (ad 37, .inr (6, [.int o.2, .int m_rules, .ref (ad 38), .ref (ad 39), .ref (ad 40), .ref (ad 41), .ref (ad 42), .int m_length, .ref (ad 43), .int m_tree, .ref (ad 44), .int m_tokens, .ref (ad 45), .ref (ad 46), .ref (ad 47), .int m_comments, .ref (ad 48), .ref (ad 49), .ref (ad 50), .ref (ad 51), .ref (ad 52), .ref (ad 53), .int m_parts, .ref (ad 54), .ref (ad 55), .ref (ad 56), .ref (ad 57), .ref (ad 58), .ref (ad 59), .ref (ad 60), .ref (ad 61), .int m_end, .int m_open, .ref (ad 62), .ref (ad 63), .ref (ad 64), .ref (ad 65), .ref (ad 66), .int m_column, .int m_printed, .ref (ad 67), .int m_repaired, .int m_paid])))] ws z) 0 [(0, .ref (ad 37)), (1, .int a1), (2, .int a2)] [] [(37, (ad 37, .inr (6, [.int m_thrown, .int m_rules, .ref (ad 38), .ref (ad 39), .ref (ad 40), .ref (ad 41), .ref (ad 42), .int m_length, .ref (ad 43), .int m_tree, .ref (ad 44), .int m_tokens, .ref (ad 45), .ref (ad 46), .ref (ad 47), .int m_comments, .ref (ad 48), .ref (ad 49), .ref (ad 50), .ref (ad 51), .ref (ad 52), .ref (ad 53), .int m_parts, .ref (ad 54), .ref (ad 55), .ref (ad 56), .ref (ad 57), .ref (ad 58), .ref (ad 59), .ref (ad 60), .ref (ad 61), .int m_end, .int m_open, .ref (ad 62), .ref (ad 63), .ref (ad 64), .ref (ad 65), .ref (ad 66), .int m_column, .int m_printed, .ref (ad 67), .int m_repaired, .int m_paid])))]
  refine k_aload_n dX6_part_0 0 rfl rfl ?_
  refine k_iconst (v := 0) dX6_part_1 (by decide) ?_
  refine k_put (L' := [(37, (ad 37, .inr (6, [.int 0, .int m_rules, .ref (ad 38), .ref (ad 39), .ref (ad 40), .ref (ad 41), .ref (ad 42), .int m_length, .ref (ad 43), .int m_tree, .ref (ad 44), .int m_tokens, .ref (ad 45), .ref (ad 46), .ref (ad 47), .int m_comments, .ref (ad 48), .ref (ad 49), .ref (ad 50), .ref (ad 51), .ref (ad 52), .ref (ad 53), .int m_parts, .ref (ad 54), .ref (ad 55), .ref (ad 56), .ref (ad 57), .ref (ad 58), .ref (ad 59), .ref (ad 60), .ref (ad 61), .int m_end, .int m_open, .ref (ad 62), .ref (ad 63), .ref (ad 64), .ref (ad 65), .ref (ad 66), .int m_column, .int m_printed, .ref (ad 67), .int m_repaired, .int m_paid])))]) 37 0 rfl rfl qX6_part_wX6 (by decide) tyX6 tyX6_ok nmX6 rfl qX6_part_f102 rfl (tyX6_ok 0 (by decide)) rfl rfl (Nat.le_of_ble_eq_true rfl) dX6_part_2 rfl ?_
  refine k_aload_n dX6_part_5 0 rfl rfl ?_
  refine k_get 37 9 rfl rfl qX6_part_wX6 (by decide) qX6_part_f113 rfl dX6_part_6 ?_
  refine k_if_eq 32 dX6_part_9 (by decide) h (fun h => ?_) (fun h => ?_)
  · skip
    refine k_sub [0] rfl ?_
    exact wjn_X6_part_32 (cI := cI) (cB := cB) (cJ := cJ) (cZ := cZ) (ad := ad) E  _ h
  · skip
    refine k_iload_n dX6_part_12 1 rfl rfl ?_
    refine k_aload_n dX6_part_13 0 rfl rfl ?_
    refine k_get 37 22 rfl rfl qX6_part_wX6 (by decide) qX6_part_f157 rfl dX6_part_14 ?_
    obtain ⟨r2, hr2, h⟩ := Option.bind_eq_some_iff.mp h
    refine k_calliS (As := [.int a1, .int m_parts]) (st := []) (Lc := []) (L' := [(37, (ad 37, .inr (6, [.int 0, .int m_rules, .ref (ad 38), .ref (ad 39), .ref (ad 40), .ref (ad 41), .ref (ad 42), .int m_length, .ref (ad 43), .int m_tree, .ref (ad 44), .int m_tokens, .ref (ad 45), .ref (ad 46), .ref (ad 47), .int m_comments, .ref (ad 48), .ref (ad 49), .ref (ad 50), .ref (ad 51), .ref (ad 52), .ref (ad 53), .int m_parts, .ref (ad 54), .ref (ad 55), .ref (ad 56), .ref (ad 57), .ref (ad 58), .ref (ad 59), .ref (ad 60), .ref (ad 61), .int m_end, .int m_open, .ref (ad 62), .ref (ad 63), .ref (ad 64), .ref (ad 65), .ref (ad 66), .int m_column, .int m_printed, .ref (ad 67), .int m_repaired, .int m_paid])))]) (r := r2) gX6_part_X6_below rfl rfl rfl hySX6_below ⟨Nat.le_of_ble_eq_true rfl, Nat.le_of_ble_eq_true rfl⟩ rfl rfl (Nat.le_of_ble_eq_true rfl) dX6_part_17 (fun w z hw => c_X6_below (cI := cI) (cB := cB) (cJ := cJ) (cZ := cZ) (ad := ad) w z trivial  hr2) rfl rfl ?_
    refine k_if_eq 32 dX6_part_20 (by decide) h (fun h => ?_) (fun h => ?_)
    · skip
      refine k_sub [0] rfl ?_
      exact wjn_X6_part_32 (cI := cI) (cB := cB) (cJ := cJ) (cZ := cZ) (ad := ad) E  _ h
    · skip
      refine k_iload_n dX6_part_23 2 rfl rfl ?_
      refine k_bipush (v := 7) dX6_part_24 (by decide) ?_
      obtain ⟨r3, hr3, h⟩ := Option.bind_eq_some_iff.mp h
      refine k_calliS (As := [.int a2, .int 7]) (st := []) (Lc := []) (L' := [(37, (ad 37, .inr (6, [.int 0, .int m_rules, .ref (ad 38), .ref (ad 39), .ref (ad 40), .ref (ad 41), .ref (ad 42), .int m_length, .ref (ad 43), .int m_tree, .ref (ad 44), .int m_tokens, .ref (ad 45), .ref (ad 46), .ref (ad 47), .int m_comments, .ref (ad 48), .ref (ad 49), .ref (ad 50), .ref (ad 51), .ref (ad 52), .ref (ad 53), .int m_parts, .ref (ad 54), .ref (ad 55), .ref (ad 56), .ref (ad 57), .ref (ad 58), .ref (ad 59), .ref (ad 60), .ref (ad 61), .int m_end, .int m_open, .ref (ad 62), .ref (ad 63), .ref (ad 64), .ref (ad 65), .ref (ad 66), .int m_column, .int m_printed, .ref (ad 67), .int m_repaired, .int m_paid])))]) (r := r3) gX6_part_X6_below rfl rfl rfl hySX6_below ⟨Nat.le_of_ble_eq_true rfl, Nat.le_of_ble_eq_true rfl⟩ rfl rfl (Nat.le_of_ble_eq_true rfl) dX6_part_26 (fun w z hw => c_X6_below (cI := cI) (cB := cB) (cJ := cJ) (cZ := cZ) (ad := ad) w z trivial  hr3) rfl rfl ?_
      refine k_if_ne 38 dX6_part_29 (by decide) h (fun h => ?_) (fun h => ?_)
      · skip
        refine k_sub [0] rfl ?_
        exact wjn_X6_part_32 (cI := cI) (cB := cB) (cJ := cJ) (cZ := cZ) (ad := ad) E  _ h
      · skip
        refine k_iload_n dX6_part_38 2 rfl rfl ?_
        refine k_iconst (v := 3) dX6_part_39 (by decide) ?_
        refine k_icmp_ge 77 dX6_part_40 (by decide) h (fun h => ?_) (fun h => ?_)
        · skip
          refine k_iload_n dX6_part_77 2 rfl rfl ?_
          refine k_bipush (v := 6) dX6_part_78 (by decide) ?_
          refine k_icmp_ge 125 dX6_part_80 (by decide) h (fun h => ?_) (fun h => ?_)
          · skip
            refine k_aload_n dX6_part_125 0 rfl rfl ?_
            refine k_get 37 23 rfl rfl qX6_part_wX6 (by decide) qX6_part_f60 rfl dX6_part_126 ?_
            refine k_iload_n dX6_part_129 1 rfl rfl ?_
            refine k_iald 54 0 E.2.2.1 rfl dX6_part_130 h (fun v4 h => ?_)
            refine k_if_lt 146 dX6_part_131 (by decide) h (fun h => ?_) (fun h => ?_)
            · skip
              refine k_aload_n dX6_part_146 0 rfl rfl ?_
              refine k_get 37 28 rfl rfl qX6_part_wX6 (by decide) qX6_part_f75 rfl dX6_part_147 ?_
              refine k_iload_n dX6_part_150 1 rfl rfl ?_
              refine k_iald 59 0 E.2.2.2.2.2.2.1 rfl dX6_part_151 h (fun v5 h => ?_)
              refine k_aload_n dX6_part_152 0 rfl rfl ?_
              refine k_get 37 27 rfl rfl qX6_part_wX6 (by decide) qX6_part_f72 rfl dX6_part_153 ?_
              refine k_iload_n dX6_part_156 1 rfl rfl ?_
              refine k_iald 58 0 E.2.2.2.2.2.1 rfl dX6_part_157 h (fun v6 h => ?_)
              refine k_icmp_ne 165 dX6_part_158 (by decide) h (fun h => ?_) (fun h => ?_)
              · skip
                refine k_iconst (v := 2) dX6_part_161 (by decide) ?_
                refine k_goto 192 dX6_part_162 (by decide) ?_
                refine k_sub [] rfl ?_
                exact wjn_X6_part_192 (cI := cI) (cB := cB) (cJ := cJ) (cZ := cZ) (ad := ad) E  _ _ h
              · skip
                refine k_aload_n dX6_part_165 0 rfl rfl ?_
                refine k_get 37 14 rfl rfl qX6_part_wX6 (by decide) qX6_part_f38 rfl dX6_part_166 ?_
                refine k_aload_n dX6_part_169 0 rfl rfl ?_
                refine k_get 37 28 rfl rfl qX6_part_wX6 (by decide) qX6_part_f75 rfl dX6_part_170 ?_
                refine k_iload_n dX6_part_173 1 rfl rfl ?_
                refine k_iald 59 0 E.2.2.2.2.2.2.1 rfl dX6_part_174 h (fun v7 h => ?_)
                refine k_iconst (v := 1) dX6_part_175 (by decide) ?_
                refine k_isub dX6_part_176 ?_
                refine k_iald 47 0 E.2.1 rfl dX6_part_177 h (fun v8 h => ?_)
                refine k_aload_n dX6_part_178 0 rfl rfl ?_
                refine k_get 37 24 rfl rfl qX6_part_wX6 (by decide) qX6_part_f63 rfl dX6_part_179 ?_
                refine k_iload_n dX6_part_182 1 rfl rfl ?_
                refine k_iald 55 0 E.2.2.2.1 rfl dX6_part_183 h (fun v9 h => ?_)
                refine k_icmp_ne 191 dX6_part_184 (by decide) h (fun h => ?_) (fun h => ?_)
                · skip
                  refine k_iconst (v := 0) dX6_part_187 (by decide) ?_
                  refine k_goto 192 dX6_part_188 (by decide) ?_
                  refine k_sub [] rfl ?_
                  exact wjn_X6_part_192 (cI := cI) (cB := cB) (cJ := cJ) (cZ := cZ) (ad := ad) E  _ _ h
                · skip
                  refine k_iconst (v := 1) dX6_part_191 (by decide) ?_
                  refine k_sub [] rfl ?_
                  exact wjn_X6_part_192 (cI := cI) (cB := cB) (cJ := cJ) (cZ := cZ) (ad := ad) E  _ _ h
            · skip
              refine k_aload_n dX6_part_134 0 rfl rfl ?_
              refine k_get 37 3 rfl rfl qX6_part_wX6 (by decide) qX6_part_f13 rfl dX6_part_135 ?_
              refine k_aload_n dX6_part_138 0 rfl rfl ?_
              refine k_get 37 23 rfl rfl qX6_part_wX6 (by decide) qX6_part_f60 rfl dX6_part_139 ?_
              refine k_iload_n dX6_part_142 1 rfl rfl ?_
              refine k_iald 54 0 E.2.2.1 rfl dX6_part_143 h (fun v10 h => ?_)
              refine k_iald 39 0 E.1 rfl dX6_part_144 h (fun v11 h => ?_)
              obtain rfl := Option.some.inj h
              exact k_iret rfl dX6_part_145
          · skip
            refine k_iload_n dX6_part_83 2 rfl rfl ?_
            refine k_iconst (v := 3) dX6_part_84 (by decide) ?_
            refine k_icmp_ne 97 dX6_part_85 (by decide) h (fun h => ?_) (fun h => ?_)
            · skip
              refine k_aload_n dX6_part_88 0 rfl rfl ?_
              refine k_get 37 27 rfl rfl qX6_part_wX6 (by decide) qX6_part_f72 rfl dX6_part_89 ?_
              refine k_iload_n dX6_part_92 1 rfl rfl ?_
              refine k_iald 58 0 E.2.2.2.2.2.1 rfl dX6_part_93 h (fun v12 h => ?_)
              refine k_goto 124 dX6_part_94 (by decide) ?_
              refine k_sub [] rfl ?_
              exact wjn_X6_part_124 (cI := cI) (cB := cB) (cJ := cJ) (cZ := cZ) (ad := ad) E  _ _ h
            · skip
              refine k_iload_n dX6_part_97 2 rfl rfl ?_
              refine k_iconst (v := 4) dX6_part_98 (by decide) ?_
              refine k_icmp_ne 118 dX6_part_99 (by decide) h (fun h => ?_) (fun h => ?_)
              · skip
                refine k_aload_n dX6_part_102 0 rfl rfl ?_
                refine k_get 37 28 rfl rfl qX6_part_wX6 (by decide) qX6_part_f75 rfl dX6_part_103 ?_
                refine k_iload_n dX6_part_106 1 rfl rfl ?_
                refine k_iald 59 0 E.2.2.2.2.2.2.1 rfl dX6_part_107 h (fun v13 h => ?_)
                refine k_aload_n dX6_part_108 0 rfl rfl ?_
                refine k_get 37 27 rfl rfl qX6_part_wX6 (by decide) qX6_part_f72 rfl dX6_part_109 ?_
                refine k_iload_n dX6_part_112 1 rfl rfl ?_
                refine k_iald 58 0 E.2.2.2.2.2.1 rfl dX6_part_113 h (fun v14 h => ?_)
                refine k_isub dX6_part_114 ?_
                refine k_goto 124 dX6_part_115 (by decide) ?_
                refine k_sub [] rfl ?_
                exact wjn_X6_part_124 (cI := cI) (cB := cB) (cJ := cJ) (cZ := cZ) (ad := ad) E  _ _ h
              · skip
                refine k_aload_n dX6_part_118 0 rfl rfl ?_
                refine k_get 37 29 rfl rfl qX6_part_wX6 (by decide) qX6_part_f78 rfl dX6_part_119 ?_
                refine k_iload_n dX6_part_122 1 rfl rfl ?_
                refine k_iald 60 0 E.2.2.2.2.2.2.2 rfl dX6_part_123 h (fun v15 h => ?_)
                refine k_sub [] rfl ?_
                exact wjn_X6_part_124 (cI := cI) (cB := cB) (cJ := cJ) (cZ := cZ) (ad := ad) E  _ _ h
        · skip
          refine k_iload_n dX6_part_43 2 rfl rfl ?_
          refine k_if_ne 56 dX6_part_44 (by decide) h (fun h => ?_) (fun h => ?_)
          · skip
            refine k_aload_n dX6_part_47 0 rfl rfl ?_
            refine k_get 37 23 rfl rfl qX6_part_wX6 (by decide) qX6_part_f60 rfl dX6_part_48 ?_
            refine k_iload_n dX6_part_51 1 rfl rfl ?_
            refine k_iald 54 0 E.2.2.1 rfl dX6_part_52 h (fun v16 h => ?_)
            refine k_goto 76 dX6_part_53 (by decide) ?_
            refine k_sub [] rfl ?_
            exact wjn_X6_part_76 (cI := cI) (cB := cB) (cJ := cJ) (cZ := cZ) (ad := ad) E  _ _ h
          · skip
            refine k_iload_n dX6_part_56 2 rfl rfl ?_
            refine k_iconst (v := 1) dX6_part_57 (by decide) ?_
            refine k_icmp_ne 70 dX6_part_58 (by decide) h (fun h => ?_) (fun h => ?_)
            · skip
              refine k_aload_n dX6_part_61 0 rfl rfl ?_
              refine k_get 37 24 rfl rfl qX6_part_wX6 (by decide) qX6_part_f63 rfl dX6_part_62 ?_
              refine k_iload_n dX6_part_65 1 rfl rfl ?_
              refine k_iald 55 0 E.2.2.2.1 rfl dX6_part_66 h (fun v17 h => ?_)
              refine k_goto 76 dX6_part_67 (by decide) ?_
              refine k_sub [] rfl ?_
              exact wjn_X6_part_76 (cI := cI) (cB := cB) (cJ := cJ) (cZ := cZ) (ad := ad) E  _ _ h
            · skip
              refine k_aload_n dX6_part_70 0 rfl rfl ?_
              refine k_get 37 25 rfl rfl qX6_part_wX6 (by decide) qX6_part_f66 rfl dX6_part_71 ?_
              refine k_iload_n dX6_part_74 1 rfl rfl ?_
              refine k_iald 56 0 E.2.2.2.2.1 rfl dX6_part_75 h (fun v18 h => ?_)
              refine k_sub [] rfl ?_
              exact wjn_X6_part_76 (cI := cI) (cB := cB) (cJ := cJ) (cZ := cZ) (ad := ad) E  _ _ h
abbrev rmX6_rest : Room := { frames := 1, cells := 0, slots := 0, locals := 21 }
abbrev xX6_rest : KX := (rmX6_rest, cX6_rest, 1, some .int, RX6, wsX6_rest)
theorem hySX6_rest : yX6_rest.cls ≠ "java/lang/invoke/MethodHandle" ∧ yX6_rest.cls ≠ "java/lang/invoke/VarHandle" ∧ (parseMethodDescriptor yX6_rest.desc).map (fun d => d.parameters.length) = some 0 := by decide +kernel
theorem hyVX6_rest : yX6_rest.cls = RX6 ∧ yX6_rest.cls ≠ "java/lang/invoke/MethodHandle" ∧ yX6_rest.cls ≠ "java/lang/invoke/VarHandle" ∧ (parseMethodDescriptor yX6_rest.desc).map (fun d => d.parameters.length) = some 0 := ⟨rfl, hySX6_rest⟩
theorem qX6_rest_wX6 : ∀ w ∈ u_ws RX6 TX6 43, w ∈ wsX6_rest := by decide +kernel
theorem qX6_rest_f102 : Cond.fieldLink RX6 102 "KindParserModel" "thrown" "I" ∈ wsX6_rest := by decide +kernel
theorem qX6_rest_f113 : Cond.fieldLink RX6 113 "KindParserModel" "tree" "Z" ∈ wsX6_rest := by decide +kernel
theorem qX6_rest_f126 : Cond.fieldLink RX6 126 "KindParserModel" "tokens" "I" ∈ wsX6_rest := by decide +kernel
theorem qX6_rest_f160 : Cond.fieldLink RX6 160 "KindParserModel" "end" "I" ∈ wsX6_rest := by decide +kernel
set_option maxHeartbeats 4000000 in
set_option maxRecDepth 100000 in
theorem wjn_X6_rest_29 {l : Launch} {D : va_G} {cI cB cJ cZ : ClassId} {ad : Nat → Nat} {ws : va_W} {z : Nat} {m_rules : Int32} {m_length : Int32} {m_tree : Int32} {m_tokens : Int32} {m_comments : Int32} {m_parts : Int32} {m_end : Int32} {m_open : Int32} {m_column : Int32} {m_printed : Int32} {m_repaired : Int32} {m_paid : Int32} (E : True) {o : Int32 × (Int32)}   : ∀ (s0 : Int32) (m_thrown : Int32), jn_X6_rest_29 m_tree m_tokens m_end s0 m_thrown = some o → KW l xX6_rest D (kT cI cB cJ cZ) ws z (kQi D (kT cI cB cJ cZ) o.1 [(37, (ad 37, .inr (6, [.int o.2, .int m_rules, .ref (ad 38), .ref (ad 39), .ref (ad 40), .ref (ad 41), .ref (ad 42), .int m_length, .ref (ad 43), .int m_tree, .ref (ad 44), .int m_tokens, .ref (ad 45), .ref (ad 46), .ref (ad 47), .int m_comments, .ref (ad 48), .ref (ad 49), .ref (ad 50), .ref (ad 51), .ref (ad 52), .ref (ad 53), .int m_parts, .ref (ad 54), .ref (ad 55), .ref (ad 56), .ref (ad 57), .ref (ad 58), .ref (ad 59), .ref (ad 60), .ref (ad 61), .int m_end, .int m_open, .ref (ad 62), .ref (ad 63), .ref (ad 64), .ref (ad 65), .ref (ad 66), .int m_column, .int m_printed, .ref (ad 67), .int m_repaired, .int m_paid])))] ws z) 29 [] [.int s0] [(37, (ad 37, .inr (6, [.int m_thrown, .int m_rules, .ref (ad 38), .ref (ad 39), .ref (ad 40), .ref (ad 41), .ref (ad 42), .int m_length, .ref (ad 43), .int m_tree, .ref (ad 44), .int m_tokens, .ref (ad 45), .ref (ad 46), .ref (ad 47), .int m_comments, .ref (ad 48), .ref (ad 49), .ref (ad 50), .ref (ad 51), .ref (ad 52), .ref (ad 53), .int m_parts, .ref (ad 54), .ref (ad 55), .ref (ad 56), .ref (ad 57), .ref (ad 58), .ref (ad 59), .ref (ad 60), .ref (ad 61), .int m_end, .int m_open, .ref (ad 62), .ref (ad 63), .ref (ad 64), .ref (ad 65), .ref (ad 66), .int m_column, .int m_printed, .ref (ad 67), .int m_repaired, .int m_paid])))] := by
  intro s0 m_thrown h
  unfold jn_X6_rest_29 at h
  obtain rfl := Option.some.inj h
  exact k_iret rfl dX6_rest_29
set_option maxHeartbeats 4000000 in
set_option maxRecDepth 100000 in
/-- KindParserModel.rest -/
theorem c_X6_rest {l : Launch} {D : va_G} {cI cB cJ cZ : ClassId} {ad : Nat → Nat} (ws : va_W) (z : Nat) {m_thrown : Int32} {m_rules : Int32} {m_length : Int32} {m_tree : Int32} {m_tokens : Int32} {m_comments : Int32} {m_parts : Int32} {m_end : Int32} {m_open : Int32} {m_column : Int32} {m_printed : Int32} {m_repaired : Int32} {m_paid : Int32} (E : True) (e37 : ws[37]? = some (ad 37, .inr (6, [.int m_thrown, .int m_rules, .ref (ad 38), .ref (ad 39), .ref (ad 40), .ref (ad 41), .ref (ad 42), .int m_length, .ref (ad 43), .int m_tree, .ref (ad 44), .int m_tokens, .ref (ad 45), .ref (ad 46), .ref (ad 47), .int m_comments, .ref (ad 48), .ref (ad 49), .ref (ad 50), .ref (ad 51), .ref (ad 52), .ref (ad 53), .int m_parts, .ref (ad 54), .ref (ad 55), .ref (ad 56), .ref (ad 57), .ref (ad 58), .ref (ad 59), .ref (ad 60), .ref (ad 61), .int m_end, .int m_open, .ref (ad 62), .ref (ad 63), .ref (ad 64), .ref (ad 65), .ref (ad 66), .int m_column, .int m_printed, .ref (ad 67), .int m_repaired, .int m_paid])))  {o : Int32 × (Int32)} (h : f_X6_rest m_tree m_tokens m_end m_thrown = some o) : Met l yX6_rest wsX6_rest rmX6_rest (kPc D (kT cI cB cJ cZ) [.ref (ad 37)] ws z) (kQi D (kT cI cB cJ cZ) o.1 [(37, (ad 37, .inr (6, [.int o.2, .int m_rules, .ref (ad 38), .ref (ad 39), .ref (ad 40), .ref (ad 41), .ref (ad 42), .int m_length, .ref (ad 43), .int m_tree, .ref (ad 44), .int m_tokens, .ref (ad 45), .ref (ad 46), .ref (ad 47), .int m_comments, .ref (ad 48), .ref (ad 49), .ref (ad 50), .ref (ad 51), .ref (ad 52), .ref (ad 53), .int m_parts, .ref (ad 54), .ref (ad 55), .ref (ad 56), .ref (ad 57), .ref (ad 58), .ref (ad 59), .ref (ad 60), .ref (ad 61), .int m_end, .int m_open, .ref (ad 62), .ref (ad 63), .ref (ad 64), .ref (ad 65), .ref (ad 66), .int m_column, .int m_printed, .ref (ad 67), .int m_repaired, .int m_paid])))] ws z) 0 0 (va_A ws z) := by
  refine KW.met (rm := rmX6_rest) (lv := [(0, .ref (ad 37))]) (L := [(37, (ad 37, .inr (6, [.int m_thrown, .int m_rules, .ref (ad 38), .ref (ad 39), .ref (ad 40), .ref (ad 41), .ref (ad 42), .int m_length, .ref (ad 43), .int m_tree, .ref (ad 44), .int m_tokens, .ref (ad 45), .ref (ad 46), .ref (ad 47), .int m_comments, .ref (ad 48), .ref (ad 49), .ref (ad 50), .ref (ad 51), .ref (ad 52), .ref (ad 53), .int m_parts, .ref (ad 54), .ref (ad 55), .ref (ad 56), .ref (ad 57), .ref (ad 58), .ref (ad 59), .ref (ad 60), .ref (ad 61), .int m_end, .int m_open, .ref (ad 62), .ref (ad 63), .ref (ad 64), .ref (ad 65), .ref (ad 66), .int m_column, .int m_printed, .ref (ad 67), .int m_repaired, .int m_paid])))]) rfl (by decide) (Nat.le_of_ble_eq_true rfl) rfl (by intro q hq; simp only [List.mem_cons, List.not_mem_nil, or_false] at hq; rcases hq with rfl <;> assumption) ?_
  unfold f_X6_rest at h
  show KW l xX6_rest D (kT cI cB cJ cZ) ws z (kQi D (kT cI cB cJ cZ) o.1 [(37, (ad 37, .inr (6, [.int o.2, .int m_rules, .ref (ad 38), .ref (ad 39), .ref (ad 40), .ref (ad 41), .ref (ad 42), .int m_length, .ref (ad 43), .int m_tree, .ref (ad 44), .int m_tokens, .ref (ad 45), .ref (ad 46), .ref (ad 47), .int m_comments, .ref (ad 48), .ref (ad 49), .ref (ad 50), .ref (ad 51), .ref (ad 52), .ref (ad 53), .int m_parts, .ref (ad 54), .ref (ad 55), .ref (ad 56), .ref (ad 57), .ref (ad 58), .ref (ad 59), .ref (ad 60), .ref (ad 61), .int m_end, .int m_open, .ref (ad 62), .ref (ad 63), .ref (ad 64), .ref (ad 65), .ref (ad 66), .int m_column, .int m_printed, .ref (ad 67), .int m_repaired, .int m_paid])))] ws z) 0 [(0, .ref (ad 37))] [] [(37, (ad 37, .inr (6, [.int m_thrown, .int m_rules, .ref (ad 38), .ref (ad 39), .ref (ad 40), .ref (ad 41), .ref (ad 42), .int m_length, .ref (ad 43), .int m_tree, .ref (ad 44), .int m_tokens, .ref (ad 45), .ref (ad 46), .ref (ad 47), .int m_comments, .ref (ad 48), .ref (ad 49), .ref (ad 50), .ref (ad 51), .ref (ad 52), .ref (ad 53), .int m_parts, .ref (ad 54), .ref (ad 55), .ref (ad 56), .ref (ad 57), .ref (ad 58), .ref (ad 59), .ref (ad 60), .ref (ad 61), .int m_end, .int m_open, .ref (ad 62), .ref (ad 63), .ref (ad 64), .ref (ad 65), .ref (ad 66), .int m_column, .int m_printed, .ref (ad 67), .int m_repaired, .int m_paid])))]
  refine k_aload_n dX6_rest_0 0 rfl rfl ?_
  refine k_iconst (v := 0) dX6_rest_1 (by decide) ?_
  refine k_put (L' := [(37, (ad 37, .inr (6, [.int 0, .int m_rules, .ref (ad 38), .ref (ad 39), .ref (ad 40), .ref (ad 41), .ref (ad 42), .int m_length, .ref (ad 43), .int m_tree, .ref (ad 44), .int m_tokens, .ref (ad 45), .ref (ad 46), .ref (ad 47), .int m_comments, .ref (ad 48), .ref (ad 49), .ref (ad 50), .ref (ad 51), .ref (ad 52), .ref (ad 53), .int m_parts, .ref (ad 54), .ref (ad 55), .ref (ad 56), .ref (ad 57), .ref (ad 58), .ref (ad 59), .ref (ad 60), .ref (ad 61), .int m_end, .int m_open, .ref (ad 62), .ref (ad 63), .ref (ad 64), .ref (ad 65), .ref (ad 66), .int m_column, .int m_printed, .ref (ad 67), .int m_repaired, .int m_paid])))]) 37 0 rfl rfl qX6_rest_wX6 (by decide) tyX6 tyX6_ok nmX6 rfl qX6_rest_f102 rfl (tyX6_ok 0 (by decide)) rfl rfl (Nat.le_of_ble_eq_true rfl) dX6_rest_2 rfl ?_
  refine k_aload_n dX6_rest_5 0 rfl rfl ?_
  refine k_get 37 9 rfl rfl qX6_rest_wX6 (by decide) qX6_rest_f113 rfl dX6_rest_6 ?_
  refine k_if_eq 24 dX6_rest_9 (by decide) h (fun h => ?_) (fun h => ?_)
  · skip
    refine k_aload_n dX6_rest_24 0 rfl rfl ?_
    refine k_iconst (v := 1) dX6_rest_25 (by decide) ?_
    obtain ⟨r1, hr1, h⟩ := Option.bind_eq_some_iff.mp h
    refine k_calliV (As := [.int 1]) (st := []) (Lc := [(37, (ad 37, .inr (6, [.int r1.2, .int m_rules, .ref (ad 38), .ref (ad 39), .ref (ad 40), .ref (ad 41), .ref (ad 42), .int m_length, .ref (ad 43), .int m_tree, .ref (ad 44), .int m_tokens, .ref (ad 45), .ref (ad 46), .ref (ad 47), .int m_comments, .ref (ad 48), .ref (ad 49), .ref (ad 50), .ref (ad 51), .ref (ad 52), .ref (ad 53), .int m_parts, .ref (ad 54), .ref (ad 55), .ref (ad 56), .ref (ad 57), .ref (ad 58), .ref (ad 59), .ref (ad 60), .ref (ad 61), .int m_end, .int m_open, .ref (ad 62), .ref (ad 63), .ref (ad 64), .ref (ad 65), .ref (ad 66), .int m_column, .int m_printed, .ref (ad 67), .int m_repaired, .int m_paid])))]) (L' := [(37, (ad 37, .inr (6, [.int r1.2, .int m_rules, .ref (ad 38), .ref (ad 39), .ref (ad 40), .ref (ad 41), .ref (ad 42), .int m_length, .ref (ad 43), .int m_tree, .ref (ad 44), .int m_tokens, .ref (ad 45), .ref (ad 46), .ref (ad 47), .int m_comments, .ref (ad 48), .ref (ad 49), .ref (ad 50), .ref (ad 51), .ref (ad 52), .ref (ad 53), .int m_parts, .ref (ad 54), .ref (ad 55), .ref (ad 56), .ref (ad 57), .ref (ad 58), .ref (ad 59), .ref (ad 60), .ref (ad 61), .int m_end, .int m_open, .ref (ad 62), .ref (ad 63), .ref (ad 64), .ref (ad 65), .ref (ad 66), .int m_column, .int m_printed, .ref (ad 67), .int m_repaired, .int m_paid])))]) (r := r1.1) gX6_rest_X6_fail rfl rfl rfl hyVX6_fail ⟨Nat.le_of_ble_eq_true rfl, Nat.le_of_ble_eq_true rfl⟩ rfl rfl (Nat.le_of_ble_eq_true rfl) 37 rfl rfl dX6_rest_26 (fun w z hw => c_X6_fail (cI := cI) (cB := cB) (cJ := cJ) (cZ := cZ) (ad := ad) w z trivial (hw 37) hr1) rfl rfl ?_
    refine k_sub [] rfl ?_
    exact wjn_X6_rest_29 (cI := cI) (cB := cB) (cJ := cJ) (cZ := cZ) (ad := ad) E  _ _ h
  · skip
    refine k_aload_n dX6_rest_12 0 rfl rfl ?_
    refine k_get 37 11 rfl rfl qX6_rest_wX6 (by decide) qX6_rest_f126 rfl dX6_rest_13 ?_
    refine k_aload_n dX6_rest_16 0 rfl rfl ?_
    refine k_get 37 31 rfl rfl qX6_rest_wX6 (by decide) qX6_rest_f160 rfl dX6_rest_17 ?_
    refine k_isub dX6_rest_20 ?_
    refine k_goto 29 dX6_rest_21 (by decide) ?_
    refine k_sub [] rfl ?_
    exact wjn_X6_rest_29 (cI := cI) (cB := cB) (cJ := cJ) (cZ := cZ) (ad := ad) E  _ _ h
abbrev rmX6_character : Room := { frames := 1, cells := 0, slots := 0, locals := 21 }
abbrev xX6_character : KX := (rmX6_character, cX6_character, 2, some .int, RX6, wsX6_character)
theorem hySX6_character : yX6_character.cls ≠ "java/lang/invoke/MethodHandle" ∧ yX6_character.cls ≠ "java/lang/invoke/VarHandle" ∧ (parseMethodDescriptor yX6_character.desc).map (fun d => d.parameters.length) = some 1 := by decide +kernel
theorem hyVX6_character : yX6_character.cls = RX6 ∧ yX6_character.cls ≠ "java/lang/invoke/MethodHandle" ∧ yX6_character.cls ≠ "java/lang/invoke/VarHandle" ∧ (parseMethodDescriptor yX6_character.desc).map (fun d => d.parameters.length) = some 1 := ⟨rfl, hySX6_character⟩
theorem qX6_character_wX6 : ∀ w ∈ u_ws RX6 TX6 43, w ∈ wsX6_character := by decide +kernel
theorem qX6_character_f102 : Cond.fieldLink RX6 102 "KindParserModel" "thrown" "I" ∈ wsX6_character := by decide +kernel
theorem qX6_character_f187 : Cond.fieldLink RX6 187 "KindParserModel" "printed" "I" ∈ wsX6_character := by decide +kernel
theorem qX6_character_f99 : Cond.fieldLink RX6 99 "KindParserModel" "print" "[I" ∈ wsX6_character := by decide +kernel
set_option maxHeartbeats 4000000 in
set_option maxRecDepth 100000 in
theorem wjn_X6_character_30 {l : Launch} {D : va_G} {cI cB cJ cZ : ClassId} {ad : Nat → Nat} {ws : va_W} {z : Nat} {m_rules : Int32} {m_length : Int32} {m_tree : Int32} {m_tokens : Int32} {m_comments : Int32} {m_parts : Int32} {m_end : Int32} {m_open : Int32} {m_column : Int32} {m_printed : Int32} {m_repaired : Int32} {m_paid : Int32} {m_print : Nat → Int32} (E : ws[67]? = some (ad 67, .inl (cI, 6000, .inl m_print))) {o : Int32 × (Int32)}   : ∀ (s0 : Int32) (m_thrown : Int32), jn_X6_character_30 m_printed m_print s0 m_thrown = some o → KW l xX6_character D (kT cI cB cJ cZ) ws z (kQi D (kT cI cB cJ cZ) o.1 [(37, (ad 37, .inr (6, [.int o.2, .int m_rules, .ref (ad 38), .ref (ad 39), .ref (ad 40), .ref (ad 41), .ref (ad 42), .int m_length, .ref (ad 43), .int m_tree, .ref (ad 44), .int m_tokens, .ref (ad 45), .ref (ad 46), .ref (ad 47), .int m_comments, .ref (ad 48), .ref (ad 49), .ref (ad 50), .ref (ad 51), .ref (ad 52), .ref (ad 53), .int m_parts, .ref (ad 54), .ref (ad 55), .ref (ad 56), .ref (ad 57), .ref (ad 58), .ref (ad 59), .ref (ad 60), .ref (ad 61), .int m_end, .int m_open, .ref (ad 62), .ref (ad 63), .ref (ad 64), .ref (ad 65), .ref (ad 66), .int m_column, .int m_printed, .ref (ad 67), .int m_repaired, .int m_paid])))] ws z) 30 [] [.int s0] [(37, (ad 37, .inr (6, [.int m_thrown, .int m_rules, .ref (ad 38), .ref (ad 39), .ref (ad 40), .ref (ad 41), .ref (ad 42), .int m_length, .ref (ad 43), .int m_tree, .ref (ad 44), .int m_tokens, .ref (ad 45), .ref (ad 46), .ref (ad 47), .int m_comments, .ref (ad 48), .ref (ad 49), .ref (ad 50), .ref (ad 51), .ref (ad 52), .ref (ad 53), .int m_parts, .ref (ad 54), .ref (ad 55), .ref (ad 56), .ref (ad 57), .ref (ad 58), .ref (ad 59), .ref (ad 60), .ref (ad 61), .int m_end, .int m_open, .ref (ad 62), .ref (ad 63), .ref (ad 64), .ref (ad 65), .ref (ad 66), .int m_column, .int m_printed, .ref (ad 67), .int m_repaired, .int m_paid])))] := by
  intro s0 m_thrown h
  unfold jn_X6_character_30 at h
  obtain rfl := Option.some.inj h
  exact k_iret rfl dX6_character_30
set_option maxHeartbeats 4000000 in
set_option maxRecDepth 100000 in
/-- KindParserModel.character -/
theorem c_X6_character {l : Launch} {D : va_G} {cI cB cJ cZ : ClassId} {ad : Nat → Nat} (ws : va_W) (z : Nat) {m_thrown : Int32} {m_rules : Int32} {m_length : Int32} {m_tree : Int32} {m_tokens : Int32} {m_comments : Int32} {m_parts : Int32} {m_end : Int32} {m_open : Int32} {m_column : Int32} {m_printed : Int32} {m_repaired : Int32} {m_paid : Int32} {m_print : Nat → Int32} (E : ws[67]? = some (ad 67, .inl (cI, 6000, .inl m_print))) (e37 : ws[37]? = some (ad 37, .inr (6, [.int m_thrown, .int m_rules, .ref (ad 38), .ref (ad 39), .ref (ad 40), .ref (ad 41), .ref (ad 42), .int m_length, .ref (ad 43), .int m_tree, .ref (ad 44), .int m_tokens, .ref (ad 45), .ref (ad 46), .ref (ad 47), .int m_comments, .ref (ad 48), .ref (ad 49), .ref (ad 50), .ref (ad 51), .ref (ad 52), .ref (ad 53), .int m_parts, .ref (ad 54), .ref (ad 55), .ref (ad 56), .ref (ad 57), .ref (ad 58), .ref (ad 59), .ref (ad 60), .ref (ad 61), .int m_end, .int m_open, .ref (ad 62), .ref (ad 63), .ref (ad 64), .ref (ad 65), .ref (ad 66), .int m_column, .int m_printed, .ref (ad 67), .int m_repaired, .int m_paid]))) {a1 : Int32} {o : Int32 × (Int32)} (h : f_X6_character a1 m_printed m_print m_thrown = some o) : Met l yX6_character wsX6_character rmX6_character (kPc D (kT cI cB cJ cZ) [.ref (ad 37), .int a1] ws z) (kQi D (kT cI cB cJ cZ) o.1 [(37, (ad 37, .inr (6, [.int o.2, .int m_rules, .ref (ad 38), .ref (ad 39), .ref (ad 40), .ref (ad 41), .ref (ad 42), .int m_length, .ref (ad 43), .int m_tree, .ref (ad 44), .int m_tokens, .ref (ad 45), .ref (ad 46), .ref (ad 47), .int m_comments, .ref (ad 48), .ref (ad 49), .ref (ad 50), .ref (ad 51), .ref (ad 52), .ref (ad 53), .int m_parts, .ref (ad 54), .ref (ad 55), .ref (ad 56), .ref (ad 57), .ref (ad 58), .ref (ad 59), .ref (ad 60), .ref (ad 61), .int m_end, .int m_open, .ref (ad 62), .ref (ad 63), .ref (ad 64), .ref (ad 65), .ref (ad 66), .int m_column, .int m_printed, .ref (ad 67), .int m_repaired, .int m_paid])))] ws z) 0 0 (va_A ws z) := by
  refine KW.met (rm := rmX6_character) (lv := [(0, .ref (ad 37)), (1, .int a1)]) (L := [(37, (ad 37, .inr (6, [.int m_thrown, .int m_rules, .ref (ad 38), .ref (ad 39), .ref (ad 40), .ref (ad 41), .ref (ad 42), .int m_length, .ref (ad 43), .int m_tree, .ref (ad 44), .int m_tokens, .ref (ad 45), .ref (ad 46), .ref (ad 47), .int m_comments, .ref (ad 48), .ref (ad 49), .ref (ad 50), .ref (ad 51), .ref (ad 52), .ref (ad 53), .int m_parts, .ref (ad 54), .ref (ad 55), .ref (ad 56), .ref (ad 57), .ref (ad 58), .ref (ad 59), .ref (ad 60), .ref (ad 61), .int m_end, .int m_open, .ref (ad 62), .ref (ad 63), .ref (ad 64), .ref (ad 65), .ref (ad 66), .int m_column, .int m_printed, .ref (ad 67), .int m_repaired, .int m_paid])))]) rfl (by decide) (Nat.le_of_ble_eq_true rfl) rfl (by intro q hq; simp only [List.mem_cons, List.not_mem_nil, or_false] at hq; rcases hq with rfl <;> assumption) ?_
  unfold f_X6_character at h
  show KW l xX6_character D (kT cI cB cJ cZ) ws z (kQi D (kT cI cB cJ cZ) o.1 [(37, (ad 37, .inr (6, [.int o.2, .int m_rules, .ref (ad 38), .ref (ad 39), .ref (ad 40), .ref (ad 41), .ref (ad 42), .int m_length, .ref (ad 43), .int m_tree, .ref (ad 44), .int m_tokens, .ref (ad 45), .ref (ad 46), .ref (ad 47), .int m_comments, .ref (ad 48), .ref (ad 49), .ref (ad 50), .ref (ad 51), .ref (ad 52), .ref (ad 53), .int m_parts, .ref (ad 54), .ref (ad 55), .ref (ad 56), .ref (ad 57), .ref (ad 58), .ref (ad 59), .ref (ad 60), .ref (ad 61), .int m_end, .int m_open, .ref (ad 62), .ref (ad 63), .ref (ad 64), .ref (ad 65), .ref (ad 66), .int m_column, .int m_printed, .ref (ad 67), .int m_repaired, .int m_paid])))] ws z) 0 [(0, .ref (ad 37)), (1, .int a1)] [] [(37, (ad 37, .inr (6, [.int m_thrown, .int m_rules, .ref (ad 38), .ref (ad 39), .ref (ad 40), .ref (ad 41), .ref (ad 42), .int m_length, .ref (ad 43), .int m_tree, .ref (ad 44), .int m_tokens, .ref (ad 45), .ref (ad 46), .ref (ad 47), .int m_comments, .ref (ad 48), .ref (ad 49), .ref (ad 50), .ref (ad 51), .ref (ad 52), .ref (ad 53), .int m_parts, .ref (ad 54), .ref (ad 55), .ref (ad 56), .ref (ad 57), .ref (ad 58), .ref (ad 59), .ref (ad 60), .ref (ad 61), .int m_end, .int m_open, .ref (ad 62), .ref (ad 63), .ref (ad 64), .ref (ad 65), .ref (ad 66), .int m_column, .int m_printed, .ref (ad 67), .int m_repaired, .int m_paid])))]
  refine k_aload_n dX6_character_0 0 rfl rfl ?_
  refine k_iconst (v := 0) dX6_character_1 (by decide) ?_
  refine k_put (L' := [(37, (ad 37, .inr (6, [.int 0, .int m_rules, .ref (ad 38), .ref (ad 39), .ref (ad 40), .ref (ad 41), .ref (ad 42), .int m_length, .ref (ad 43), .int m_tree, .ref (ad 44), .int m_tokens, .ref (ad 45), .ref (ad 46), .ref (ad 47), .int m_comments, .ref (ad 48), .ref (ad 49), .ref (ad 50), .ref (ad 51), .ref (ad 52), .ref (ad 53), .int m_parts, .ref (ad 54), .ref (ad 55), .ref (ad 56), .ref (ad 57), .ref (ad 58), .ref (ad 59), .ref (ad 60), .ref (ad 61), .int m_end, .int m_open, .ref (ad 62), .ref (ad 63), .ref (ad 64), .ref (ad 65), .ref (ad 66), .int m_column, .int m_printed, .ref (ad 67), .int m_repaired, .int m_paid])))]) 37 0 rfl rfl qX6_character_wX6 (by decide) tyX6 tyX6_ok nmX6 rfl qX6_character_f102 rfl (tyX6_ok 0 (by decide)) rfl rfl (Nat.le_of_ble_eq_true rfl) dX6_character_2 rfl ?_
  refine k_iload_n dX6_character_5 1 rfl rfl ?_
  refine k_aload_n dX6_character_6 0 rfl rfl ?_
  refine k_get 37 39 rfl rfl qX6_character_wX6 (by decide) qX6_character_f187 rfl dX6_character_7 ?_
  obtain ⟨r1, hr1, h⟩ := Option.bind_eq_some_iff.mp h
  refine k_calliS (As := [.int a1, .int m_printed]) (st := []) (Lc := []) (L' := [(37, (ad 37, .inr (6, [.int 0, .int m_rules, .ref (ad 38), .ref (ad 39), .ref (ad 40), .ref (ad 41), .ref (ad 42), .int m_length, .ref (ad 43), .int m_tree, .ref (ad 44), .int m_tokens, .ref (ad 45), .ref (ad 46), .ref (ad 47), .int m_comments, .ref (ad 48), .ref (ad 49), .ref (ad 50), .ref (ad 51), .ref (ad 52), .ref (ad 53), .int m_parts, .ref (ad 54), .ref (ad 55), .ref (ad 56), .ref (ad 57), .ref (ad 58), .ref (ad 59), .ref (ad 60), .ref (ad 61), .int m_end, .int m_open, .ref (ad 62), .ref (ad 63), .ref (ad 64), .ref (ad 65), .ref (ad 66), .int m_column, .int m_printed, .ref (ad 67), .int m_repaired, .int m_paid])))]) (r := r1) gX6_character_X6_below rfl rfl rfl hySX6_below ⟨Nat.le_of_ble_eq_true rfl, Nat.le_of_ble_eq_true rfl⟩ rfl rfl (Nat.le_of_ble_eq_true rfl) dX6_character_10 (fun w z hw => c_X6_below (cI := cI) (cB := cB) (cJ := cJ) (cZ := cZ) (ad := ad) w z trivial  hr1) rfl rfl ?_
  refine k_if_eq 25 dX6_character_13 (by decide) h (fun h => ?_) (fun h => ?_)
  · skip
    refine k_aload_n dX6_character_25 0 rfl rfl ?_
    refine k_iconst (v := 1) dX6_character_26 (by decide) ?_
    obtain ⟨r2, hr2, h⟩ := Option.bind_eq_some_iff.mp h
    refine k_calliV (As := [.int 1]) (st := []) (Lc := [(37, (ad 37, .inr (6, [.int r2.2, .int m_rules, .ref (ad 38), .ref (ad 39), .ref (ad 40), .ref (ad 41), .ref (ad 42), .int m_length, .ref (ad 43), .int m_tree, .ref (ad 44), .int m_tokens, .ref (ad 45), .ref (ad 46), .ref (ad 47), .int m_comments, .ref (ad 48), .ref (ad 49), .ref (ad 50), .ref (ad 51), .ref (ad 52), .ref (ad 53), .int m_parts, .ref (ad 54), .ref (ad 55), .ref (ad 56), .ref (ad 57), .ref (ad 58), .ref (ad 59), .ref (ad 60), .ref (ad 61), .int m_end, .int m_open, .ref (ad 62), .ref (ad 63), .ref (ad 64), .ref (ad 65), .ref (ad 66), .int m_column, .int m_printed, .ref (ad 67), .int m_repaired, .int m_paid])))]) (L' := [(37, (ad 37, .inr (6, [.int r2.2, .int m_rules, .ref (ad 38), .ref (ad 39), .ref (ad 40), .ref (ad 41), .ref (ad 42), .int m_length, .ref (ad 43), .int m_tree, .ref (ad 44), .int m_tokens, .ref (ad 45), .ref (ad 46), .ref (ad 47), .int m_comments, .ref (ad 48), .ref (ad 49), .ref (ad 50), .ref (ad 51), .ref (ad 52), .ref (ad 53), .int m_parts, .ref (ad 54), .ref (ad 55), .ref (ad 56), .ref (ad 57), .ref (ad 58), .ref (ad 59), .ref (ad 60), .ref (ad 61), .int m_end, .int m_open, .ref (ad 62), .ref (ad 63), .ref (ad 64), .ref (ad 65), .ref (ad 66), .int m_column, .int m_printed, .ref (ad 67), .int m_repaired, .int m_paid])))]) (r := r2.1) gX6_character_X6_fail rfl rfl rfl hyVX6_fail ⟨Nat.le_of_ble_eq_true rfl, Nat.le_of_ble_eq_true rfl⟩ rfl rfl (Nat.le_of_ble_eq_true rfl) 37 rfl rfl dX6_character_27 (fun w z hw => c_X6_fail (cI := cI) (cB := cB) (cJ := cJ) (cZ := cZ) (ad := ad) w z trivial (hw 37) hr2) rfl rfl ?_
    refine k_sub [] rfl ?_
    exact wjn_X6_character_30 (cI := cI) (cB := cB) (cJ := cJ) (cZ := cZ) (ad := ad) E  _ _ h
  · skip
    refine k_aload_n dX6_character_16 0 rfl rfl ?_
    refine k_get 37 40 rfl rfl qX6_character_wX6 (by decide) qX6_character_f99 rfl dX6_character_17 ?_
    refine k_iload_n dX6_character_20 1 rfl rfl ?_
    refine k_iald 67 0 E rfl dX6_character_21 h (fun v3 h => ?_)
    refine k_goto 30 dX6_character_22 (by decide) ?_
    refine k_sub [] rfl ?_
    exact wjn_X6_character_30 (cI := cI) (cB := cB) (cJ := cJ) (cZ := cZ) (ad := ad) E  _ _ h
abbrev rmX6_count : Room := { frames := 0, cells := 0, slots := 0, locals := 0 }
abbrev xX6_count : KX := (rmX6_count, cX6_count, 2, some .int, RX6, wsX6_count)
theorem hySX6_count : yX6_count.cls ≠ "java/lang/invoke/MethodHandle" ∧ yX6_count.cls ≠ "java/lang/invoke/VarHandle" ∧ (parseMethodDescriptor yX6_count.desc).map (fun d => d.parameters.length) = some 1 := by decide +kernel
theorem hyVX6_count : yX6_count.cls = RX6 ∧ yX6_count.cls ≠ "java/lang/invoke/MethodHandle" ∧ yX6_count.cls ≠ "java/lang/invoke/VarHandle" ∧ (parseMethodDescriptor yX6_count.desc).map (fun d => d.parameters.length) = some 1 := ⟨rfl, hySX6_count⟩
theorem qX6_count_wX6 : ∀ w ∈ u_ws RX6 TX6 43, w ∈ wsX6_count := by decide +kernel
theorem qX6_count_f102 : Cond.fieldLink RX6 102 "KindParserModel" "thrown" "I" ∈ wsX6_count := by decide +kernel
theorem qX6_count_f110 : Cond.fieldLink RX6 110 "KindParserModel" "rules" "I" ∈ wsX6_count := by decide +kernel
theorem qX6_count_f181 : Cond.fieldLink RX6 181 "KindParserModel" "repaired" "I" ∈ wsX6_count := by decide +kernel
theorem qX6_count_f184 : Cond.fieldLink RX6 184 "KindParserModel" "paid" "I" ∈ wsX6_count := by decide +kernel
set_option maxHeartbeats 4000000 in
set_option maxRecDepth 100000 in
theorem wjn_X6_count_41 {l : Launch} {D : va_G} {cI cB cJ cZ : ClassId} {ad : Nat → Nat} {ws : va_W} {z : Nat} {m_rules : Int32} {m_length : Int32} {m_tree : Int32} {m_tokens : Int32} {m_comments : Int32} {m_parts : Int32} {m_end : Int32} {m_open : Int32} {m_column : Int32} {m_printed : Int32} {m_repaired : Int32} {m_paid : Int32} (E : True) {o : Int32 × (Int32)}   : ∀ (s0 : Int32) (m_thrown : Int32), jn_X6_count_41 m_rules m_repaired m_paid s0 m_thrown = some o → KW l xX6_count D (kT cI cB cJ cZ) ws z (kQi D (kT cI cB cJ cZ) o.1 [(37, (ad 37, .inr (6, [.int o.2, .int m_rules, .ref (ad 38), .ref (ad 39), .ref (ad 40), .ref (ad 41), .ref (ad 42), .int m_length, .ref (ad 43), .int m_tree, .ref (ad 44), .int m_tokens, .ref (ad 45), .ref (ad 46), .ref (ad 47), .int m_comments, .ref (ad 48), .ref (ad 49), .ref (ad 50), .ref (ad 51), .ref (ad 52), .ref (ad 53), .int m_parts, .ref (ad 54), .ref (ad 55), .ref (ad 56), .ref (ad 57), .ref (ad 58), .ref (ad 59), .ref (ad 60), .ref (ad 61), .int m_end, .int m_open, .ref (ad 62), .ref (ad 63), .ref (ad 64), .ref (ad 65), .ref (ad 66), .int m_column, .int m_printed, .ref (ad 67), .int m_repaired, .int m_paid])))] ws z) 41 [] [.int s0] [(37, (ad 37, .inr (6, [.int m_thrown, .int m_rules, .ref (ad 38), .ref (ad 39), .ref (ad 40), .ref (ad 41), .ref (ad 42), .int m_length, .ref (ad 43), .int m_tree, .ref (ad 44), .int m_tokens, .ref (ad 45), .ref (ad 46), .ref (ad 47), .int m_comments, .ref (ad 48), .ref (ad 49), .ref (ad 50), .ref (ad 51), .ref (ad 52), .ref (ad 53), .int m_parts, .ref (ad 54), .ref (ad 55), .ref (ad 56), .ref (ad 57), .ref (ad 58), .ref (ad 59), .ref (ad 60), .ref (ad 61), .int m_end, .int m_open, .ref (ad 62), .ref (ad 63), .ref (ad 64), .ref (ad 65), .ref (ad 66), .int m_column, .int m_printed, .ref (ad 67), .int m_repaired, .int m_paid])))] := by
  intro s0 m_thrown h
  unfold jn_X6_count_41 at h
  obtain rfl := Option.some.inj h
  exact k_iret rfl dX6_count_41
set_option maxHeartbeats 4000000 in
set_option maxRecDepth 100000 in
/-- KindParserModel.count -/
theorem c_X6_count {l : Launch} {D : va_G} {cI cB cJ cZ : ClassId} {ad : Nat → Nat} (ws : va_W) (z : Nat) {m_thrown : Int32} {m_rules : Int32} {m_length : Int32} {m_tree : Int32} {m_tokens : Int32} {m_comments : Int32} {m_parts : Int32} {m_end : Int32} {m_open : Int32} {m_column : Int32} {m_printed : Int32} {m_repaired : Int32} {m_paid : Int32} (E : True) (e37 : ws[37]? = some (ad 37, .inr (6, [.int m_thrown, .int m_rules, .ref (ad 38), .ref (ad 39), .ref (ad 40), .ref (ad 41), .ref (ad 42), .int m_length, .ref (ad 43), .int m_tree, .ref (ad 44), .int m_tokens, .ref (ad 45), .ref (ad 46), .ref (ad 47), .int m_comments, .ref (ad 48), .ref (ad 49), .ref (ad 50), .ref (ad 51), .ref (ad 52), .ref (ad 53), .int m_parts, .ref (ad 54), .ref (ad 55), .ref (ad 56), .ref (ad 57), .ref (ad 58), .ref (ad 59), .ref (ad 60), .ref (ad 61), .int m_end, .int m_open, .ref (ad 62), .ref (ad 63), .ref (ad 64), .ref (ad 65), .ref (ad 66), .int m_column, .int m_printed, .ref (ad 67), .int m_repaired, .int m_paid]))) {a1 : Int32} {o : Int32 × (Int32)} (h : f_X6_count a1 m_rules m_repaired m_paid m_thrown = some o) : Met l yX6_count wsX6_count rmX6_count (kPc D (kT cI cB cJ cZ) [.ref (ad 37), .int a1] ws z) (kQi D (kT cI cB cJ cZ) o.1 [(37, (ad 37, .inr (6, [.int o.2, .int m_rules, .ref (ad 38), .ref (ad 39), .ref (ad 40), .ref (ad 41), .ref (ad 42), .int m_length, .ref (ad 43), .int m_tree, .ref (ad 44), .int m_tokens, .ref (ad 45), .ref (ad 46), .ref (ad 47), .int m_comments, .ref (ad 48), .ref (ad 49), .ref (ad 50), .ref (ad 51), .ref (ad 52), .ref (ad 53), .int m_parts, .ref (ad 54), .ref (ad 55), .ref (ad 56), .ref (ad 57), .ref (ad 58), .ref (ad 59), .ref (ad 60), .ref (ad 61), .int m_end, .int m_open, .ref (ad 62), .ref (ad 63), .ref (ad 64), .ref (ad 65), .ref (ad 66), .int m_column, .int m_printed, .ref (ad 67), .int m_repaired, .int m_paid])))] ws z) 0 0 (va_A ws z) := by
  refine KW.met (rm := rmX6_count) (lv := [(0, .ref (ad 37)), (1, .int a1)]) (L := [(37, (ad 37, .inr (6, [.int m_thrown, .int m_rules, .ref (ad 38), .ref (ad 39), .ref (ad 40), .ref (ad 41), .ref (ad 42), .int m_length, .ref (ad 43), .int m_tree, .ref (ad 44), .int m_tokens, .ref (ad 45), .ref (ad 46), .ref (ad 47), .int m_comments, .ref (ad 48), .ref (ad 49), .ref (ad 50), .ref (ad 51), .ref (ad 52), .ref (ad 53), .int m_parts, .ref (ad 54), .ref (ad 55), .ref (ad 56), .ref (ad 57), .ref (ad 58), .ref (ad 59), .ref (ad 60), .ref (ad 61), .int m_end, .int m_open, .ref (ad 62), .ref (ad 63), .ref (ad 64), .ref (ad 65), .ref (ad 66), .int m_column, .int m_printed, .ref (ad 67), .int m_repaired, .int m_paid])))]) rfl (by decide) (Nat.le_of_ble_eq_true rfl) rfl (by intro q hq; simp only [List.mem_cons, List.not_mem_nil, or_false] at hq; rcases hq with rfl <;> assumption) ?_
  unfold f_X6_count at h
  show KW l xX6_count D (kT cI cB cJ cZ) ws z (kQi D (kT cI cB cJ cZ) o.1 [(37, (ad 37, .inr (6, [.int o.2, .int m_rules, .ref (ad 38), .ref (ad 39), .ref (ad 40), .ref (ad 41), .ref (ad 42), .int m_length, .ref (ad 43), .int m_tree, .ref (ad 44), .int m_tokens, .ref (ad 45), .ref (ad 46), .ref (ad 47), .int m_comments, .ref (ad 48), .ref (ad 49), .ref (ad 50), .ref (ad 51), .ref (ad 52), .ref (ad 53), .int m_parts, .ref (ad 54), .ref (ad 55), .ref (ad 56), .ref (ad 57), .ref (ad 58), .ref (ad 59), .ref (ad 60), .ref (ad 61), .int m_end, .int m_open, .ref (ad 62), .ref (ad 63), .ref (ad 64), .ref (ad 65), .ref (ad 66), .int m_column, .int m_printed, .ref (ad 67), .int m_repaired, .int m_paid])))] ws z) 0 [(0, .ref (ad 37)), (1, .int a1)] [] [(37, (ad 37, .inr (6, [.int m_thrown, .int m_rules, .ref (ad 38), .ref (ad 39), .ref (ad 40), .ref (ad 41), .ref (ad 42), .int m_length, .ref (ad 43), .int m_tree, .ref (ad 44), .int m_tokens, .ref (ad 45), .ref (ad 46), .ref (ad 47), .int m_comments, .ref (ad 48), .ref (ad 49), .ref (ad 50), .ref (ad 51), .ref (ad 52), .ref (ad 53), .int m_parts, .ref (ad 54), .ref (ad 55), .ref (ad 56), .ref (ad 57), .ref (ad 58), .ref (ad 59), .ref (ad 60), .ref (ad 61), .int m_end, .int m_open, .ref (ad 62), .ref (ad 63), .ref (ad 64), .ref (ad 65), .ref (ad 66), .int m_column, .int m_printed, .ref (ad 67), .int m_repaired, .int m_paid])))]
  refine k_aload_n dX6_count_0 0 rfl rfl ?_
  refine k_iconst (v := 0) dX6_count_1 (by decide) ?_
  refine k_put (L' := [(37, (ad 37, .inr (6, [.int 0, .int m_rules, .ref (ad 38), .ref (ad 39), .ref (ad 40), .ref (ad 41), .ref (ad 42), .int m_length, .ref (ad 43), .int m_tree, .ref (ad 44), .int m_tokens, .ref (ad 45), .ref (ad 46), .ref (ad 47), .int m_comments, .ref (ad 48), .ref (ad 49), .ref (ad 50), .ref (ad 51), .ref (ad 52), .ref (ad 53), .int m_parts, .ref (ad 54), .ref (ad 55), .ref (ad 56), .ref (ad 57), .ref (ad 58), .ref (ad 59), .ref (ad 60), .ref (ad 61), .int m_end, .int m_open, .ref (ad 62), .ref (ad 63), .ref (ad 64), .ref (ad 65), .ref (ad 66), .int m_column, .int m_printed, .ref (ad 67), .int m_repaired, .int m_paid])))]) 37 0 rfl rfl qX6_count_wX6 (by decide) tyX6 tyX6_ok nmX6 rfl qX6_count_f102 rfl (tyX6_ok 0 (by decide)) rfl rfl (Nat.le_of_ble_eq_true rfl) dX6_count_2 rfl ?_
  refine k_iload_n dX6_count_5 1 rfl rfl ?_
  refine k_if_ne 16 dX6_count_6 (by decide) h (fun h => ?_) (fun h => ?_)
  · skip
    refine k_aload_n dX6_count_9 0 rfl rfl ?_
    refine k_get 37 1 rfl rfl qX6_count_wX6 (by decide) qX6_count_f110 rfl dX6_count_10 ?_
    refine k_goto 41 dX6_count_13 (by decide) ?_
    refine k_sub [] rfl ?_
    exact wjn_X6_count_41 (cI := cI) (cB := cB) (cJ := cJ) (cZ := cZ) (ad := ad) E  _ _ h
  · skip
    refine k_iload_n dX6_count_16 1 rfl rfl ?_
    refine k_iconst (v := 1) dX6_count_17 (by decide) ?_
    refine k_icmp_ne 28 dX6_count_18 (by decide) h (fun h => ?_) (fun h => ?_)
    · skip
      refine k_aload_n dX6_count_21 0 rfl rfl ?_
      refine k_get 37 41 rfl rfl qX6_count_wX6 (by decide) qX6_count_f181 rfl dX6_count_22 ?_
      refine k_goto 41 dX6_count_25 (by decide) ?_
      refine k_sub [] rfl ?_
      exact wjn_X6_count_41 (cI := cI) (cB := cB) (cJ := cJ) (cZ := cZ) (ad := ad) E  _ _ h
    · skip
      refine k_iload_n dX6_count_28 1 rfl rfl ?_
      refine k_iconst (v := 2) dX6_count_29 (by decide) ?_
      refine k_icmp_ne 40 dX6_count_30 (by decide) h (fun h => ?_) (fun h => ?_)
      · skip
        refine k_aload_n dX6_count_33 0 rfl rfl ?_
        refine k_get 37 42 rfl rfl qX6_count_wX6 (by decide) qX6_count_f184 rfl dX6_count_34 ?_
        refine k_goto 41 dX6_count_37 (by decide) ?_
        refine k_sub [] rfl ?_
        exact wjn_X6_count_41 (cI := cI) (cB := cB) (cJ := cJ) (cZ := cZ) (ad := ad) E  _ _ h
      · skip
        refine k_iconst (v := (-1)) dX6_count_40 (by decide) ?_
        refine k_sub [] rfl ?_
        exact wjn_X6_count_41 (cI := cI) (cB := cB) (cJ := cJ) (cZ := cZ) (ad := ad) E  _ _ h
