abbrev rmX6_write : Room := { frames := 1, cells := 0, slots := 0, locals := 21 }
abbrev xX6_write : KX := (rmX6_write, cX6_write, 6, some .int, RX6, wsX6_write)
theorem hySX6_write : yX6_write.cls ≠ "java/lang/invoke/MethodHandle" ∧ yX6_write.cls ≠ "java/lang/invoke/VarHandle" ∧ (parseMethodDescriptor yX6_write.desc).map (fun d => d.parameters.length) = some 2 := by decide +kernel
theorem hyVX6_write : yX6_write.cls = RX6 ∧ yX6_write.cls ≠ "java/lang/invoke/MethodHandle" ∧ yX6_write.cls ≠ "java/lang/invoke/VarHandle" ∧ (parseMethodDescriptor yX6_write.desc).map (fun d => d.parameters.length) = some 2 := ⟨rfl, hySX6_write⟩
theorem qX6_write_wX6 : ∀ w ∈ u_ws RX6 TX6 43, w ∈ wsX6_write := by decide +kernel
theorem qX6_write_f102 : Cond.fieldLink RX6 102 "KindParserModel" "thrown" "I" ∈ wsX6_write := by decide +kernel
theorem qX6_write_k117 : Cond.constantLong RX6 117 255 ∈ wsX6_write := by decide +kernel
theorem qX6_write_f119 : Cond.fieldLink RX6 119 "KindParserModel" "length" "I" ∈ wsX6_write := by decide +kernel
theorem qX6_write_f26 : Cond.fieldLink RX6 26 "KindParserModel" "text" "[I" ∈ wsX6_write := by decide +kernel
set_option maxHeartbeats 4000000 in
set_option maxRecDepth 100000 in
theorem wjn_X6_write_16 {l : Launch} {D : va_G} {cI cB cJ cZ : ClassId} {ad : Nat → Nat} {ws : va_W} {z : Nat} {m_rules : Int32} {m_tree : Int32} {m_tokens : Int32} {m_comments : Int32} {m_parts : Int32} {m_end : Int32} {m_open : Int32} {m_column : Int32} {m_printed : Int32} {m_repaired : Int32} {m_paid : Int32} (E : True) {o : Int32 × (Int32) × (Int32) × (Nat → Int32)}   : ∀ (m_thrown : Int32) (m_length : Int32) (m_text : Nat → Int32), jn_X6_write_16  m_thrown m_length m_text = some o → KW l xX6_write D (kT cI cB cJ cZ) ws z (kQi D (kT cI cB cJ cZ) o.1 [(37, (ad 37, .inr (6, [.int o.2.1, .int m_rules, .ref (ad 38), .ref (ad 39), .ref (ad 40), .ref (ad 41), .ref (ad 42), .int o.2.2.1, .ref (ad 43), .int m_tree, .ref (ad 44), .int m_tokens, .ref (ad 45), .ref (ad 46), .ref (ad 47), .int m_comments, .ref (ad 48), .ref (ad 49), .ref (ad 50), .ref (ad 51), .ref (ad 52), .ref (ad 53), .int m_parts, .ref (ad 54), .ref (ad 55), .ref (ad 56), .ref (ad 57), .ref (ad 58), .ref (ad 59), .ref (ad 60), .ref (ad 61), .int m_end, .int m_open, .ref (ad 62), .ref (ad 63), .ref (ad 64), .ref (ad 65), .ref (ad 66), .int m_column, .int m_printed, .ref (ad 67), .int m_repaired, .int m_paid]))), (43, (ad 43, .inl (cI, 80, .inl o.2.2.2)))] ws z) 16 [(0, .ref (ad 37))] [] [(37, (ad 37, .inr (6, [.int m_thrown, .int m_rules, .ref (ad 38), .ref (ad 39), .ref (ad 40), .ref (ad 41), .ref (ad 42), .int m_length, .ref (ad 43), .int m_tree, .ref (ad 44), .int m_tokens, .ref (ad 45), .ref (ad 46), .ref (ad 47), .int m_comments, .ref (ad 48), .ref (ad 49), .ref (ad 50), .ref (ad 51), .ref (ad 52), .ref (ad 53), .int m_parts, .ref (ad 54), .ref (ad 55), .ref (ad 56), .ref (ad 57), .ref (ad 58), .ref (ad 59), .ref (ad 60), .ref (ad 61), .int m_end, .int m_open, .ref (ad 62), .ref (ad 63), .ref (ad 64), .ref (ad 65), .ref (ad 66), .int m_column, .int m_printed, .ref (ad 67), .int m_repaired, .int m_paid]))), (43, (ad 43, .inl (cI, 80, .inl m_text)))] := by
  intro m_thrown m_length m_text h
  unfold jn_X6_write_16 at h
  refine k_aload_n dX6_write_16 0 rfl rfl ?_
  refine k_iconst (v := 1) dX6_write_17 (by decide) ?_
  obtain ⟨r1, hr1, h⟩ := Option.bind_eq_some_iff.mp h
  refine k_calliV (As := [.int 1]) (st := []) (Lc := [(37, (ad 37, .inr (6, [.int r1.2, .int m_rules, .ref (ad 38), .ref (ad 39), .ref (ad 40), .ref (ad 41), .ref (ad 42), .int m_length, .ref (ad 43), .int m_tree, .ref (ad 44), .int m_tokens, .ref (ad 45), .ref (ad 46), .ref (ad 47), .int m_comments, .ref (ad 48), .ref (ad 49), .ref (ad 50), .ref (ad 51), .ref (ad 52), .ref (ad 53), .int m_parts, .ref (ad 54), .ref (ad 55), .ref (ad 56), .ref (ad 57), .ref (ad 58), .ref (ad 59), .ref (ad 60), .ref (ad 61), .int m_end, .int m_open, .ref (ad 62), .ref (ad 63), .ref (ad 64), .ref (ad 65), .ref (ad 66), .int m_column, .int m_printed, .ref (ad 67), .int m_repaired, .int m_paid])))]) (L' := [(37, (ad 37, .inr (6, [.int r1.2, .int m_rules, .ref (ad 38), .ref (ad 39), .ref (ad 40), .ref (ad 41), .ref (ad 42), .int m_length, .ref (ad 43), .int m_tree, .ref (ad 44), .int m_tokens, .ref (ad 45), .ref (ad 46), .ref (ad 47), .int m_comments, .ref (ad 48), .ref (ad 49), .ref (ad 50), .ref (ad 51), .ref (ad 52), .ref (ad 53), .int m_parts, .ref (ad 54), .ref (ad 55), .ref (ad 56), .ref (ad 57), .ref (ad 58), .ref (ad 59), .ref (ad 60), .ref (ad 61), .int m_end, .int m_open, .ref (ad 62), .ref (ad 63), .ref (ad 64), .ref (ad 65), .ref (ad 66), .int m_column, .int m_printed, .ref (ad 67), .int m_repaired, .int m_paid]))), (43, (ad 43, .inl (cI, 80, .inl m_text)))]) (r := r1.1) gX6_write_X6_fail rfl rfl rfl hyVX6_fail ⟨Nat.le_of_ble_eq_true rfl, Nat.le_of_ble_eq_true rfl⟩ rfl rfl (Nat.le_of_ble_eq_true rfl) 37 rfl rfl dX6_write_18 (fun w z hw => c_X6_fail (cI := cI) (cB := cB) (cJ := cJ) (cZ := cZ) (ad := ad) w z trivial (hw 37) hr1) rfl rfl ?_
  obtain rfl := Option.some.inj h
  exact k_iret rfl dX6_write_21
set_option maxHeartbeats 4000000 in
set_option maxRecDepth 100000 in
theorem wjn_X6_write_72 {l : Launch} {D : va_G} {cI cB cJ cZ : ClassId} {ad : Nat → Nat} {ws : va_W} {z : Nat} {m_rules : Int32} {m_tree : Int32} {m_tokens : Int32} {m_comments : Int32} {m_parts : Int32} {m_end : Int32} {m_open : Int32} {m_column : Int32} {m_printed : Int32} {m_repaired : Int32} {m_paid : Int32} (E : True) {o : Int32 × (Int32) × (Int32) × (Nat → Int32)} {k25 : (Int64) → (Int32) → (Int32) → (Int32) → (Int32) → (Nat → Int32) → Option (Int32 × (Int32) × (Int32) × (Nat → Int32))} (hk25 : ∀ (x1 : Int64) (x3 : Int32) (x4 : Int32) (m_thrown : Int32) (m_length : Int32) (m_text : Nat → Int32), k25 x1 x3 x4 m_thrown m_length m_text = some o → KW l xX6_write D (kT cI cB cJ cZ) ws z (kQi D (kT cI cB cJ cZ) o.1 [(37, (ad 37, .inr (6, [.int o.2.1, .int m_rules, .ref (ad 38), .ref (ad 39), .ref (ad 40), .ref (ad 41), .ref (ad 42), .int o.2.2.1, .ref (ad 43), .int m_tree, .ref (ad 44), .int m_tokens, .ref (ad 45), .ref (ad 46), .ref (ad 47), .int m_comments, .ref (ad 48), .ref (ad 49), .ref (ad 50), .ref (ad 51), .ref (ad 52), .ref (ad 53), .int m_parts, .ref (ad 54), .ref (ad 55), .ref (ad 56), .ref (ad 57), .ref (ad 58), .ref (ad 59), .ref (ad 60), .ref (ad 61), .int m_end, .int m_open, .ref (ad 62), .ref (ad 63), .ref (ad 64), .ref (ad 65), .ref (ad 66), .int m_column, .int m_printed, .ref (ad 67), .int m_repaired, .int m_paid]))), (43, (ad 43, .inl (cI, 80, .inl o.2.2.2)))] ws z) 25 [(0, .ref (ad 37)), (1, .long x1), (3, .int x3), (4, .int x4)] [] [(37, (ad 37, .inr (6, [.int m_thrown, .int m_rules, .ref (ad 38), .ref (ad 39), .ref (ad 40), .ref (ad 41), .ref (ad 42), .int m_length, .ref (ad 43), .int m_tree, .ref (ad 44), .int m_tokens, .ref (ad 45), .ref (ad 46), .ref (ad 47), .int m_comments, .ref (ad 48), .ref (ad 49), .ref (ad 50), .ref (ad 51), .ref (ad 52), .ref (ad 53), .int m_parts, .ref (ad 54), .ref (ad 55), .ref (ad 56), .ref (ad 57), .ref (ad 58), .ref (ad 59), .ref (ad 60), .ref (ad 61), .int m_end, .int m_open, .ref (ad 62), .ref (ad 63), .ref (ad 64), .ref (ad 65), .ref (ad 66), .int m_column, .int m_printed, .ref (ad 67), .int m_repaired, .int m_paid]))), (43, (ad 43, .inl (cI, 80, .inl m_text)))]) : ∀ (x1 : Int64) (x3 : Int32) (x4 : Int32) (m_thrown : Int32) (m_length : Int32) (m_text : Nat → Int32), jn_X6_write_72  k25 x1 x3 x4 m_thrown m_length m_text = some o → KW l xX6_write D (kT cI cB cJ cZ) ws z (kQi D (kT cI cB cJ cZ) o.1 [(37, (ad 37, .inr (6, [.int o.2.1, .int m_rules, .ref (ad 38), .ref (ad 39), .ref (ad 40), .ref (ad 41), .ref (ad 42), .int o.2.2.1, .ref (ad 43), .int m_tree, .ref (ad 44), .int m_tokens, .ref (ad 45), .ref (ad 46), .ref (ad 47), .int m_comments, .ref (ad 48), .ref (ad 49), .ref (ad 50), .ref (ad 51), .ref (ad 52), .ref (ad 53), .int m_parts, .ref (ad 54), .ref (ad 55), .ref (ad 56), .ref (ad 57), .ref (ad 58), .ref (ad 59), .ref (ad 60), .ref (ad 61), .int m_end, .int m_open, .ref (ad 62), .ref (ad 63), .ref (ad 64), .ref (ad 65), .ref (ad 66), .int m_column, .int m_printed, .ref (ad 67), .int m_repaired, .int m_paid]))), (43, (ad 43, .inl (cI, 80, .inl o.2.2.2)))] ws z) 72 [(0, .ref (ad 37)), (1, .long x1), (3, .int x3), (4, .int x4)] [] [(37, (ad 37, .inr (6, [.int m_thrown, .int m_rules, .ref (ad 38), .ref (ad 39), .ref (ad 40), .ref (ad 41), .ref (ad 42), .int m_length, .ref (ad 43), .int m_tree, .ref (ad 44), .int m_tokens, .ref (ad 45), .ref (ad 46), .ref (ad 47), .int m_comments, .ref (ad 48), .ref (ad 49), .ref (ad 50), .ref (ad 51), .ref (ad 52), .ref (ad 53), .int m_parts, .ref (ad 54), .ref (ad 55), .ref (ad 56), .ref (ad 57), .ref (ad 58), .ref (ad 59), .ref (ad 60), .ref (ad 61), .int m_end, .int m_open, .ref (ad 62), .ref (ad 63), .ref (ad 64), .ref (ad 65), .ref (ad 66), .int m_column, .int m_printed, .ref (ad 67), .int m_repaired, .int m_paid]))), (43, (ad 43, .inl (cI, 80, .inl m_text)))] := by
  intro x1 x3 x4 m_thrown m_length m_text h
  unfold jn_X6_write_72 at h
  refine k_iinc (i := 4) (lv' := fun x => [(4, .int x), (0, .ref (ad 37)), (1, .long x1), (3, .int x3)]) dX6_write_72 3 rfl (Nat.le_of_ble_eq_true rfl) (fun _ => rfl) h (fun x4_4 h => ?_)
  refine k_goto 25 dX6_write_75 (by decide) ?_
  refine k_sub [1, 2, 3, 0] rfl ?_
  exact hk25 _ _ _ _ _ _ h
set_option maxHeartbeats 4000000 in
set_option maxRecDepth 100000 in
theorem wjn_X6_write_66 {l : Launch} {D : va_G} {cI cB cJ cZ : ClassId} {ad : Nat → Nat} {ws : va_W} {z : Nat} {m_rules : Int32} {m_tree : Int32} {m_tokens : Int32} {m_comments : Int32} {m_parts : Int32} {m_end : Int32} {m_open : Int32} {m_column : Int32} {m_printed : Int32} {m_repaired : Int32} {m_paid : Int32} (E : True) {o : Int32 × (Int32) × (Int32) × (Nat → Int32)}   : ∀ (m_thrown : Int32) (m_length : Int32) (m_text : Nat → Int32), jn_X6_write_66  m_thrown m_length m_text = some o → KW l xX6_write D (kT cI cB cJ cZ) ws z (kQi D (kT cI cB cJ cZ) o.1 [(37, (ad 37, .inr (6, [.int o.2.1, .int m_rules, .ref (ad 38), .ref (ad 39), .ref (ad 40), .ref (ad 41), .ref (ad 42), .int o.2.2.1, .ref (ad 43), .int m_tree, .ref (ad 44), .int m_tokens, .ref (ad 45), .ref (ad 46), .ref (ad 47), .int m_comments, .ref (ad 48), .ref (ad 49), .ref (ad 50), .ref (ad 51), .ref (ad 52), .ref (ad 53), .int m_parts, .ref (ad 54), .ref (ad 55), .ref (ad 56), .ref (ad 57), .ref (ad 58), .ref (ad 59), .ref (ad 60), .ref (ad 61), .int m_end, .int m_open, .ref (ad 62), .ref (ad 63), .ref (ad 64), .ref (ad 65), .ref (ad 66), .int m_column, .int m_printed, .ref (ad 67), .int m_repaired, .int m_paid]))), (43, (ad 43, .inl (cI, 80, .inl o.2.2.2)))] ws z) 66 [(0, .ref (ad 37))] [] [(37, (ad 37, .inr (6, [.int m_thrown, .int m_rules, .ref (ad 38), .ref (ad 39), .ref (ad 40), .ref (ad 41), .ref (ad 42), .int m_length, .ref (ad 43), .int m_tree, .ref (ad 44), .int m_tokens, .ref (ad 45), .ref (ad 46), .ref (ad 47), .int m_comments, .ref (ad 48), .ref (ad 49), .ref (ad 50), .ref (ad 51), .ref (ad 52), .ref (ad 53), .int m_parts, .ref (ad 54), .ref (ad 55), .ref (ad 56), .ref (ad 57), .ref (ad 58), .ref (ad 59), .ref (ad 60), .ref (ad 61), .int m_end, .int m_open, .ref (ad 62), .ref (ad 63), .ref (ad 64), .ref (ad 65), .ref (ad 66), .int m_column, .int m_printed, .ref (ad 67), .int m_repaired, .int m_paid]))), (43, (ad 43, .inl (cI, 80, .inl m_text)))] := by
  intro m_thrown m_length m_text h
  unfold jn_X6_write_66 at h
  refine k_aload_n dX6_write_66 0 rfl rfl ?_
  refine k_iconst (v := 1) dX6_write_67 (by decide) ?_
  obtain ⟨r5, hr5, h⟩ := Option.bind_eq_some_iff.mp h
  refine k_calliV (As := [.int 1]) (st := []) (Lc := [(37, (ad 37, .inr (6, [.int r5.2, .int m_rules, .ref (ad 38), .ref (ad 39), .ref (ad 40), .ref (ad 41), .ref (ad 42), .int m_length, .ref (ad 43), .int m_tree, .ref (ad 44), .int m_tokens, .ref (ad 45), .ref (ad 46), .ref (ad 47), .int m_comments, .ref (ad 48), .ref (ad 49), .ref (ad 50), .ref (ad 51), .ref (ad 52), .ref (ad 53), .int m_parts, .ref (ad 54), .ref (ad 55), .ref (ad 56), .ref (ad 57), .ref (ad 58), .ref (ad 59), .ref (ad 60), .ref (ad 61), .int m_end, .int m_open, .ref (ad 62), .ref (ad 63), .ref (ad 64), .ref (ad 65), .ref (ad 66), .int m_column, .int m_printed, .ref (ad 67), .int m_repaired, .int m_paid])))]) (L' := [(37, (ad 37, .inr (6, [.int r5.2, .int m_rules, .ref (ad 38), .ref (ad 39), .ref (ad 40), .ref (ad 41), .ref (ad 42), .int m_length, .ref (ad 43), .int m_tree, .ref (ad 44), .int m_tokens, .ref (ad 45), .ref (ad 46), .ref (ad 47), .int m_comments, .ref (ad 48), .ref (ad 49), .ref (ad 50), .ref (ad 51), .ref (ad 52), .ref (ad 53), .int m_parts, .ref (ad 54), .ref (ad 55), .ref (ad 56), .ref (ad 57), .ref (ad 58), .ref (ad 59), .ref (ad 60), .ref (ad 61), .int m_end, .int m_open, .ref (ad 62), .ref (ad 63), .ref (ad 64), .ref (ad 65), .ref (ad 66), .int m_column, .int m_printed, .ref (ad 67), .int m_repaired, .int m_paid]))), (43, (ad 43, .inl (cI, 80, .inl m_text)))]) (r := r5.1) gX6_write_X6_fail rfl rfl rfl hyVX6_fail ⟨Nat.le_of_ble_eq_true rfl, Nat.le_of_ble_eq_true rfl⟩ rfl rfl (Nat.le_of_ble_eq_true rfl) 37 rfl rfl dX6_write_68 (fun w z hw => c_X6_fail (cI := cI) (cB := cB) (cJ := cJ) (cZ := cZ) (ad := ad) w z trivial (hw 37) hr5) rfl rfl ?_
  obtain rfl := Option.some.inj h
  exact k_iret rfl dX6_write_71
set_option maxHeartbeats 4000000 in
set_option maxRecDepth 100000 in
theorem wlp_X6_write_25 {l : Launch} {D : va_G} {cI cB cJ cZ : ClassId} {ad : Nat → Nat} {ws : va_W} {z : Nat} {m_rules : Int32} {m_tree : Int32} {m_tokens : Int32} {m_comments : Int32} {m_parts : Int32} {m_end : Int32} {m_open : Int32} {m_column : Int32} {m_printed : Int32} {m_repaired : Int32} {m_paid : Int32} (E : True) {o : Int32 × (Int32) × (Int32) × (Nat → Int32)} {k78 : (Int64) → (Int32) → (Int32) → (Int32) → (Nat → Int32) → Option (Int32 × (Int32) × (Int32) × (Nat → Int32))} (hk78 : ∀ (x1 : Int64) (x3 : Int32) (m_thrown : Int32) (m_length : Int32) (m_text : Nat → Int32), k78 x1 x3 m_thrown m_length m_text = some o → KW l xX6_write D (kT cI cB cJ cZ) ws z (kQi D (kT cI cB cJ cZ) o.1 [(37, (ad 37, .inr (6, [.int o.2.1, .int m_rules, .ref (ad 38), .ref (ad 39), .ref (ad 40), .ref (ad 41), .ref (ad 42), .int o.2.2.1, .ref (ad 43), .int m_tree, .ref (ad 44), .int m_tokens, .ref (ad 45), .ref (ad 46), .ref (ad 47), .int m_comments, .ref (ad 48), .ref (ad 49), .ref (ad 50), .ref (ad 51), .ref (ad 52), .ref (ad 53), .int m_parts, .ref (ad 54), .ref (ad 55), .ref (ad 56), .ref (ad 57), .ref (ad 58), .ref (ad 59), .ref (ad 60), .ref (ad 61), .int m_end, .int m_open, .ref (ad 62), .ref (ad 63), .ref (ad 64), .ref (ad 65), .ref (ad 66), .int m_column, .int m_printed, .ref (ad 67), .int m_repaired, .int m_paid]))), (43, (ad 43, .inl (cI, 80, .inl o.2.2.2)))] ws z) 78 [(0, .ref (ad 37)), (1, .long x1), (3, .int x3)] [] [(37, (ad 37, .inr (6, [.int m_thrown, .int m_rules, .ref (ad 38), .ref (ad 39), .ref (ad 40), .ref (ad 41), .ref (ad 42), .int m_length, .ref (ad 43), .int m_tree, .ref (ad 44), .int m_tokens, .ref (ad 45), .ref (ad 46), .ref (ad 47), .int m_comments, .ref (ad 48), .ref (ad 49), .ref (ad 50), .ref (ad 51), .ref (ad 52), .ref (ad 53), .int m_parts, .ref (ad 54), .ref (ad 55), .ref (ad 56), .ref (ad 57), .ref (ad 58), .ref (ad 59), .ref (ad 60), .ref (ad 61), .int m_end, .int m_open, .ref (ad 62), .ref (ad 63), .ref (ad 64), .ref (ad 65), .ref (ad 66), .int m_column, .int m_printed, .ref (ad 67), .int m_repaired, .int m_paid]))), (43, (ad 43, .inl (cI, 80, .inl m_text)))]) : ∀ (n : Nat) (x1 : Int64) (x3 : Int32) (x4 : Int32) (m_thrown : Int32) (m_length : Int32) (m_text : Nat → Int32), lp_X6_write_25  k78 n x1 x3 x4 m_thrown m_length m_text = some o → KW l xX6_write D (kT cI cB cJ cZ) ws z (kQi D (kT cI cB cJ cZ) o.1 [(37, (ad 37, .inr (6, [.int o.2.1, .int m_rules, .ref (ad 38), .ref (ad 39), .ref (ad 40), .ref (ad 41), .ref (ad 42), .int o.2.2.1, .ref (ad 43), .int m_tree, .ref (ad 44), .int m_tokens, .ref (ad 45), .ref (ad 46), .ref (ad 47), .int m_comments, .ref (ad 48), .ref (ad 49), .ref (ad 50), .ref (ad 51), .ref (ad 52), .ref (ad 53), .int m_parts, .ref (ad 54), .ref (ad 55), .ref (ad 56), .ref (ad 57), .ref (ad 58), .ref (ad 59), .ref (ad 60), .ref (ad 61), .int m_end, .int m_open, .ref (ad 62), .ref (ad 63), .ref (ad 64), .ref (ad 65), .ref (ad 66), .int m_column, .int m_printed, .ref (ad 67), .int m_repaired, .int m_paid]))), (43, (ad 43, .inl (cI, 80, .inl o.2.2.2)))] ws z) 25 [(0, .ref (ad 37)), (1, .long x1), (3, .int x3), (4, .int x4)] [] [(37, (ad 37, .inr (6, [.int m_thrown, .int m_rules, .ref (ad 38), .ref (ad 39), .ref (ad 40), .ref (ad 41), .ref (ad 42), .int m_length, .ref (ad 43), .int m_tree, .ref (ad 44), .int m_tokens, .ref (ad 45), .ref (ad 46), .ref (ad 47), .int m_comments, .ref (ad 48), .ref (ad 49), .ref (ad 50), .ref (ad 51), .ref (ad 52), .ref (ad 53), .int m_parts, .ref (ad 54), .ref (ad 55), .ref (ad 56), .ref (ad 57), .ref (ad 58), .ref (ad 59), .ref (ad 60), .ref (ad 61), .int m_end, .int m_open, .ref (ad 62), .ref (ad 63), .ref (ad 64), .ref (ad 65), .ref (ad 66), .int m_column, .int m_printed, .ref (ad 67), .int m_repaired, .int m_paid]))), (43, (ad 43, .inl (cI, 80, .inl m_text)))] := by
  intro n
  induction n with
  | zero => intro x1 x3 x4 m_thrown m_length m_text h; exact absurd h (by simp [lp_X6_write_25])
  | succ n hk25 =>
    intro x1 x3 x4 m_thrown m_length m_text h
    unfold lp_X6_write_25 at h
    refine k_iload dX6_write_25 3 rfl ?_
    refine k_iload_n dX6_write_27 2 rfl rfl ?_
    refine k_icmp_ge 78 dX6_write_28 (by decide) h (fun h => ?_) (fun h => ?_)
    · skip
      refine k_sub [0, 1, 2] rfl ?_
      exact hk78 _ _ _ _ _ h
    · skip
      refine k_lload_n dX6_write_31 1 rfl rfl ?_
      refine k_bipush (v := 8) dX6_write_32 (by decide) ?_
      refine k_iload dX6_write_34 3 rfl ?_
      refine k_imul dX6_write_36 ?_
      refine k_lshr dX6_write_37 ?_
      refine k_ldc2 (v := 255) dX6_write_38 qX6_write_k117 ?_
      refine k_land dX6_write_41 ?_
      refine k_l2i dX6_write_42 ?_
      refine k_istore (i := 5) (lv' := fun x => [(5, .int x), (0, .ref (ad 37)), (1, .long x1), (3, .int x3), (4, .int x4)]) dX6_write_43 (Nat.le_of_ble_eq_true rfl) (fun _ => rfl) h (fun x5_3 h => ?_)
      refine k_iload dX6_write_45 0 rfl ?_
      refine k_bipush (v := 10) dX6_write_47 (by decide) ?_
      refine k_icmp_eq 72 dX6_write_49 (by decide) h (fun h => ?_) (fun h => ?_)
      · skip
        refine k_sub [1, 2, 3, 4] rfl ?_
        exact wjn_X6_write_72 (cI := cI) (cB := cB) (cJ := cJ) (cZ := cZ) (ad := ad) E hk25 _ _ _ _ _ _ h
      · skip
        refine k_iload dX6_write_52 0 rfl ?_
        refine k_bipush (v := 32) dX6_write_54 (by decide) ?_
        refine k_icmp_lt 66 dX6_write_56 (by decide) h (fun h => ?_) (fun h => ?_)
        · skip
          refine k_sub [1] rfl ?_
          exact wjn_X6_write_66 (cI := cI) (cB := cB) (cJ := cJ) (cZ := cZ) (ad := ad) E  _ _ _ h
        · skip
          refine k_iload dX6_write_59 0 rfl ?_
          refine k_bipush (v := 126) dX6_write_61 (by decide) ?_
          refine k_icmp_le 72 dX6_write_63 (by decide) h (fun h => ?_) (fun h => ?_)
          · skip
            refine k_sub [1, 2, 3, 4] rfl ?_
            exact wjn_X6_write_72 (cI := cI) (cB := cB) (cJ := cJ) (cZ := cZ) (ad := ad) E hk25 _ _ _ _ _ _ h
          · skip
            refine k_sub [1] rfl ?_
            exact wjn_X6_write_66 (cI := cI) (cB := cB) (cJ := cJ) (cZ := cZ) (ad := ad) E  _ _ _ h
set_option maxHeartbeats 4000000 in
set_option maxRecDepth 100000 in
theorem wlp_X6_write_98 {l : Launch} {D : va_G} {cI cB cJ cZ : ClassId} {ad : Nat → Nat} {ws : va_W} {z : Nat} {m_rules : Int32} {m_tree : Int32} {m_tokens : Int32} {m_comments : Int32} {m_parts : Int32} {m_end : Int32} {m_open : Int32} {m_column : Int32} {m_printed : Int32} {m_repaired : Int32} {m_paid : Int32} (E : True) {o : Int32 × (Int32) × (Int32) × (Nat → Int32)} {k134 : (Int32) → (Int32) → (Int32) → (Nat → Int32) → Option (Int32 × (Int32) × (Int32) × (Nat → Int32))} (hk134 : ∀ (x3 : Int32) (m_thrown : Int32) (m_length : Int32) (m_text : Nat → Int32), k134 x3 m_thrown m_length m_text = some o → KW l xX6_write D (kT cI cB cJ cZ) ws z (kQi D (kT cI cB cJ cZ) o.1 [(37, (ad 37, .inr (6, [.int o.2.1, .int m_rules, .ref (ad 38), .ref (ad 39), .ref (ad 40), .ref (ad 41), .ref (ad 42), .int o.2.2.1, .ref (ad 43), .int m_tree, .ref (ad 44), .int m_tokens, .ref (ad 45), .ref (ad 46), .ref (ad 47), .int m_comments, .ref (ad 48), .ref (ad 49), .ref (ad 50), .ref (ad 51), .ref (ad 52), .ref (ad 53), .int m_parts, .ref (ad 54), .ref (ad 55), .ref (ad 56), .ref (ad 57), .ref (ad 58), .ref (ad 59), .ref (ad 60), .ref (ad 61), .int m_end, .int m_open, .ref (ad 62), .ref (ad 63), .ref (ad 64), .ref (ad 65), .ref (ad 66), .int m_column, .int m_printed, .ref (ad 67), .int m_repaired, .int m_paid]))), (43, (ad 43, .inl (cI, 80, .inl o.2.2.2)))] ws z) 134 [(0, .ref (ad 37)), (3, .int x3)] [] [(37, (ad 37, .inr (6, [.int m_thrown, .int m_rules, .ref (ad 38), .ref (ad 39), .ref (ad 40), .ref (ad 41), .ref (ad 42), .int m_length, .ref (ad 43), .int m_tree, .ref (ad 44), .int m_tokens, .ref (ad 45), .ref (ad 46), .ref (ad 47), .int m_comments, .ref (ad 48), .ref (ad 49), .ref (ad 50), .ref (ad 51), .ref (ad 52), .ref (ad 53), .int m_parts, .ref (ad 54), .ref (ad 55), .ref (ad 56), .ref (ad 57), .ref (ad 58), .ref (ad 59), .ref (ad 60), .ref (ad 61), .int m_end, .int m_open, .ref (ad 62), .ref (ad 63), .ref (ad 64), .ref (ad 65), .ref (ad 66), .int m_column, .int m_printed, .ref (ad 67), .int m_repaired, .int m_paid]))), (43, (ad 43, .inl (cI, 80, .inl m_text)))]) : ∀ (n : Nat) (x1 : Int64) (x3 : Int32) (x4 : Int32) (m_thrown : Int32) (m_length : Int32) (m_text : Nat → Int32), lp_X6_write_98  k134 n x1 x3 x4 m_thrown m_length m_text = some o → KW l xX6_write D (kT cI cB cJ cZ) ws z (kQi D (kT cI cB cJ cZ) o.1 [(37, (ad 37, .inr (6, [.int o.2.1, .int m_rules, .ref (ad 38), .ref (ad 39), .ref (ad 40), .ref (ad 41), .ref (ad 42), .int o.2.2.1, .ref (ad 43), .int m_tree, .ref (ad 44), .int m_tokens, .ref (ad 45), .ref (ad 46), .ref (ad 47), .int m_comments, .ref (ad 48), .ref (ad 49), .ref (ad 50), .ref (ad 51), .ref (ad 52), .ref (ad 53), .int m_parts, .ref (ad 54), .ref (ad 55), .ref (ad 56), .ref (ad 57), .ref (ad 58), .ref (ad 59), .ref (ad 60), .ref (ad 61), .int m_end, .int m_open, .ref (ad 62), .ref (ad 63), .ref (ad 64), .ref (ad 65), .ref (ad 66), .int m_column, .int m_printed, .ref (ad 67), .int m_repaired, .int m_paid]))), (43, (ad 43, .inl (cI, 80, .inl o.2.2.2)))] ws z) 98 [(0, .ref (ad 37)), (1, .long x1), (3, .int x3), (4, .int x4)] [] [(37, (ad 37, .inr (6, [.int m_thrown, .int m_rules, .ref (ad 38), .ref (ad 39), .ref (ad 40), .ref (ad 41), .ref (ad 42), .int m_length, .ref (ad 43), .int m_tree, .ref (ad 44), .int m_tokens, .ref (ad 45), .ref (ad 46), .ref (ad 47), .int m_comments, .ref (ad 48), .ref (ad 49), .ref (ad 50), .ref (ad 51), .ref (ad 52), .ref (ad 53), .int m_parts, .ref (ad 54), .ref (ad 55), .ref (ad 56), .ref (ad 57), .ref (ad 58), .ref (ad 59), .ref (ad 60), .ref (ad 61), .int m_end, .int m_open, .ref (ad 62), .ref (ad 63), .ref (ad 64), .ref (ad 65), .ref (ad 66), .int m_column, .int m_printed, .ref (ad 67), .int m_repaired, .int m_paid]))), (43, (ad 43, .inl (cI, 80, .inl m_text)))] := by
  intro n
  induction n with
  | zero => intro x1 x3 x4 m_thrown m_length m_text h; exact absurd h (by simp [lp_X6_write_98])
  | succ n hk98 =>
    intro x1 x3 x4 m_thrown m_length m_text h
    unfold lp_X6_write_98 at h
    refine k_iload dX6_write_98 3 rfl ?_
    refine k_iload_n dX6_write_100 2 rfl rfl ?_
    refine k_icmp_ge 134 dX6_write_101 (by decide) h (fun h => ?_) (fun h => ?_)
    · skip
      refine k_sub [0, 2] rfl ?_
      exact hk134 _ _ _ _ h
    · skip
      refine k_aload_n dX6_write_104 0 rfl rfl ?_
      refine k_get 37 8 rfl rfl qX6_write_wX6 (by decide) qX6_write_f26 rfl dX6_write_105 ?_
      refine k_aload_n dX6_write_108 0 rfl rfl ?_
      refine k_get 37 7 rfl rfl qX6_write_wX6 (by decide) qX6_write_f119 rfl dX6_write_109 ?_
      refine k_iload dX6_write_112 3 rfl ?_
      refine k_iadd dX6_write_114 ?_
      refine k_lload_n dX6_write_115 1 rfl rfl ?_
      refine k_bipush (v := 8) dX6_write_116 (by decide) ?_
      refine k_iload dX6_write_118 3 rfl ?_
      refine k_imul dX6_write_120 ?_
      refine k_lshr dX6_write_121 ?_
      refine k_ldc2 (v := 255) dX6_write_122 qX6_write_k117 ?_
      refine k_land dX6_write_125 ?_
      refine k_l2i dX6_write_126 ?_
      refine k_iast (L' := fun f => [(37, (ad 37, .inr (6, [.int m_thrown, .int m_rules, .ref (ad 38), .ref (ad 39), .ref (ad 40), .ref (ad 41), .ref (ad 42), .int m_length, .ref (ad 43), .int m_tree, .ref (ad 44), .int m_tokens, .ref (ad 45), .ref (ad 46), .ref (ad 47), .int m_comments, .ref (ad 48), .ref (ad 49), .ref (ad 50), .ref (ad 51), .ref (ad 52), .ref (ad 53), .int m_parts, .ref (ad 54), .ref (ad 55), .ref (ad 56), .ref (ad 57), .ref (ad 58), .ref (ad 59), .ref (ad 60), .ref (ad 61), .int m_end, .int m_open, .ref (ad 62), .ref (ad 63), .ref (ad 64), .ref (ad 65), .ref (ad 66), .int m_column, .int m_printed, .ref (ad 67), .int m_repaired, .int m_paid]))), (43, (ad 43, .inl (cI, 80, .inl f)))]) 43 0 rfl rfl rfl dX6_write_127 h (fun _ => rfl) (fun m_text_7 h => ?_)
      refine k_iinc (i := 4) (lv' := fun x => [(4, .int x), (0, .ref (ad 37)), (1, .long x1), (3, .int x3)]) dX6_write_128 3 rfl (Nat.le_of_ble_eq_true rfl) (fun _ => rfl) h (fun x4_8 h => ?_)
      refine k_goto 98 dX6_write_131 (by decide) ?_
      refine k_sub [1, 2, 3, 0] rfl ?_
      exact hk98 _ _ _ _ _ _ h
set_option maxHeartbeats 4000000 in
set_option maxRecDepth 100000 in
/-- KindParserModel.write -/
theorem c_X6_write {l : Launch} {D : va_G} {cI cB cJ cZ : ClassId} {ad : Nat → Nat} (ws : va_W) (z : Nat) {m_thrown : Int32} {m_rules : Int32} {m_length : Int32} {m_tree : Int32} {m_tokens : Int32} {m_comments : Int32} {m_parts : Int32} {m_end : Int32} {m_open : Int32} {m_column : Int32} {m_printed : Int32} {m_repaired : Int32} {m_paid : Int32} {m_text : Nat → Int32} (E : True) (e37 : ws[37]? = some (ad 37, .inr (6, [.int m_thrown, .int m_rules, .ref (ad 38), .ref (ad 39), .ref (ad 40), .ref (ad 41), .ref (ad 42), .int m_length, .ref (ad 43), .int m_tree, .ref (ad 44), .int m_tokens, .ref (ad 45), .ref (ad 46), .ref (ad 47), .int m_comments, .ref (ad 48), .ref (ad 49), .ref (ad 50), .ref (ad 51), .ref (ad 52), .ref (ad 53), .int m_parts, .ref (ad 54), .ref (ad 55), .ref (ad 56), .ref (ad 57), .ref (ad 58), .ref (ad 59), .ref (ad 60), .ref (ad 61), .int m_end, .int m_open, .ref (ad 62), .ref (ad 63), .ref (ad 64), .ref (ad 65), .ref (ad 66), .int m_column, .int m_printed, .ref (ad 67), .int m_repaired, .int m_paid]))) (e43 : ws[43]? = some (ad 43, .inl (cI, 80, .inl m_text))) {a1 : Int64} {a3 : Int32} {o : Int32 × (Int32) × (Int32) × (Nat → Int32)} (h : f_X6_write a1 a3 m_thrown m_length m_text = some o) : Met l yX6_write wsX6_write rmX6_write (kPc D (kT cI cB cJ cZ) [.ref (ad 37), .long a1, .int a3] ws z) (kQi D (kT cI cB cJ cZ) o.1 [(37, (ad 37, .inr (6, [.int o.2.1, .int m_rules, .ref (ad 38), .ref (ad 39), .ref (ad 40), .ref (ad 41), .ref (ad 42), .int o.2.2.1, .ref (ad 43), .int m_tree, .ref (ad 44), .int m_tokens, .ref (ad 45), .ref (ad 46), .ref (ad 47), .int m_comments, .ref (ad 48), .ref (ad 49), .ref (ad 50), .ref (ad 51), .ref (ad 52), .ref (ad 53), .int m_parts, .ref (ad 54), .ref (ad 55), .ref (ad 56), .ref (ad 57), .ref (ad 58), .ref (ad 59), .ref (ad 60), .ref (ad 61), .int m_end, .int m_open, .ref (ad 62), .ref (ad 63), .ref (ad 64), .ref (ad 65), .ref (ad 66), .int m_column, .int m_printed, .ref (ad 67), .int m_repaired, .int m_paid]))), (43, (ad 43, .inl (cI, 80, .inl o.2.2.2)))] ws z) 0 0 (va_A ws z) := by
  refine KW.met (rm := rmX6_write) (lv := [(0, .ref (ad 37)), (1, .long a1), (3, .int a3)]) (L := [(37, (ad 37, .inr (6, [.int m_thrown, .int m_rules, .ref (ad 38), .ref (ad 39), .ref (ad 40), .ref (ad 41), .ref (ad 42), .int m_length, .ref (ad 43), .int m_tree, .ref (ad 44), .int m_tokens, .ref (ad 45), .ref (ad 46), .ref (ad 47), .int m_comments, .ref (ad 48), .ref (ad 49), .ref (ad 50), .ref (ad 51), .ref (ad 52), .ref (ad 53), .int m_parts, .ref (ad 54), .ref (ad 55), .ref (ad 56), .ref (ad 57), .ref (ad 58), .ref (ad 59), .ref (ad 60), .ref (ad 61), .int m_end, .int m_open, .ref (ad 62), .ref (ad 63), .ref (ad 64), .ref (ad 65), .ref (ad 66), .int m_column, .int m_printed, .ref (ad 67), .int m_repaired, .int m_paid]))), (43, (ad 43, .inl (cI, 80, .inl m_text)))]) rfl (by decide) (Nat.le_of_ble_eq_true rfl) rfl (by intro q hq; simp only [List.mem_cons, List.not_mem_nil, or_false] at hq; rcases hq with rfl | rfl <;> assumption) ?_
  unfold f_X6_write at h
  show KW l xX6_write D (kT cI cB cJ cZ) ws z (kQi D (kT cI cB cJ cZ) o.1 [(37, (ad 37, .inr (6, [.int o.2.1, .int m_rules, .ref (ad 38), .ref (ad 39), .ref (ad 40), .ref (ad 41), .ref (ad 42), .int o.2.2.1, .ref (ad 43), .int m_tree, .ref (ad 44), .int m_tokens, .ref (ad 45), .ref (ad 46), .ref (ad 47), .int m_comments, .ref (ad 48), .ref (ad 49), .ref (ad 50), .ref (ad 51), .ref (ad 52), .ref (ad 53), .int m_parts, .ref (ad 54), .ref (ad 55), .ref (ad 56), .ref (ad 57), .ref (ad 58), .ref (ad 59), .ref (ad 60), .ref (ad 61), .int m_end, .int m_open, .ref (ad 62), .ref (ad 63), .ref (ad 64), .ref (ad 65), .ref (ad 66), .int m_column, .int m_printed, .ref (ad 67), .int m_repaired, .int m_paid]))), (43, (ad 43, .inl (cI, 80, .inl o.2.2.2)))] ws z) 0 [(0, .ref (ad 37)), (1, .long a1), (3, .int a3)] [] [(37, (ad 37, .inr (6, [.int m_thrown, .int m_rules, .ref (ad 38), .ref (ad 39), .ref (ad 40), .ref (ad 41), .ref (ad 42), .int m_length, .ref (ad 43), .int m_tree, .ref (ad 44), .int m_tokens, .ref (ad 45), .ref (ad 46), .ref (ad 47), .int m_comments, .ref (ad 48), .ref (ad 49), .ref (ad 50), .ref (ad 51), .ref (ad 52), .ref (ad 53), .int m_parts, .ref (ad 54), .ref (ad 55), .ref (ad 56), .ref (ad 57), .ref (ad 58), .ref (ad 59), .ref (ad 60), .ref (ad 61), .int m_end, .int m_open, .ref (ad 62), .ref (ad 63), .ref (ad 64), .ref (ad 65), .ref (ad 66), .int m_column, .int m_printed, .ref (ad 67), .int m_repaired, .int m_paid]))), (43, (ad 43, .inl (cI, 80, .inl m_text)))]
  refine k_aload_n dX6_write_0 0 rfl rfl ?_
  refine k_iconst (v := 0) dX6_write_1 (by decide) ?_
  refine k_put (L' := [(37, (ad 37, .inr (6, [.int 0, .int m_rules, .ref (ad 38), .ref (ad 39), .ref (ad 40), .ref (ad 41), .ref (ad 42), .int m_length, .ref (ad 43), .int m_tree, .ref (ad 44), .int m_tokens, .ref (ad 45), .ref (ad 46), .ref (ad 47), .int m_comments, .ref (ad 48), .ref (ad 49), .ref (ad 50), .ref (ad 51), .ref (ad 52), .ref (ad 53), .int m_parts, .ref (ad 54), .ref (ad 55), .ref (ad 56), .ref (ad 57), .ref (ad 58), .ref (ad 59), .ref (ad 60), .ref (ad 61), .int m_end, .int m_open, .ref (ad 62), .ref (ad 63), .ref (ad 64), .ref (ad 65), .ref (ad 66), .int m_column, .int m_printed, .ref (ad 67), .int m_repaired, .int m_paid]))), (43, (ad 43, .inl (cI, 80, .inl m_text)))]) 37 0 rfl rfl qX6_write_wX6 (by decide) tyX6 tyX6_ok nmX6 rfl qX6_write_f102 rfl (tyX6_ok 0 (by decide)) rfl rfl (Nat.le_of_ble_eq_true rfl) dX6_write_2 rfl ?_
  refine k_iload_n dX6_write_5 2 rfl rfl ?_
  refine k_iconst (v := 1) dX6_write_6 (by decide) ?_
  refine k_icmp_lt 16 dX6_write_7 (by decide) h (fun h => ?_) (fun h => ?_)
  · skip
    refine k_sub [0] rfl ?_
    exact wjn_X6_write_16 (cI := cI) (cB := cB) (cJ := cJ) (cZ := cZ) (ad := ad) E  _ _ _ h
  · skip
    refine k_iload_n dX6_write_10 2 rfl rfl ?_
    refine k_bipush (v := 8) dX6_write_11 (by decide) ?_
    refine k_icmp_le 22 dX6_write_13 (by decide) h (fun h => ?_) (fun h => ?_)
    · skip
      refine k_iconst (v := 0) dX6_write_22 (by decide) ?_
      refine k_istore (i := 4) (lv' := fun x => [(4, .int x), (0, .ref (ad 37)), (1, .long a1), (3, .int a3)]) dX6_write_23 (Nat.le_of_ble_eq_true rfl) (fun _ => rfl) h (fun x4_2 h => ?_)
      refine k_sub [1, 2, 3, 0] rfl ?_
      refine wlp_X6_write_25 (cI := cI) (cB := cB) (cJ := cJ) (cZ := cZ) (ad := ad) E ?_ FU _ _ _ _ _ _ h
      · intro x1 x3 m_thrown m_length m_text h
        refine k_aload_n dX6_write_78 0 rfl rfl ?_
        refine k_get 37 7 rfl rfl qX6_write_wX6 (by decide) qX6_write_f119 rfl dX6_write_79 ?_
        refine k_iload_n dX6_write_82 2 rfl rfl ?_
        refine k_iadd dX6_write_83 ?_
        refine k_bipush (v := 80) dX6_write_84 (by decide) ?_
        refine k_icmp_le 95 dX6_write_86 (by decide) h (fun h => ?_) (fun h => ?_)
        · skip
          refine k_iconst (v := 0) dX6_write_95 (by decide) ?_
          refine k_istore (i := 4) (lv' := fun x => [(4, .int x), (0, .ref (ad 37)), (1, .long x1), (3, .int x3)]) dX6_write_96 (Nat.le_of_ble_eq_true rfl) (fun _ => rfl) h (fun x4_6 h => ?_)
          refine k_sub [1, 2, 3, 0] rfl ?_
          refine wlp_X6_write_98 (cI := cI) (cB := cB) (cJ := cJ) (cZ := cZ) (ad := ad) E ?_ FU _ _ _ _ _ _ h
          · intro x3 m_thrown m_length m_text h
            refine k_aload_n dX6_write_134 0 rfl rfl ?_
            refine k_dup dX6_write_135 rfl ?_
            refine k_get 37 7 rfl rfl qX6_write_wX6 (by decide) qX6_write_f119 rfl dX6_write_136 ?_
            refine k_iload_n dX6_write_139 1 rfl rfl ?_
            refine k_iadd dX6_write_140 ?_
            refine k_put (L' := [(37, (ad 37, .inr (6, [.int m_thrown, .int m_rules, .ref (ad 38), .ref (ad 39), .ref (ad 40), .ref (ad 41), .ref (ad 42), .int (m_length + x3), .ref (ad 43), .int m_tree, .ref (ad 44), .int m_tokens, .ref (ad 45), .ref (ad 46), .ref (ad 47), .int m_comments, .ref (ad 48), .ref (ad 49), .ref (ad 50), .ref (ad 51), .ref (ad 52), .ref (ad 53), .int m_parts, .ref (ad 54), .ref (ad 55), .ref (ad 56), .ref (ad 57), .ref (ad 58), .ref (ad 59), .ref (ad 60), .ref (ad 61), .int m_end, .int m_open, .ref (ad 62), .ref (ad 63), .ref (ad 64), .ref (ad 65), .ref (ad 66), .int m_column, .int m_printed, .ref (ad 67), .int m_repaired, .int m_paid]))), (43, (ad 43, .inl (cI, 80, .inl m_text)))]) 37 7 rfl rfl qX6_write_wX6 (by decide) tyX6 tyX6_ok nmX6 rfl qX6_write_f119 rfl (tyX6_ok 7 (by decide)) rfl rfl (Nat.le_of_ble_eq_true rfl) dX6_write_141 rfl ?_
            refine k_aload_n dX6_write_144 0 rfl rfl ?_
            refine k_get 37 7 rfl rfl qX6_write_wX6 (by decide) qX6_write_f119 rfl dX6_write_145 ?_
            obtain rfl := Option.some.inj h
            exact k_iret rfl dX6_write_148
        · skip
          refine k_aload_n dX6_write_89 0 rfl rfl ?_
          refine k_iconst (v := 2) dX6_write_90 (by decide) ?_
          obtain ⟨r10, hr10, h⟩ := Option.bind_eq_some_iff.mp h
          refine k_calliV (As := [.int 2]) (st := []) (Lc := [(37, (ad 37, .inr (6, [.int r10.2, .int m_rules, .ref (ad 38), .ref (ad 39), .ref (ad 40), .ref (ad 41), .ref (ad 42), .int m_length, .ref (ad 43), .int m_tree, .ref (ad 44), .int m_tokens, .ref (ad 45), .ref (ad 46), .ref (ad 47), .int m_comments, .ref (ad 48), .ref (ad 49), .ref (ad 50), .ref (ad 51), .ref (ad 52), .ref (ad 53), .int m_parts, .ref (ad 54), .ref (ad 55), .ref (ad 56), .ref (ad 57), .ref (ad 58), .ref (ad 59), .ref (ad 60), .ref (ad 61), .int m_end, .int m_open, .ref (ad 62), .ref (ad 63), .ref (ad 64), .ref (ad 65), .ref (ad 66), .int m_column, .int m_printed, .ref (ad 67), .int m_repaired, .int m_paid])))]) (L' := [(37, (ad 37, .inr (6, [.int r10.2, .int m_rules, .ref (ad 38), .ref (ad 39), .ref (ad 40), .ref (ad 41), .ref (ad 42), .int m_length, .ref (ad 43), .int m_tree, .ref (ad 44), .int m_tokens, .ref (ad 45), .ref (ad 46), .ref (ad 47), .int m_comments, .ref (ad 48), .ref (ad 49), .ref (ad 50), .ref (ad 51), .ref (ad 52), .ref (ad 53), .int m_parts, .ref (ad 54), .ref (ad 55), .ref (ad 56), .ref (ad 57), .ref (ad 58), .ref (ad 59), .ref (ad 60), .ref (ad 61), .int m_end, .int m_open, .ref (ad 62), .ref (ad 63), .ref (ad 64), .ref (ad 65), .ref (ad 66), .int m_column, .int m_printed, .ref (ad 67), .int m_repaired, .int m_paid]))), (43, (ad 43, .inl (cI, 80, .inl m_text)))]) (r := r10.1) gX6_write_X6_fail rfl rfl rfl hyVX6_fail ⟨Nat.le_of_ble_eq_true rfl, Nat.le_of_ble_eq_true rfl⟩ rfl rfl (Nat.le_of_ble_eq_true rfl) 37 rfl rfl dX6_write_91 (fun w z hw => c_X6_fail (cI := cI) (cB := cB) (cJ := cJ) (cZ := cZ) (ad := ad) w z trivial (hw 37) hr10) rfl rfl ?_
          obtain rfl := Option.some.inj h
          exact k_iret rfl dX6_write_94
    · skip
      refine k_sub [0] rfl ?_
      exact wjn_X6_write_16 (cI := cI) (cB := cB) (cJ := cJ) (cZ := cZ) (ad := ad) E  _ _ _ h
abbrev rmX6_erase : Room := { frames := 0, cells := 0, slots := 0, locals := 0 }
abbrev xX6_erase : KX := (rmX6_erase, cX6_erase, 2, some .int, RX6, wsX6_erase)
theorem hySX6_erase : yX6_erase.cls ≠ "java/lang/invoke/MethodHandle" ∧ yX6_erase.cls ≠ "java/lang/invoke/VarHandle" ∧ (parseMethodDescriptor yX6_erase.desc).map (fun d => d.parameters.length) = some 0 := by decide +kernel
theorem hyVX6_erase : yX6_erase.cls = RX6 ∧ yX6_erase.cls ≠ "java/lang/invoke/MethodHandle" ∧ yX6_erase.cls ≠ "java/lang/invoke/VarHandle" ∧ (parseMethodDescriptor yX6_erase.desc).map (fun d => d.parameters.length) = some 0 := ⟨rfl, hySX6_erase⟩
theorem qX6_erase_wX6 : ∀ w ∈ u_ws RX6 TX6 43, w ∈ wsX6_erase := by decide +kernel
theorem qX6_erase_f102 : Cond.fieldLink RX6 102 "KindParserModel" "thrown" "I" ∈ wsX6_erase := by decide +kernel
theorem qX6_erase_f119 : Cond.fieldLink RX6 119 "KindParserModel" "length" "I" ∈ wsX6_erase := by decide +kernel
set_option maxHeartbeats 4000000 in
set_option maxRecDepth 100000 in
/-- KindParserModel.erase -/
theorem c_X6_erase {l : Launch} {D : va_G} {cI cB cJ cZ : ClassId} {ad : Nat → Nat} (ws : va_W) (z : Nat) {m_thrown : Int32} {m_rules : Int32} {m_length : Int32} {m_tree : Int32} {m_tokens : Int32} {m_comments : Int32} {m_parts : Int32} {m_end : Int32} {m_open : Int32} {m_column : Int32} {m_printed : Int32} {m_repaired : Int32} {m_paid : Int32} (E : True) (e37 : ws[37]? = some (ad 37, .inr (6, [.int m_thrown, .int m_rules, .ref (ad 38), .ref (ad 39), .ref (ad 40), .ref (ad 41), .ref (ad 42), .int m_length, .ref (ad 43), .int m_tree, .ref (ad 44), .int m_tokens, .ref (ad 45), .ref (ad 46), .ref (ad 47), .int m_comments, .ref (ad 48), .ref (ad 49), .ref (ad 50), .ref (ad 51), .ref (ad 52), .ref (ad 53), .int m_parts, .ref (ad 54), .ref (ad 55), .ref (ad 56), .ref (ad 57), .ref (ad 58), .ref (ad 59), .ref (ad 60), .ref (ad 61), .int m_end, .int m_open, .ref (ad 62), .ref (ad 63), .ref (ad 64), .ref (ad 65), .ref (ad 66), .int m_column, .int m_printed, .ref (ad 67), .int m_repaired, .int m_paid])))  {o : Int32 × (Int32) × (Int32)} (h : f_X6_erase m_thrown m_length = some o) : Met l yX6_erase wsX6_erase rmX6_erase (kPc D (kT cI cB cJ cZ) [.ref (ad 37)] ws z) (kQi D (kT cI cB cJ cZ) o.1 [(37, (ad 37, .inr (6, [.int o.2.1, .int m_rules, .ref (ad 38), .ref (ad 39), .ref (ad 40), .ref (ad 41), .ref (ad 42), .int o.2.2, .ref (ad 43), .int m_tree, .ref (ad 44), .int m_tokens, .ref (ad 45), .ref (ad 46), .ref (ad 47), .int m_comments, .ref (ad 48), .ref (ad 49), .ref (ad 50), .ref (ad 51), .ref (ad 52), .ref (ad 53), .int m_parts, .ref (ad 54), .ref (ad 55), .ref (ad 56), .ref (ad 57), .ref (ad 58), .ref (ad 59), .ref (ad 60), .ref (ad 61), .int m_end, .int m_open, .ref (ad 62), .ref (ad 63), .ref (ad 64), .ref (ad 65), .ref (ad 66), .int m_column, .int m_printed, .ref (ad 67), .int m_repaired, .int m_paid])))] ws z) 0 0 (va_A ws z) := by
  refine KW.met (rm := rmX6_erase) (lv := [(0, .ref (ad 37))]) (L := [(37, (ad 37, .inr (6, [.int m_thrown, .int m_rules, .ref (ad 38), .ref (ad 39), .ref (ad 40), .ref (ad 41), .ref (ad 42), .int m_length, .ref (ad 43), .int m_tree, .ref (ad 44), .int m_tokens, .ref (ad 45), .ref (ad 46), .ref (ad 47), .int m_comments, .ref (ad 48), .ref (ad 49), .ref (ad 50), .ref (ad 51), .ref (ad 52), .ref (ad 53), .int m_parts, .ref (ad 54), .ref (ad 55), .ref (ad 56), .ref (ad 57), .ref (ad 58), .ref (ad 59), .ref (ad 60), .ref (ad 61), .int m_end, .int m_open, .ref (ad 62), .ref (ad 63), .ref (ad 64), .ref (ad 65), .ref (ad 66), .int m_column, .int m_printed, .ref (ad 67), .int m_repaired, .int m_paid])))]) rfl (by decide) (Nat.le_of_ble_eq_true rfl) rfl (by intro q hq; simp only [List.mem_cons, List.not_mem_nil, or_false] at hq; rcases hq with rfl <;> assumption) ?_
  unfold f_X6_erase at h
  show KW l xX6_erase D (kT cI cB cJ cZ) ws z (kQi D (kT cI cB cJ cZ) o.1 [(37, (ad 37, .inr (6, [.int o.2.1, .int m_rules, .ref (ad 38), .ref (ad 39), .ref (ad 40), .ref (ad 41), .ref (ad 42), .int o.2.2, .ref (ad 43), .int m_tree, .ref (ad 44), .int m_tokens, .ref (ad 45), .ref (ad 46), .ref (ad 47), .int m_comments, .ref (ad 48), .ref (ad 49), .ref (ad 50), .ref (ad 51), .ref (ad 52), .ref (ad 53), .int m_parts, .ref (ad 54), .ref (ad 55), .ref (ad 56), .ref (ad 57), .ref (ad 58), .ref (ad 59), .ref (ad 60), .ref (ad 61), .int m_end, .int m_open, .ref (ad 62), .ref (ad 63), .ref (ad 64), .ref (ad 65), .ref (ad 66), .int m_column, .int m_printed, .ref (ad 67), .int m_repaired, .int m_paid])))] ws z) 0 [(0, .ref (ad 37))] [] [(37, (ad 37, .inr (6, [.int m_thrown, .int m_rules, .ref (ad 38), .ref (ad 39), .ref (ad 40), .ref (ad 41), .ref (ad 42), .int m_length, .ref (ad 43), .int m_tree, .ref (ad 44), .int m_tokens, .ref (ad 45), .ref (ad 46), .ref (ad 47), .int m_comments, .ref (ad 48), .ref (ad 49), .ref (ad 50), .ref (ad 51), .ref (ad 52), .ref (ad 53), .int m_parts, .ref (ad 54), .ref (ad 55), .ref (ad 56), .ref (ad 57), .ref (ad 58), .ref (ad 59), .ref (ad 60), .ref (ad 61), .int m_end, .int m_open, .ref (ad 62), .ref (ad 63), .ref (ad 64), .ref (ad 65), .ref (ad 66), .int m_column, .int m_printed, .ref (ad 67), .int m_repaired, .int m_paid])))]
  refine k_aload_n dX6_erase_0 0 rfl rfl ?_
  refine k_iconst (v := 0) dX6_erase_1 (by decide) ?_
  refine k_put (L' := [(37, (ad 37, .inr (6, [.int 0, .int m_rules, .ref (ad 38), .ref (ad 39), .ref (ad 40), .ref (ad 41), .ref (ad 42), .int m_length, .ref (ad 43), .int m_tree, .ref (ad 44), .int m_tokens, .ref (ad 45), .ref (ad 46), .ref (ad 47), .int m_comments, .ref (ad 48), .ref (ad 49), .ref (ad 50), .ref (ad 51), .ref (ad 52), .ref (ad 53), .int m_parts, .ref (ad 54), .ref (ad 55), .ref (ad 56), .ref (ad 57), .ref (ad 58), .ref (ad 59), .ref (ad 60), .ref (ad 61), .int m_end, .int m_open, .ref (ad 62), .ref (ad 63), .ref (ad 64), .ref (ad 65), .ref (ad 66), .int m_column, .int m_printed, .ref (ad 67), .int m_repaired, .int m_paid])))]) 37 0 rfl rfl qX6_erase_wX6 (by decide) tyX6 tyX6_ok nmX6 rfl qX6_erase_f102 rfl (tyX6_ok 0 (by decide)) rfl rfl (Nat.le_of_ble_eq_true rfl) dX6_erase_2 rfl ?_
  refine k_aload_n dX6_erase_5 0 rfl rfl ?_
  refine k_get 37 7 rfl rfl qX6_erase_wX6 (by decide) qX6_erase_f119 rfl dX6_erase_6 ?_
  refine k_istore_n (i := 1) (lv' := fun x => [(1, .int x), (0, .ref (ad 37))]) dX6_erase_9 rfl (Nat.le_of_ble_eq_true rfl) (fun _ => rfl) h (fun x1_1 h => ?_)
  refine k_aload_n dX6_erase_10 1 rfl rfl ?_
  refine k_iconst (v := 0) dX6_erase_11 (by decide) ?_
  refine k_put (L' := [(37, (ad 37, .inr (6, [.int 0, .int m_rules, .ref (ad 38), .ref (ad 39), .ref (ad 40), .ref (ad 41), .ref (ad 42), .int 0, .ref (ad 43), .int m_tree, .ref (ad 44), .int m_tokens, .ref (ad 45), .ref (ad 46), .ref (ad 47), .int m_comments, .ref (ad 48), .ref (ad 49), .ref (ad 50), .ref (ad 51), .ref (ad 52), .ref (ad 53), .int m_parts, .ref (ad 54), .ref (ad 55), .ref (ad 56), .ref (ad 57), .ref (ad 58), .ref (ad 59), .ref (ad 60), .ref (ad 61), .int m_end, .int m_open, .ref (ad 62), .ref (ad 63), .ref (ad 64), .ref (ad 65), .ref (ad 66), .int m_column, .int m_printed, .ref (ad 67), .int m_repaired, .int m_paid])))]) 37 7 rfl rfl qX6_erase_wX6 (by decide) tyX6 tyX6_ok nmX6 rfl qX6_erase_f119 rfl (tyX6_ok 7 (by decide)) rfl rfl (Nat.le_of_ble_eq_true rfl) dX6_erase_12 rfl ?_
  refine k_iload_n dX6_erase_15 0 rfl rfl ?_
  obtain rfl := Option.some.inj h
  exact k_iret rfl dX6_erase_16
abbrev rmX6_ground : Room := { frames := 0, cells := 0, slots := 0, locals := 0 }
abbrev xX6_ground : KX := (rmX6_ground, cX6_ground, 6, some .int, RX6, wsX6_ground)
theorem hySX6_ground : yX6_ground.cls ≠ "java/lang/invoke/MethodHandle" ∧ yX6_ground.cls ≠ "java/lang/invoke/VarHandle" ∧ (parseMethodDescriptor yX6_ground.desc).map (fun d => d.parameters.length) = some 0 := by decide +kernel
theorem hyVX6_ground : yX6_ground.cls = RX6 ∧ yX6_ground.cls ≠ "java/lang/invoke/MethodHandle" ∧ yX6_ground.cls ≠ "java/lang/invoke/VarHandle" ∧ (parseMethodDescriptor yX6_ground.desc).map (fun d => d.parameters.length) = some 0 := ⟨rfl, hySX6_ground⟩
theorem qX6_ground_wX6 : ∀ w ∈ u_ws RX6 TX6 43, w ∈ wsX6_ground := by decide +kernel
theorem qX6_ground_f110 : Cond.fieldLink RX6 110 "KindParserModel" "rules" "I" ∈ wsX6_ground := by decide +kernel
theorem qX6_ground_f13 : Cond.fieldLink RX6 13 "KindParserModel" "size" "[I" ∈ wsX6_ground := by decide +kernel
theorem qX6_ground_f16 : Cond.fieldLink RX6 16 "KindParserModel" "symbol" "[I" ∈ wsX6_ground := by decide +kernel
theorem qX6_ground_f7 : Cond.fieldLink RX6 7 "KindParserModel" "head" "[I" ∈ wsX6_ground := by decide +kernel
set_option maxHeartbeats 4000000 in
set_option maxRecDepth 100000 in
theorem wjn_X6_ground_80 {l : Launch} {D : va_G} {cI cB cJ cZ : ClassId} {ad : Nat → Nat} {ws : va_W} {z : Nat} {m_thrown : Int32} {m_rules : Int32} {m_length : Int32} {m_tree : Int32} {m_tokens : Int32} {m_comments : Int32} {m_parts : Int32} {m_end : Int32} {m_open : Int32} {m_column : Int32} {m_printed : Int32} {m_repaired : Int32} {m_paid : Int32} {m_head : Nat → Int32} {m_size : Nat → Int32} {m_symbol : Nat → Int32} (E : ws[37]? = some (ad 37, .inr (6, [.int m_thrown, .int m_rules, .ref (ad 38), .ref (ad 39), .ref (ad 40), .ref (ad 41), .ref (ad 42), .int m_length, .ref (ad 43), .int m_tree, .ref (ad 44), .int m_tokens, .ref (ad 45), .ref (ad 46), .ref (ad 47), .int m_comments, .ref (ad 48), .ref (ad 49), .ref (ad 50), .ref (ad 51), .ref (ad 52), .ref (ad 53), .int m_parts, .ref (ad 54), .ref (ad 55), .ref (ad 56), .ref (ad 57), .ref (ad 58), .ref (ad 59), .ref (ad 60), .ref (ad 61), .int m_end, .int m_open, .ref (ad 62), .ref (ad 63), .ref (ad 64), .ref (ad 65), .ref (ad 66), .int m_column, .int m_printed, .ref (ad 67), .int m_repaired, .int m_paid])) ∧ ws[38]? = some (ad 38, .inl (cI, 20, .inl m_head)) ∧ ws[39]? = some (ad 39, .inl (cI, 20, .inl m_size)) ∧ ws[40]? = some (ad 40, .inl (cI, 100, .inl m_symbol))) {o : Int32} {k28 : (Int32) → (Int32) → (Int32) → (Int32) → (Int32) → Option (Int32)} (hk28 : ∀ (x1 : Int32) (x2 : Int32) (x3 : Int32) (x4 : Int32) (x5 : Int32), k28 x1 x2 x3 x4 x5 = some o → KW l xX6_ground D (kT cI cB cJ cZ) ws z (kQi D (kT cI cB cJ cZ) o [] ws z) 28 [(0, .ref (ad 37)), (1, .int x1), (2, .int x2), (3, .int x3), (4, .int x4), (5, .int x5)] [] []) : ∀ (x1 : Int32) (x2 : Int32) (x3 : Int32) (x5 : Int32) (s0 : Int32), jn_X6_ground_80 m_rules m_head m_size m_symbol k28 x1 x2 x3 x5 s0 = some o → KW l xX6_ground D (kT cI cB cJ cZ) ws z (kQi D (kT cI cB cJ cZ) o [] ws z) 80 [(0, .ref (ad 37)), (1, .int x1), (2, .int x2), (3, .int x3), (5, .int x5)] [.int s0] [] := by
  intro x1 x2 x3 x5 s0 h
  unfold jn_X6_ground_80 at h
  refine k_istore (i := 4) (lv' := fun x => [(4, .int x), (0, .ref (ad 37)), (1, .int x1), (2, .int x2), (3, .int x3), (5, .int x5)]) dX6_ground_80 (Nat.le_of_ble_eq_true rfl) (fun _ => rfl) h (fun x4_7 h => ?_)
  refine k_iinc (i := 5) (lv' := fun x => [(5, .int x), (4, .int x4_7), (0, .ref (ad 37)), (1, .int x1), (2, .int x2), (3, .int x3)]) dX6_ground_82 5 rfl (Nat.le_of_ble_eq_true rfl) (fun _ => rfl) h (fun x5_8 h => ?_)
  refine k_goto 28 dX6_ground_85 (by decide) ?_
  refine k_sub [2, 3, 4, 5, 1, 0] rfl ?_
  exact hk28 _ _ _ _ _ h
set_option maxHeartbeats 4000000 in
set_option maxRecDepth 100000 in
theorem wjn_X6_ground_79 {l : Launch} {D : va_G} {cI cB cJ cZ : ClassId} {ad : Nat → Nat} {ws : va_W} {z : Nat} {m_thrown : Int32} {m_rules : Int32} {m_length : Int32} {m_tree : Int32} {m_tokens : Int32} {m_comments : Int32} {m_parts : Int32} {m_end : Int32} {m_open : Int32} {m_column : Int32} {m_printed : Int32} {m_repaired : Int32} {m_paid : Int32} {m_head : Nat → Int32} {m_size : Nat → Int32} {m_symbol : Nat → Int32} (E : ws[37]? = some (ad 37, .inr (6, [.int m_thrown, .int m_rules, .ref (ad 38), .ref (ad 39), .ref (ad 40), .ref (ad 41), .ref (ad 42), .int m_length, .ref (ad 43), .int m_tree, .ref (ad 44), .int m_tokens, .ref (ad 45), .ref (ad 46), .ref (ad 47), .int m_comments, .ref (ad 48), .ref (ad 49), .ref (ad 50), .ref (ad 51), .ref (ad 52), .ref (ad 53), .int m_parts, .ref (ad 54), .ref (ad 55), .ref (ad 56), .ref (ad 57), .ref (ad 58), .ref (ad 59), .ref (ad 60), .ref (ad 61), .int m_end, .int m_open, .ref (ad 62), .ref (ad 63), .ref (ad 64), .ref (ad 65), .ref (ad 66), .int m_column, .int m_printed, .ref (ad 67), .int m_repaired, .int m_paid])) ∧ ws[38]? = some (ad 38, .inl (cI, 20, .inl m_head)) ∧ ws[39]? = some (ad 39, .inl (cI, 20, .inl m_size)) ∧ ws[40]? = some (ad 40, .inl (cI, 100, .inl m_symbol))) {o : Int32} {k28 : (Int32) → (Int32) → (Int32) → (Int32) → (Int32) → Option (Int32)} (hk28 : ∀ (x1 : Int32) (x2 : Int32) (x3 : Int32) (x4 : Int32) (x5 : Int32), k28 x1 x2 x3 x4 x5 = some o → KW l xX6_ground D (kT cI cB cJ cZ) ws z (kQi D (kT cI cB cJ cZ) o [] ws z) 28 [(0, .ref (ad 37)), (1, .int x1), (2, .int x2), (3, .int x3), (4, .int x4), (5, .int x5)] [] []) : ∀ (x1 : Int32) (x2 : Int32) (x3 : Int32) (x5 : Int32), jn_X6_ground_79 m_rules m_head m_size m_symbol k28 x1 x2 x3 x5 = some o → KW l xX6_ground D (kT cI cB cJ cZ) ws z (kQi D (kT cI cB cJ cZ) o [] ws z) 79 [(0, .ref (ad 37)), (1, .int x1), (2, .int x2), (3, .int x3), (5, .int x5)] [] [] := by
  intro x1 x2 x3 x5 h
  unfold jn_X6_ground_79 at h
  refine k_iconst (v := 0) dX6_ground_79 (by decide) ?_
  refine k_sub [0, 1, 2, 3, 4] rfl ?_
  exact wjn_X6_ground_80 (cI := cI) (cB := cB) (cJ := cJ) (cZ := cZ) (ad := ad) E hk28 _ _ _ _ _ h
set_option maxHeartbeats 4000000 in
set_option maxRecDepth 100000 in
theorem wjn_X6_ground_75 {l : Launch} {D : va_G} {cI cB cJ cZ : ClassId} {ad : Nat → Nat} {ws : va_W} {z : Nat} {m_thrown : Int32} {m_rules : Int32} {m_length : Int32} {m_tree : Int32} {m_tokens : Int32} {m_comments : Int32} {m_parts : Int32} {m_end : Int32} {m_open : Int32} {m_column : Int32} {m_printed : Int32} {m_repaired : Int32} {m_paid : Int32} {m_head : Nat → Int32} {m_size : Nat → Int32} {m_symbol : Nat → Int32} (E : ws[37]? = some (ad 37, .inr (6, [.int m_thrown, .int m_rules, .ref (ad 38), .ref (ad 39), .ref (ad 40), .ref (ad 41), .ref (ad 42), .int m_length, .ref (ad 43), .int m_tree, .ref (ad 44), .int m_tokens, .ref (ad 45), .ref (ad 46), .ref (ad 47), .int m_comments, .ref (ad 48), .ref (ad 49), .ref (ad 50), .ref (ad 51), .ref (ad 52), .ref (ad 53), .int m_parts, .ref (ad 54), .ref (ad 55), .ref (ad 56), .ref (ad 57), .ref (ad 58), .ref (ad 59), .ref (ad 60), .ref (ad 61), .int m_end, .int m_open, .ref (ad 62), .ref (ad 63), .ref (ad 64), .ref (ad 65), .ref (ad 66), .int m_column, .int m_printed, .ref (ad 67), .int m_repaired, .int m_paid])) ∧ ws[38]? = some (ad 38, .inl (cI, 20, .inl m_head)) ∧ ws[39]? = some (ad 39, .inl (cI, 20, .inl m_size)) ∧ ws[40]? = some (ad 40, .inl (cI, 100, .inl m_symbol))) {o : Int32} {k28 : (Int32) → (Int32) → (Int32) → (Int32) → (Int32) → Option (Int32)} (hk28 : ∀ (x1 : Int32) (x2 : Int32) (x3 : Int32) (x4 : Int32) (x5 : Int32), k28 x1 x2 x3 x4 x5 = some o → KW l xX6_ground D (kT cI cB cJ cZ) ws z (kQi D (kT cI cB cJ cZ) o [] ws z) 28 [(0, .ref (ad 37)), (1, .int x1), (2, .int x2), (3, .int x3), (4, .int x4), (5, .int x5)] [] []) : ∀ (x1 : Int32) (x2 : Int32) (x3 : Int32) (x5 : Int32), jn_X6_ground_75 m_rules m_head m_size m_symbol k28 x1 x2 x3 x5 = some o → KW l xX6_ground D (kT cI cB cJ cZ) ws z (kQi D (kT cI cB cJ cZ) o [] ws z) 75 [(0, .ref (ad 37)), (1, .int x1), (2, .int x2), (3, .int x3), (5, .int x5)] [] [] := by
  intro x1 x2 x3 x5 h
  unfold jn_X6_ground_75 at h
  refine k_iconst (v := 1) dX6_ground_75 (by decide) ?_
  refine k_goto 80 dX6_ground_76 (by decide) ?_
  refine k_sub [0, 1, 2, 3, 4] rfl ?_
  exact wjn_X6_ground_80 (cI := cI) (cB := cB) (cJ := cJ) (cZ := cZ) (ad := ad) E hk28 _ _ _ _ _ h
set_option maxHeartbeats 4000000 in
set_option maxRecDepth 100000 in
theorem wlp_X6_ground_28 {l : Launch} {D : va_G} {cI cB cJ cZ : ClassId} {ad : Nat → Nat} {ws : va_W} {z : Nat} {m_thrown : Int32} {m_rules : Int32} {m_length : Int32} {m_tree : Int32} {m_tokens : Int32} {m_comments : Int32} {m_parts : Int32} {m_end : Int32} {m_open : Int32} {m_column : Int32} {m_printed : Int32} {m_repaired : Int32} {m_paid : Int32} {m_head : Nat → Int32} {m_size : Nat → Int32} {m_symbol : Nat → Int32} (E : ws[37]? = some (ad 37, .inr (6, [.int m_thrown, .int m_rules, .ref (ad 38), .ref (ad 39), .ref (ad 40), .ref (ad 41), .ref (ad 42), .int m_length, .ref (ad 43), .int m_tree, .ref (ad 44), .int m_tokens, .ref (ad 45), .ref (ad 46), .ref (ad 47), .int m_comments, .ref (ad 48), .ref (ad 49), .ref (ad 50), .ref (ad 51), .ref (ad 52), .ref (ad 53), .int m_parts, .ref (ad 54), .ref (ad 55), .ref (ad 56), .ref (ad 57), .ref (ad 58), .ref (ad 59), .ref (ad 60), .ref (ad 61), .int m_end, .int m_open, .ref (ad 62), .ref (ad 63), .ref (ad 64), .ref (ad 65), .ref (ad 66), .int m_column, .int m_printed, .ref (ad 67), .int m_repaired, .int m_paid])) ∧ ws[38]? = some (ad 38, .inl (cI, 20, .inl m_head)) ∧ ws[39]? = some (ad 39, .inl (cI, 20, .inl m_size)) ∧ ws[40]? = some (ad 40, .inl (cI, 100, .inl m_symbol))) {o : Int32} {k88 : (Int32) → (Int32) → (Int32) → (Int32) → Option (Int32)} (hk88 : ∀ (x1 : Int32) (x2 : Int32) (x3 : Int32) (x4 : Int32), k88 x1 x2 x3 x4 = some o → KW l xX6_ground D (kT cI cB cJ cZ) ws z (kQi D (kT cI cB cJ cZ) o [] ws z) 88 [(0, .ref (ad 37)), (1, .int x1), (2, .int x2), (3, .int x3), (4, .int x4)] [] []) : ∀ (n : Nat) (x1 : Int32) (x2 : Int32) (x3 : Int32) (x4 : Int32) (x5 : Int32), lp_X6_ground_28 m_rules m_head m_size m_symbol k88 n x1 x2 x3 x4 x5 = some o → KW l xX6_ground D (kT cI cB cJ cZ) ws z (kQi D (kT cI cB cJ cZ) o [] ws z) 28 [(0, .ref (ad 37)), (1, .int x1), (2, .int x2), (3, .int x3), (4, .int x4), (5, .int x5)] [] [] := by
  intro n
  induction n with
  | zero => intro x1 x2 x3 x4 x5 h; exact absurd h (by simp [lp_X6_ground_28])
  | succ n hk28 =>
    intro x1 x2 x3 x4 x5 h
    unfold lp_X6_ground_28 at h
    refine k_iload dX6_ground_28 5 rfl ?_
    refine k_iconst (v := 5) dX6_ground_30 (by decide) ?_
    refine k_iload_n dX6_ground_31 3 rfl rfl ?_
    refine k_imul dX6_ground_32 ?_
    refine k_aload_n dX6_ground_33 0 rfl rfl ?_
    refine k_get 37 3 E.1 rfl qX6_ground_wX6 (by decide) qX6_ground_f13 rfl dX6_ground_34 ?_
    refine k_iload_n dX6_ground_37 3 rfl rfl ?_
    refine k_iald 39 0 E.2.2.1 rfl dX6_ground_38 h (fun v6 h => ?_)
    refine k_iadd dX6_ground_39 ?_
    refine k_icmp_ge 88 dX6_ground_40 (by decide) h (fun h => ?_) (fun h => ?_)
    · skip
      refine k_sub [0, 1, 2, 3, 4] rfl ?_
      exact hk88 _ _ _ _ h
    · skip
      refine k_iload dX6_ground_43 4 rfl ?_
      refine k_if_eq 79 dX6_ground_45 (by decide) h (fun h => ?_) (fun h => ?_)
      · skip
        refine k_sub [0, 1, 2, 3, 5] rfl ?_
        exact wjn_X6_ground_79 (cI := cI) (cB := cB) (cJ := cJ) (cZ := cZ) (ad := ad) E hk28 _ _ _ _ h
      · skip
        refine k_aload_n dX6_ground_48 0 rfl rfl ?_
        refine k_get 37 4 E.1 rfl qX6_ground_wX6 (by decide) qX6_ground_f16 rfl dX6_ground_49 ?_
        refine k_iload dX6_ground_52 5 rfl ?_
        refine k_iald 40 0 E.2.2.2 rfl dX6_ground_54 h (fun v9 h => ?_)
        refine k_bipush (v := 9) dX6_ground_55 (by decide) ?_
        refine k_icmp_lt 75 dX6_ground_57 (by decide) h (fun h => ?_) (fun h => ?_)
        · skip
          refine k_sub [0, 1, 2, 3, 5] rfl ?_
          exact wjn_X6_ground_75 (cI := cI) (cB := cB) (cJ := cJ) (cZ := cZ) (ad := ad) E hk28 _ _ _ _ h
        · skip
          refine k_iload_n dX6_ground_60 1 rfl rfl ?_
          refine k_aload_n dX6_ground_61 0 rfl rfl ?_
          refine k_get 37 4 E.1 rfl qX6_ground_wX6 (by decide) qX6_ground_f16 rfl dX6_ground_62 ?_
          refine k_iload dX6_ground_65 5 rfl ?_
          refine k_iald 40 0 E.2.2.2 rfl dX6_ground_67 h (fun v10 h => ?_)
          refine k_ishr dX6_ground_68 ?_
          refine k_iconst (v := 1) dX6_ground_69 (by decide) ?_
          refine k_iand dX6_ground_70 ?_
          refine k_iconst (v := 1) dX6_ground_71 (by decide) ?_
          refine k_icmp_ne 79 dX6_ground_72 (by decide) h (fun h => ?_) (fun h => ?_)
          · skip
            refine k_sub [0, 1, 2, 3, 5] rfl ?_
            exact wjn_X6_ground_75 (cI := cI) (cB := cB) (cJ := cJ) (cZ := cZ) (ad := ad) E hk28 _ _ _ _ h
          · skip
            refine k_sub [0, 1, 2, 3, 5] rfl ?_
            exact wjn_X6_ground_79 (cI := cI) (cB := cB) (cJ := cJ) (cZ := cZ) (ad := ad) E hk28 _ _ _ _ h
set_option maxHeartbeats 4000000 in
set_option maxRecDepth 100000 in
theorem wjn_X6_ground_106 {l : Launch} {D : va_G} {cI cB cJ cZ : ClassId} {ad : Nat → Nat} {ws : va_W} {z : Nat} {m_thrown : Int32} {m_rules : Int32} {m_length : Int32} {m_tree : Int32} {m_tokens : Int32} {m_comments : Int32} {m_parts : Int32} {m_end : Int32} {m_open : Int32} {m_column : Int32} {m_printed : Int32} {m_repaired : Int32} {m_paid : Int32} {m_head : Nat → Int32} {m_size : Nat → Int32} {m_symbol : Nat → Int32} (E : ws[37]? = some (ad 37, .inr (6, [.int m_thrown, .int m_rules, .ref (ad 38), .ref (ad 39), .ref (ad 40), .ref (ad 41), .ref (ad 42), .int m_length, .ref (ad 43), .int m_tree, .ref (ad 44), .int m_tokens, .ref (ad 45), .ref (ad 46), .ref (ad 47), .int m_comments, .ref (ad 48), .ref (ad 49), .ref (ad 50), .ref (ad 51), .ref (ad 52), .ref (ad 53), .int m_parts, .ref (ad 54), .ref (ad 55), .ref (ad 56), .ref (ad 57), .ref (ad 58), .ref (ad 59), .ref (ad 60), .ref (ad 61), .int m_end, .int m_open, .ref (ad 62), .ref (ad 63), .ref (ad 64), .ref (ad 65), .ref (ad 66), .int m_column, .int m_printed, .ref (ad 67), .int m_repaired, .int m_paid])) ∧ ws[38]? = some (ad 38, .inl (cI, 20, .inl m_head)) ∧ ws[39]? = some (ad 39, .inl (cI, 20, .inl m_size)) ∧ ws[40]? = some (ad 40, .inl (cI, 100, .inl m_symbol))) {o : Int32} {k12 : (Int32) → (Int32) → (Int32) → Option (Int32)} (hk12 : ∀ (x1 : Int32) (x2 : Int32) (x3 : Int32), k12 x1 x2 x3 = some o → KW l xX6_ground D (kT cI cB cJ cZ) ws z (kQi D (kT cI cB cJ cZ) o [] ws z) 12 [(0, .ref (ad 37)), (1, .int x1), (2, .int x2), (3, .int x3)] [] []) : ∀ (x2 : Int32) (x3 : Int32) (s0 : Int32) (s1 : Int32), jn_X6_ground_106 m_rules m_head m_size m_symbol k12 x2 x3 s0 s1 = some o → KW l xX6_ground D (kT cI cB cJ cZ) ws z (kQi D (kT cI cB cJ cZ) o [] ws z) 106 [(0, .ref (ad 37)), (2, .int x2), (3, .int x3)] [.int s1, .int s0] [] := by
  intro x2 x3 s0 s1 h
  unfold jn_X6_ground_106 at h
  refine k_ior dX6_ground_106 ?_
  refine k_istore_n (i := 1) (lv' := fun x => [(1, .int x), (0, .ref (ad 37)), (2, .int x2), (3, .int x3)]) dX6_ground_107 rfl (Nat.le_of_ble_eq_true rfl) (fun _ => rfl) h (fun x1_11 h => ?_)
  refine k_iinc (i := 3) (lv' := fun x => [(3, .int x), (1, .int x1_11), (0, .ref (ad 37)), (2, .int x2)]) dX6_ground_108 3 rfl (Nat.le_of_ble_eq_true rfl) (fun _ => rfl) h (fun x3_12 h => ?_)
  refine k_goto 12 dX6_ground_111 (by decide) ?_
  refine k_sub [2, 1, 3, 0] rfl ?_
  exact hk12 _ _ _ h
set_option maxHeartbeats 4000000 in
set_option maxRecDepth 100000 in
theorem wlp_X6_ground_12 {l : Launch} {D : va_G} {cI cB cJ cZ : ClassId} {ad : Nat → Nat} {ws : va_W} {z : Nat} {m_thrown : Int32} {m_rules : Int32} {m_length : Int32} {m_tree : Int32} {m_tokens : Int32} {m_comments : Int32} {m_parts : Int32} {m_end : Int32} {m_open : Int32} {m_column : Int32} {m_printed : Int32} {m_repaired : Int32} {m_paid : Int32} {m_head : Nat → Int32} {m_size : Nat → Int32} {m_symbol : Nat → Int32} (E : ws[37]? = some (ad 37, .inr (6, [.int m_thrown, .int m_rules, .ref (ad 38), .ref (ad 39), .ref (ad 40), .ref (ad 41), .ref (ad 42), .int m_length, .ref (ad 43), .int m_tree, .ref (ad 44), .int m_tokens, .ref (ad 45), .ref (ad 46), .ref (ad 47), .int m_comments, .ref (ad 48), .ref (ad 49), .ref (ad 50), .ref (ad 51), .ref (ad 52), .ref (ad 53), .int m_parts, .ref (ad 54), .ref (ad 55), .ref (ad 56), .ref (ad 57), .ref (ad 58), .ref (ad 59), .ref (ad 60), .ref (ad 61), .int m_end, .int m_open, .ref (ad 62), .ref (ad 63), .ref (ad 64), .ref (ad 65), .ref (ad 66), .int m_column, .int m_printed, .ref (ad 67), .int m_repaired, .int m_paid])) ∧ ws[38]? = some (ad 38, .inl (cI, 20, .inl m_head)) ∧ ws[39]? = some (ad 39, .inl (cI, 20, .inl m_size)) ∧ ws[40]? = some (ad 40, .inl (cI, 100, .inl m_symbol))) {o : Int32} {k114 : (Int32) → (Int32) → Option (Int32)} (hk114 : ∀ (x1 : Int32) (x2 : Int32), k114 x1 x2 = some o → KW l xX6_ground D (kT cI cB cJ cZ) ws z (kQi D (kT cI cB cJ cZ) o [] ws z) 114 [(0, .ref (ad 37)), (1, .int x1), (2, .int x2)] [] []) : ∀ (n : Nat) (x1 : Int32) (x2 : Int32) (x3 : Int32), lp_X6_ground_12 m_rules m_head m_size m_symbol k114 n x1 x2 x3 = some o → KW l xX6_ground D (kT cI cB cJ cZ) ws z (kQi D (kT cI cB cJ cZ) o [] ws z) 12 [(0, .ref (ad 37)), (1, .int x1), (2, .int x2), (3, .int x3)] [] [] := by
  intro n
  induction n with
  | zero => intro x1 x2 x3 h; exact absurd h (by simp [lp_X6_ground_12])
  | succ n hk12 =>
    intro x1 x2 x3 h
    unfold lp_X6_ground_12 at h
    refine k_iload_n dX6_ground_12 3 rfl rfl ?_
    refine k_aload_n dX6_ground_13 0 rfl rfl ?_
    refine k_get 37 1 E.1 rfl qX6_ground_wX6 (by decide) qX6_ground_f110 rfl dX6_ground_14 ?_
    refine k_icmp_ge 114 dX6_ground_17 (by decide) h (fun h => ?_) (fun h => ?_)
    · skip
      refine k_sub [0, 1, 2] rfl ?_
      exact hk114 _ _ h
    · skip
      refine k_iconst (v := 1) dX6_ground_20 (by decide) ?_
      refine k_istore (i := 4) (lv' := fun x => [(4, .int x), (0, .ref (ad 37)), (1, .int x1), (2, .int x2), (3, .int x3)]) dX6_ground_21 (Nat.le_of_ble_eq_true rfl) (fun _ => rfl) h (fun x4_4 h => ?_)
      refine k_iconst (v := 5) dX6_ground_23 (by decide) ?_
      refine k_iload_n dX6_ground_24 4 rfl rfl ?_
      refine k_imul dX6_ground_25 ?_
      refine k_istore (i := 5) (lv' := fun x => [(5, .int x), (4, .int x4_4), (0, .ref (ad 37)), (1, .int x1), (2, .int x2), (3, .int x3)]) dX6_ground_26 (Nat.le_of_ble_eq_true rfl) (fun _ => rfl) h (fun x5_5 h => ?_)
      refine k_sub [2, 3, 4, 5, 1, 0] rfl ?_
      refine wlp_X6_ground_28 (cI := cI) (cB := cB) (cJ := cJ) (cZ := cZ) (ad := ad) E ?_ FU _ _ _ _ _ h
      · intro x1 x2 x3 x4 h
        refine k_iload_n dX6_ground_88 1 rfl rfl ?_
        refine k_iload dX6_ground_89 4 rfl ?_
        refine k_if_eq 105 dX6_ground_91 (by decide) h (fun h => ?_) (fun h => ?_)
        · skip
          refine k_iconst (v := 0) dX6_ground_105 (by decide) ?_
          refine k_sub [0, 2, 3] rfl ?_
          exact wjn_X6_ground_106 (cI := cI) (cB := cB) (cJ := cJ) (cZ := cZ) (ad := ad) E hk12 _ _ _ _ h
        · skip
          refine k_iconst (v := 1) dX6_ground_94 (by decide) ?_
          refine k_aload_n dX6_ground_95 0 rfl rfl ?_
          refine k_get 37 2 E.1 rfl qX6_ground_wX6 (by decide) qX6_ground_f7 rfl dX6_ground_96 ?_
          refine k_iload_n dX6_ground_99 3 rfl rfl ?_
          refine k_iald 38 0 E.2.1 rfl dX6_ground_100 h (fun v13 h => ?_)
          refine k_ishl dX6_ground_101 ?_
          refine k_goto 106 dX6_ground_102 (by decide) ?_
          refine k_sub [0, 2, 3] rfl ?_
          exact wjn_X6_ground_106 (cI := cI) (cB := cB) (cJ := cJ) (cZ := cZ) (ad := ad) E hk12 _ _ _ _ h
set_option maxHeartbeats 4000000 in
set_option maxRecDepth 100000 in
theorem wlp_X6_ground_4 {l : Launch} {D : va_G} {cI cB cJ cZ : ClassId} {ad : Nat → Nat} {ws : va_W} {z : Nat} {m_thrown : Int32} {m_rules : Int32} {m_length : Int32} {m_tree : Int32} {m_tokens : Int32} {m_comments : Int32} {m_parts : Int32} {m_end : Int32} {m_open : Int32} {m_column : Int32} {m_printed : Int32} {m_repaired : Int32} {m_paid : Int32} {m_head : Nat → Int32} {m_size : Nat → Int32} {m_symbol : Nat → Int32} (E : ws[37]? = some (ad 37, .inr (6, [.int m_thrown, .int m_rules, .ref (ad 38), .ref (ad 39), .ref (ad 40), .ref (ad 41), .ref (ad 42), .int m_length, .ref (ad 43), .int m_tree, .ref (ad 44), .int m_tokens, .ref (ad 45), .ref (ad 46), .ref (ad 47), .int m_comments, .ref (ad 48), .ref (ad 49), .ref (ad 50), .ref (ad 51), .ref (ad 52), .ref (ad 53), .int m_parts, .ref (ad 54), .ref (ad 55), .ref (ad 56), .ref (ad 57), .ref (ad 58), .ref (ad 59), .ref (ad 60), .ref (ad 61), .int m_end, .int m_open, .ref (ad 62), .ref (ad 63), .ref (ad 64), .ref (ad 65), .ref (ad 66), .int m_column, .int m_printed, .ref (ad 67), .int m_repaired, .int m_paid])) ∧ ws[38]? = some (ad 38, .inl (cI, 20, .inl m_head)) ∧ ws[39]? = some (ad 39, .inl (cI, 20, .inl m_size)) ∧ ws[40]? = some (ad 40, .inl (cI, 100, .inl m_symbol))) {o : Int32} {k120 : (Int32) → Option (Int32)} (hk120 : ∀ (x1 : Int32), k120 x1 = some o → KW l xX6_ground D (kT cI cB cJ cZ) ws z (kQi D (kT cI cB cJ cZ) o [] ws z) 120 [(1, .int x1)] [] []) : ∀ (n : Nat) (x1 : Int32) (x2 : Int32), lp_X6_ground_4 m_rules m_head m_size m_symbol k120 n x1 x2 = some o → KW l xX6_ground D (kT cI cB cJ cZ) ws z (kQi D (kT cI cB cJ cZ) o [] ws z) 4 [(0, .ref (ad 37)), (1, .int x1), (2, .int x2)] [] [] := by
  intro n
  induction n with
  | zero => intro x1 x2 h; exact absurd h (by simp [lp_X6_ground_4])
  | succ n hk4 =>
    intro x1 x2 h
    unfold lp_X6_ground_4 at h
    refine k_iload_n dX6_ground_4 2 rfl rfl ?_
    refine k_bipush (v := 6) dX6_ground_5 (by decide) ?_
    refine k_icmp_ge 120 dX6_ground_7 (by decide) h (fun h => ?_) (fun h => ?_)
    · skip
      refine k_sub [1] rfl ?_
      exact hk120 _ h
    · skip
      refine k_iconst (v := 0) dX6_ground_10 (by decide) ?_
      refine k_istore_n (i := 3) (lv' := fun x => [(3, .int x), (0, .ref (ad 37)), (1, .int x1), (2, .int x2)]) dX6_ground_11 rfl (Nat.le_of_ble_eq_true rfl) (fun _ => rfl) h (fun x3_3 h => ?_)
      refine k_sub [1, 2, 3, 0] rfl ?_
      refine wlp_X6_ground_12 (cI := cI) (cB := cB) (cJ := cJ) (cZ := cZ) (ad := ad) E ?_ FU _ _ _ h
      · intro x1 x2 h
        refine k_iinc (i := 2) (lv' := fun x => [(2, .int x), (0, .ref (ad 37)), (1, .int x1)]) dX6_ground_114 2 rfl (Nat.le_of_ble_eq_true rfl) (fun _ => rfl) h (fun x2_14 h => ?_)
        refine k_goto 4 dX6_ground_117 (by decide) ?_
        refine k_sub [1, 2, 0] rfl ?_
        exact hk4 _ _ h
set_option maxHeartbeats 4000000 in
set_option maxRecDepth 100000 in
/-- KindParserModel.ground -/
theorem c_X6_ground {l : Launch} {D : va_G} {cI cB cJ cZ : ClassId} {ad : Nat → Nat} (ws : va_W) (z : Nat) {m_thrown : Int32} {m_rules : Int32} {m_length : Int32} {m_tree : Int32} {m_tokens : Int32} {m_comments : Int32} {m_parts : Int32} {m_end : Int32} {m_open : Int32} {m_column : Int32} {m_printed : Int32} {m_repaired : Int32} {m_paid : Int32} {m_head : Nat → Int32} {m_size : Nat → Int32} {m_symbol : Nat → Int32} (E : ws[37]? = some (ad 37, .inr (6, [.int m_thrown, .int m_rules, .ref (ad 38), .ref (ad 39), .ref (ad 40), .ref (ad 41), .ref (ad 42), .int m_length, .ref (ad 43), .int m_tree, .ref (ad 44), .int m_tokens, .ref (ad 45), .ref (ad 46), .ref (ad 47), .int m_comments, .ref (ad 48), .ref (ad 49), .ref (ad 50), .ref (ad 51), .ref (ad 52), .ref (ad 53), .int m_parts, .ref (ad 54), .ref (ad 55), .ref (ad 56), .ref (ad 57), .ref (ad 58), .ref (ad 59), .ref (ad 60), .ref (ad 61), .int m_end, .int m_open, .ref (ad 62), .ref (ad 63), .ref (ad 64), .ref (ad 65), .ref (ad 66), .int m_column, .int m_printed, .ref (ad 67), .int m_repaired, .int m_paid])) ∧ ws[38]? = some (ad 38, .inl (cI, 20, .inl m_head)) ∧ ws[39]? = some (ad 39, .inl (cI, 20, .inl m_size)) ∧ ws[40]? = some (ad 40, .inl (cI, 100, .inl m_symbol)))   {o : Int32} (h : f_X6_ground m_rules m_head m_size m_symbol = some o) : Met l yX6_ground wsX6_ground rmX6_ground (kPc D (kT cI cB cJ cZ) [.ref (ad 37)] ws z) (kQi D (kT cI cB cJ cZ) o [] ws z) 0 0 (va_A ws z) := by
  refine KW.met (rm := rmX6_ground) (lv := [(0, .ref (ad 37))]) (L := []) rfl (by decide) (Nat.le_of_ble_eq_true rfl) rfl (fun q hq => by cases hq) ?_
  unfold f_X6_ground at h
  show KW l xX6_ground D (kT cI cB cJ cZ) ws z (kQi D (kT cI cB cJ cZ) o [] ws z) 0 [(0, .ref (ad 37))] [] []
  refine k_iconst (v := 0) dX6_ground_0 (by decide) ?_
  refine k_istore_n (i := 1) (lv' := fun x => [(1, .int x), (0, .ref (ad 37))]) dX6_ground_1 rfl (Nat.le_of_ble_eq_true rfl) (fun _ => rfl) h (fun x1_1 h => ?_)
  refine k_iconst (v := 0) dX6_ground_2 (by decide) ?_
  refine k_istore_n (i := 2) (lv' := fun x => [(2, .int x), (1, .int x1_1), (0, .ref (ad 37))]) dX6_ground_3 rfl (Nat.le_of_ble_eq_true rfl) (fun _ => rfl) h (fun x2_2 h => ?_)
  refine k_sub [2, 1, 0] rfl ?_
  refine wlp_X6_ground_4 (cI := cI) (cB := cB) (cJ := cJ) (cZ := cZ) (ad := ad) E ?_ FU _ _ h
  · intro x1 h
    refine k_iload_n dX6_ground_120 0 rfl rfl ?_
    obtain rfl := Option.some.inj h
    exact k_iret rfl dX6_ground_121
abbrev rmX6_grounded : Room := { frames := 1, cells := 0, slots := 0, locals := 25 }
abbrev xX6_grounded : KX := (rmX6_grounded, cX6_grounded, 2, some .boolean, RX6, wsX6_grounded)
theorem hySX6_grounded : yX6_grounded.cls ≠ "java/lang/invoke/MethodHandle" ∧ yX6_grounded.cls ≠ "java/lang/invoke/VarHandle" ∧ (parseMethodDescriptor yX6_grounded.desc).map (fun d => d.parameters.length) = some 1 := by decide +kernel
theorem hyVX6_grounded : yX6_grounded.cls = RX6 ∧ yX6_grounded.cls ≠ "java/lang/invoke/MethodHandle" ∧ yX6_grounded.cls ≠ "java/lang/invoke/VarHandle" ∧ (parseMethodDescriptor yX6_grounded.desc).map (fun d => d.parameters.length) = some 1 := ⟨rfl, hySX6_grounded⟩
theorem qX6_grounded_wX6 : ∀ w ∈ u_ws RX6 TX6 43, w ∈ wsX6_grounded := by decide +kernel
theorem qX6_grounded_f102 : Cond.fieldLink RX6 102 "KindParserModel" "thrown" "I" ∈ wsX6_grounded := by decide +kernel
set_option maxHeartbeats 4000000 in
set_option maxRecDepth 100000 in
theorem wjn_X6_grounded_34 {l : Launch} {D : va_G} {cI cB cJ cZ : ClassId} {ad : Nat → Nat} {ws : va_W} {z : Nat} {m_rules : Int32} {m_length : Int32} {m_tree : Int32} {m_tokens : Int32} {m_comments : Int32} {m_parts : Int32} {m_end : Int32} {m_open : Int32} {m_column : Int32} {m_printed : Int32} {m_repaired : Int32} {m_paid : Int32} {m_head : Nat → Int32} {m_size : Nat → Int32} {m_symbol : Nat → Int32} (E : ws[38]? = some (ad 38, .inl (cI, 20, .inl m_head)) ∧ ws[39]? = some (ad 39, .inl (cI, 20, .inl m_size)) ∧ ws[40]? = some (ad 40, .inl (cI, 100, .inl m_symbol))) {o : Int32 × (Int32)}   : ∀ (s0 : Int32) (m_thrown : Int32), jn_X6_grounded_34 m_rules m_head m_size m_symbol s0 m_thrown = some o → KW l xX6_grounded D (kT cI cB cJ cZ) ws z (kQi D (kT cI cB cJ cZ) o.1 [(37, (ad 37, .inr (6, [.int o.2, .int m_rules, .ref (ad 38), .ref (ad 39), .ref (ad 40), .ref (ad 41), .ref (ad 42), .int m_length, .ref (ad 43), .int m_tree, .ref (ad 44), .int m_tokens, .ref (ad 45), .ref (ad 46), .ref (ad 47), .int m_comments, .ref (ad 48), .ref (ad 49), .ref (ad 50), .ref (ad 51), .ref (ad 52), .ref (ad 53), .int m_parts, .ref (ad 54), .ref (ad 55), .ref (ad 56), .ref (ad 57), .ref (ad 58), .ref (ad 59), .ref (ad 60), .ref (ad 61), .int m_end, .int m_open, .ref (ad 62), .ref (ad 63), .ref (ad 64), .ref (ad 65), .ref (ad 66), .int m_column, .int m_printed, .ref (ad 67), .int m_repaired, .int m_paid])))] ws z) 34 [] [.int s0] [(37, (ad 37, .inr (6, [.int m_thrown, .int m_rules, .ref (ad 38), .ref (ad 39), .ref (ad 40), .ref (ad 41), .ref (ad 42), .int m_length, .ref (ad 43), .int m_tree, .ref (ad 44), .int m_tokens, .ref (ad 45), .ref (ad 46), .ref (ad 47), .int m_comments, .ref (ad 48), .ref (ad 49), .ref (ad 50), .ref (ad 51), .ref (ad 52), .ref (ad 53), .int m_parts, .ref (ad 54), .ref (ad 55), .ref (ad 56), .ref (ad 57), .ref (ad 58), .ref (ad 59), .ref (ad 60), .ref (ad 61), .int m_end, .int m_open, .ref (ad 62), .ref (ad 63), .ref (ad 64), .ref (ad 65), .ref (ad 66), .int m_column, .int m_printed, .ref (ad 67), .int m_repaired, .int m_paid])))] := by
  intro s0 m_thrown h
  unfold jn_X6_grounded_34 at h
  obtain ⟨hz, h⟩ := zc_some h
  obtain rfl := Option.some.inj h
  exact k_zret rfl hz dX6_grounded_34
set_option maxHeartbeats 4000000 in
set_option maxRecDepth 100000 in
theorem wjn_X6_grounded_33 {l : Launch} {D : va_G} {cI cB cJ cZ : ClassId} {ad : Nat → Nat} {ws : va_W} {z : Nat} {m_rules : Int32} {m_length : Int32} {m_tree : Int32} {m_tokens : Int32} {m_comments : Int32} {m_parts : Int32} {m_end : Int32} {m_open : Int32} {m_column : Int32} {m_printed : Int32} {m_repaired : Int32} {m_paid : Int32} {m_head : Nat → Int32} {m_size : Nat → Int32} {m_symbol : Nat → Int32} (E : ws[38]? = some (ad 38, .inl (cI, 20, .inl m_head)) ∧ ws[39]? = some (ad 39, .inl (cI, 20, .inl m_size)) ∧ ws[40]? = some (ad 40, .inl (cI, 100, .inl m_symbol))) {o : Int32 × (Int32)}   : ∀ (m_thrown : Int32), jn_X6_grounded_33 m_rules m_head m_size m_symbol m_thrown = some o → KW l xX6_grounded D (kT cI cB cJ cZ) ws z (kQi D (kT cI cB cJ cZ) o.1 [(37, (ad 37, .inr (6, [.int o.2, .int m_rules, .ref (ad 38), .ref (ad 39), .ref (ad 40), .ref (ad 41), .ref (ad 42), .int m_length, .ref (ad 43), .int m_tree, .ref (ad 44), .int m_tokens, .ref (ad 45), .ref (ad 46), .ref (ad 47), .int m_comments, .ref (ad 48), .ref (ad 49), .ref (ad 50), .ref (ad 51), .ref (ad 52), .ref (ad 53), .int m_parts, .ref (ad 54), .ref (ad 55), .ref (ad 56), .ref (ad 57), .ref (ad 58), .ref (ad 59), .ref (ad 60), .ref (ad 61), .int m_end, .int m_open, .ref (ad 62), .ref (ad 63), .ref (ad 64), .ref (ad 65), .ref (ad 66), .int m_column, .int m_printed, .ref (ad 67), .int m_repaired, .int m_paid])))] ws z) 33 [] [] [(37, (ad 37, .inr (6, [.int m_thrown, .int m_rules, .ref (ad 38), .ref (ad 39), .ref (ad 40), .ref (ad 41), .ref (ad 42), .int m_length, .ref (ad 43), .int m_tree, .ref (ad 44), .int m_tokens, .ref (ad 45), .ref (ad 46), .ref (ad 47), .int m_comments, .ref (ad 48), .ref (ad 49), .ref (ad 50), .ref (ad 51), .ref (ad 52), .ref (ad 53), .int m_parts, .ref (ad 54), .ref (ad 55), .ref (ad 56), .ref (ad 57), .ref (ad 58), .ref (ad 59), .ref (ad 60), .ref (ad 61), .int m_end, .int m_open, .ref (ad 62), .ref (ad 63), .ref (ad 64), .ref (ad 65), .ref (ad 66), .int m_column, .int m_printed, .ref (ad 67), .int m_repaired, .int m_paid])))] := by
  intro m_thrown h
  unfold jn_X6_grounded_33 at h
  refine k_iconst (v := 0) dX6_grounded_33 (by decide) ?_
  refine k_sub [] rfl ?_
  exact wjn_X6_grounded_34 (cI := cI) (cB := cB) (cJ := cJ) (cZ := cZ) (ad := ad) E  _ _ h
set_option maxHeartbeats 4000000 in
set_option maxRecDepth 100000 in
/-- KindParserModel.grounded -/
theorem c_X6_grounded {l : Launch} {D : va_G} {cI cB cJ cZ : ClassId} {ad : Nat → Nat} (ws : va_W) (z : Nat) {m_thrown : Int32} {m_rules : Int32} {m_length : Int32} {m_tree : Int32} {m_tokens : Int32} {m_comments : Int32} {m_parts : Int32} {m_end : Int32} {m_open : Int32} {m_column : Int32} {m_printed : Int32} {m_repaired : Int32} {m_paid : Int32} {m_head : Nat → Int32} {m_size : Nat → Int32} {m_symbol : Nat → Int32} (E : ws[38]? = some (ad 38, .inl (cI, 20, .inl m_head)) ∧ ws[39]? = some (ad 39, .inl (cI, 20, .inl m_size)) ∧ ws[40]? = some (ad 40, .inl (cI, 100, .inl m_symbol))) (e37 : ws[37]? = some (ad 37, .inr (6, [.int m_thrown, .int m_rules, .ref (ad 38), .ref (ad 39), .ref (ad 40), .ref (ad 41), .ref (ad 42), .int m_length, .ref (ad 43), .int m_tree, .ref (ad 44), .int m_tokens, .ref (ad 45), .ref (ad 46), .ref (ad 47), .int m_comments, .ref (ad 48), .ref (ad 49), .ref (ad 50), .ref (ad 51), .ref (ad 52), .ref (ad 53), .int m_parts, .ref (ad 54), .ref (ad 55), .ref (ad 56), .ref (ad 57), .ref (ad 58), .ref (ad 59), .ref (ad 60), .ref (ad 61), .int m_end, .int m_open, .ref (ad 62), .ref (ad 63), .ref (ad 64), .ref (ad 65), .ref (ad 66), .int m_column, .int m_printed, .ref (ad 67), .int m_repaired, .int m_paid]))) {a1 : Int32} {o : Int32 × (Int32)} (h : f_X6_grounded a1 m_rules m_head m_size m_symbol m_thrown = some o) : Met l yX6_grounded wsX6_grounded rmX6_grounded (kPc D (kT cI cB cJ cZ) [.ref (ad 37), .int a1] ws z) (kQi D (kT cI cB cJ cZ) o.1 [(37, (ad 37, .inr (6, [.int o.2, .int m_rules, .ref (ad 38), .ref (ad 39), .ref (ad 40), .ref (ad 41), .ref (ad 42), .int m_length, .ref (ad 43), .int m_tree, .ref (ad 44), .int m_tokens, .ref (ad 45), .ref (ad 46), .ref (ad 47), .int m_comments, .ref (ad 48), .ref (ad 49), .ref (ad 50), .ref (ad 51), .ref (ad 52), .ref (ad 53), .int m_parts, .ref (ad 54), .ref (ad 55), .ref (ad 56), .ref (ad 57), .ref (ad 58), .ref (ad 59), .ref (ad 60), .ref (ad 61), .int m_end, .int m_open, .ref (ad 62), .ref (ad 63), .ref (ad 64), .ref (ad 65), .ref (ad 66), .int m_column, .int m_printed, .ref (ad 67), .int m_repaired, .int m_paid])))] ws z) 0 0 (va_A ws z) := by
  refine KW.met (rm := rmX6_grounded) (lv := [(0, .ref (ad 37)), (1, .int a1)]) (L := [(37, (ad 37, .inr (6, [.int m_thrown, .int m_rules, .ref (ad 38), .ref (ad 39), .ref (ad 40), .ref (ad 41), .ref (ad 42), .int m_length, .ref (ad 43), .int m_tree, .ref (ad 44), .int m_tokens, .ref (ad 45), .ref (ad 46), .ref (ad 47), .int m_comments, .ref (ad 48), .ref (ad 49), .ref (ad 50), .ref (ad 51), .ref (ad 52), .ref (ad 53), .int m_parts, .ref (ad 54), .ref (ad 55), .ref (ad 56), .ref (ad 57), .ref (ad 58), .ref (ad 59), .ref (ad 60), .ref (ad 61), .int m_end, .int m_open, .ref (ad 62), .ref (ad 63), .ref (ad 64), .ref (ad 65), .ref (ad 66), .int m_column, .int m_printed, .ref (ad 67), .int m_repaired, .int m_paid])))]) rfl (by decide) (Nat.le_of_ble_eq_true rfl) rfl (by intro q hq; simp only [List.mem_cons, List.not_mem_nil, or_false] at hq; rcases hq with rfl <;> assumption) ?_
  unfold f_X6_grounded at h
  show KW l xX6_grounded D (kT cI cB cJ cZ) ws z (kQi D (kT cI cB cJ cZ) o.1 [(37, (ad 37, .inr (6, [.int o.2, .int m_rules, .ref (ad 38), .ref (ad 39), .ref (ad 40), .ref (ad 41), .ref (ad 42), .int m_length, .ref (ad 43), .int m_tree, .ref (ad 44), .int m_tokens, .ref (ad 45), .ref (ad 46), .ref (ad 47), .int m_comments, .ref (ad 48), .ref (ad 49), .ref (ad 50), .ref (ad 51), .ref (ad 52), .ref (ad 53), .int m_parts, .ref (ad 54), .ref (ad 55), .ref (ad 56), .ref (ad 57), .ref (ad 58), .ref (ad 59), .ref (ad 60), .ref (ad 61), .int m_end, .int m_open, .ref (ad 62), .ref (ad 63), .ref (ad 64), .ref (ad 65), .ref (ad 66), .int m_column, .int m_printed, .ref (ad 67), .int m_repaired, .int m_paid])))] ws z) 0 [(0, .ref (ad 37)), (1, .int a1)] [] [(37, (ad 37, .inr (6, [.int m_thrown, .int m_rules, .ref (ad 38), .ref (ad 39), .ref (ad 40), .ref (ad 41), .ref (ad 42), .int m_length, .ref (ad 43), .int m_tree, .ref (ad 44), .int m_tokens, .ref (ad 45), .ref (ad 46), .ref (ad 47), .int m_comments, .ref (ad 48), .ref (ad 49), .ref (ad 50), .ref (ad 51), .ref (ad 52), .ref (ad 53), .int m_parts, .ref (ad 54), .ref (ad 55), .ref (ad 56), .ref (ad 57), .ref (ad 58), .ref (ad 59), .ref (ad 60), .ref (ad 61), .int m_end, .int m_open, .ref (ad 62), .ref (ad 63), .ref (ad 64), .ref (ad 65), .ref (ad 66), .int m_column, .int m_printed, .ref (ad 67), .int m_repaired, .int m_paid])))]
  refine k_aload_n dX6_grounded_0 0 rfl rfl ?_
  refine k_iconst (v := 0) dX6_grounded_1 (by decide) ?_
  refine k_put (L' := [(37, (ad 37, .inr (6, [.int 0, .int m_rules, .ref (ad 38), .ref (ad 39), .ref (ad 40), .ref (ad 41), .ref (ad 42), .int m_length, .ref (ad 43), .int m_tree, .ref (ad 44), .int m_tokens, .ref (ad 45), .ref (ad 46), .ref (ad 47), .int m_comments, .ref (ad 48), .ref (ad 49), .ref (ad 50), .ref (ad 51), .ref (ad 52), .ref (ad 53), .int m_parts, .ref (ad 54), .ref (ad 55), .ref (ad 56), .ref (ad 57), .ref (ad 58), .ref (ad 59), .ref (ad 60), .ref (ad 61), .int m_end, .int m_open, .ref (ad 62), .ref (ad 63), .ref (ad 64), .ref (ad 65), .ref (ad 66), .int m_column, .int m_printed, .ref (ad 67), .int m_repaired, .int m_paid])))]) 37 0 rfl rfl qX6_grounded_wX6 (by decide) tyX6 tyX6_ok nmX6 rfl qX6_grounded_f102 rfl (tyX6_ok 0 (by decide)) rfl rfl (Nat.le_of_ble_eq_true rfl) dX6_grounded_2 rfl ?_
  refine k_iload_n dX6_grounded_5 1 rfl rfl ?_
  refine k_bipush (v := 9) dX6_grounded_6 (by decide) ?_
  refine k_icmp_lt 33 dX6_grounded_8 (by decide) h (fun h => ?_) (fun h => ?_)
  · skip
    refine k_sub [] rfl ?_
    exact wjn_X6_grounded_33 (cI := cI) (cB := cB) (cJ := cJ) (cZ := cZ) (ad := ad) E  _ h
  · skip
    refine k_iload_n dX6_grounded_11 1 rfl rfl ?_
    refine k_bipush (v := 14) dX6_grounded_12 (by decide) ?_
    refine k_icmp_gt 33 dX6_grounded_14 (by decide) h (fun h => ?_) (fun h => ?_)
    · skip
      refine k_sub [] rfl ?_
      exact wjn_X6_grounded_33 (cI := cI) (cB := cB) (cJ := cJ) (cZ := cZ) (ad := ad) E  _ h
    · skip
      refine k_aload_n dX6_grounded_17 0 rfl rfl ?_
      obtain ⟨r2, hr2, h⟩ := Option.bind_eq_some_iff.mp h
      refine k_calliV (As := []) (st := []) (Lc := []) (L' := [(37, (ad 37, .inr (6, [.int 0, .int m_rules, .ref (ad 38), .ref (ad 39), .ref (ad 40), .ref (ad 41), .ref (ad 42), .int m_length, .ref (ad 43), .int m_tree, .ref (ad 44), .int m_tokens, .ref (ad 45), .ref (ad 46), .ref (ad 47), .int m_comments, .ref (ad 48), .ref (ad 49), .ref (ad 50), .ref (ad 51), .ref (ad 52), .ref (ad 53), .int m_parts, .ref (ad 54), .ref (ad 55), .ref (ad 56), .ref (ad 57), .ref (ad 58), .ref (ad 59), .ref (ad 60), .ref (ad 61), .int m_end, .int m_open, .ref (ad 62), .ref (ad 63), .ref (ad 64), .ref (ad 65), .ref (ad 66), .int m_column, .int m_printed, .ref (ad 67), .int m_repaired, .int m_paid])))]) (r := r2) gX6_grounded_X6_ground rfl rfl rfl hyVX6_ground ⟨Nat.le_of_ble_eq_true rfl, Nat.le_of_ble_eq_true rfl⟩ rfl rfl (Nat.le_of_ble_eq_true rfl) 37 rfl rfl dX6_grounded_18 (fun w z hw => c_X6_ground (cI := cI) (cB := cB) (cJ := cJ) (cZ := cZ) (ad := ad) w z ⟨(hw 37), ((hw 38).trans E.1), ((hw 39).trans E.2.1), ((hw 40).trans E.2.2)⟩  hr2) rfl rfl ?_
      refine k_iload_n dX6_grounded_21 1 rfl rfl ?_
      refine k_ishr dX6_grounded_22 ?_
      refine k_iconst (v := 1) dX6_grounded_23 (by decide) ?_
      refine k_iand dX6_grounded_24 ?_
      refine k_iconst (v := 1) dX6_grounded_25 (by decide) ?_
      refine k_icmp_ne 33 dX6_grounded_26 (by decide) h (fun h => ?_) (fun h => ?_)
      · skip
        refine k_iconst (v := 1) dX6_grounded_29 (by decide) ?_
        refine k_goto 34 dX6_grounded_30 (by decide) ?_
        refine k_sub [] rfl ?_
        exact wjn_X6_grounded_34 (cI := cI) (cB := cB) (cJ := cJ) (cZ := cZ) (ad := ad) E  _ _ h
      · skip
        refine k_sub [] rfl ?_
        exact wjn_X6_grounded_33 (cI := cI) (cB := cB) (cJ := cJ) (cZ := cZ) (ad := ad) E  _ h
abbrev rmX6_commentEnd : Room := { frames := 0, cells := 0, slots := 0, locals := 0 }
abbrev xX6_commentEnd : KX := (rmX6_commentEnd, cX6_commentEnd, 3, some .int, RX6, wsX6_commentEnd)
theorem hySX6_commentEnd : yX6_commentEnd.cls ≠ "java/lang/invoke/MethodHandle" ∧ yX6_commentEnd.cls ≠ "java/lang/invoke/VarHandle" ∧ (parseMethodDescriptor yX6_commentEnd.desc).map (fun d => d.parameters.length) = some 1 := by decide +kernel
theorem hyVX6_commentEnd : yX6_commentEnd.cls = RX6 ∧ yX6_commentEnd.cls ≠ "java/lang/invoke/MethodHandle" ∧ yX6_commentEnd.cls ≠ "java/lang/invoke/VarHandle" ∧ (parseMethodDescriptor yX6_commentEnd.desc).map (fun d => d.parameters.length) = some 1 := ⟨rfl, hySX6_commentEnd⟩
theorem qX6_commentEnd_wX6 : ∀ w ∈ u_ws RX6 TX6 43, w ∈ wsX6_commentEnd := by decide +kernel
theorem qX6_commentEnd_f119 : Cond.fieldLink RX6 119 "KindParserModel" "length" "I" ∈ wsX6_commentEnd := by decide +kernel
theorem qX6_commentEnd_f26 : Cond.fieldLink RX6 26 "KindParserModel" "text" "[I" ∈ wsX6_commentEnd := by decide +kernel
set_option maxHeartbeats 4000000 in
set_option maxRecDepth 100000 in
theorem wlp_X6_commentEnd_4 {l : Launch} {D : va_G} {cI cB cJ cZ : ClassId} {ad : Nat → Nat} {ws : va_W} {z : Nat} {m_thrown : Int32} {m_rules : Int32} {m_length : Int32} {m_tree : Int32} {m_tokens : Int32} {m_comments : Int32} {m_parts : Int32} {m_end : Int32} {m_open : Int32} {m_column : Int32} {m_printed : Int32} {m_repaired : Int32} {m_paid : Int32} {m_text : Nat → Int32} (E : ws[37]? = some (ad 37, .inr (6, [.int m_thrown, .int m_rules, .ref (ad 38), .ref (ad 39), .ref (ad 40), .ref (ad 41), .ref (ad 42), .int m_length, .ref (ad 43), .int m_tree, .ref (ad 44), .int m_tokens, .ref (ad 45), .ref (ad 46), .ref (ad 47), .int m_comments, .ref (ad 48), .ref (ad 49), .ref (ad 50), .ref (ad 51), .ref (ad 52), .ref (ad 53), .int m_parts, .ref (ad 54), .ref (ad 55), .ref (ad 56), .ref (ad 57), .ref (ad 58), .ref (ad 59), .ref (ad 60), .ref (ad 61), .int m_end, .int m_open, .ref (ad 62), .ref (ad 63), .ref (ad 64), .ref (ad 65), .ref (ad 66), .int m_column, .int m_printed, .ref (ad 67), .int m_repaired, .int m_paid])) ∧ ws[43]? = some (ad 43, .inl (cI, 80, .inl m_text))) {o : Int32} {k29 : (Int32) → Option (Int32)} (hk29 : ∀ (x2 : Int32), k29 x2 = some o → KW l xX6_commentEnd D (kT cI cB cJ cZ) ws z (kQi D (kT cI cB cJ cZ) o [] ws z) 29 [(0, .ref (ad 37)), (2, .int x2)] [] []) : ∀ (n : Nat) (x2 : Int32), lp_X6_commentEnd_4 m_length m_text k29 n x2 = some o → KW l xX6_commentEnd D (kT cI cB cJ cZ) ws z (kQi D (kT cI cB cJ cZ) o [] ws z) 4 [(0, .ref (ad 37)), (2, .int x2)] [] [] := by
  intro n
  induction n with
  | zero => intro x2 h; exact absurd h (by simp [lp_X6_commentEnd_4])
  | succ n hk4 =>
    intro x2 h
    unfold lp_X6_commentEnd_4 at h
    refine k_iload_n dX6_commentEnd_4 1 rfl rfl ?_
    refine k_aload_n dX6_commentEnd_5 0 rfl rfl ?_
    refine k_get 37 7 E.1 rfl qX6_commentEnd_wX6 (by decide) qX6_commentEnd_f119 rfl dX6_commentEnd_6 ?_
    refine k_icmp_ge 29 dX6_commentEnd_9 (by decide) h (fun h => ?_) (fun h => ?_)
    · skip
      refine k_sub [0, 1] rfl ?_
      exact hk29 _ h
    · skip
      refine k_aload_n dX6_commentEnd_12 0 rfl rfl ?_
      refine k_get 37 8 E.1 rfl qX6_commentEnd_wX6 (by decide) qX6_commentEnd_f26 rfl dX6_commentEnd_13 ?_
      refine k_iload_n dX6_commentEnd_16 1 rfl rfl ?_
      refine k_iald 43 0 E.2 rfl dX6_commentEnd_17 h (fun v2 h => ?_)
      refine k_bipush (v := 125) dX6_commentEnd_18 (by decide) ?_
      refine k_icmp_eq 29 dX6_commentEnd_20 (by decide) h (fun h => ?_) (fun h => ?_)
      · skip
        refine k_sub [0, 1] rfl ?_
        exact hk29 _ h
      · skip
        refine k_iinc (i := 2) (lv' := fun x => [(2, .int x), (0, .ref (ad 37))]) dX6_commentEnd_23 1 rfl (Nat.le_of_ble_eq_true rfl) (fun _ => rfl) h (fun x2_3 h => ?_)
        refine k_goto 4 dX6_commentEnd_26 (by decide) ?_
        refine k_sub [1, 0] rfl ?_
        exact hk4 _ h
set_option maxHeartbeats 4000000 in
set_option maxRecDepth 100000 in
theorem wjn_X6_commentEnd_44 {l : Launch} {D : va_G} {cI cB cJ cZ : ClassId} {ad : Nat → Nat} {ws : va_W} {z : Nat} {m_thrown : Int32} {m_rules : Int32} {m_length : Int32} {m_tree : Int32} {m_tokens : Int32} {m_comments : Int32} {m_parts : Int32} {m_end : Int32} {m_open : Int32} {m_column : Int32} {m_printed : Int32} {m_repaired : Int32} {m_paid : Int32} {m_text : Nat → Int32} (E : ws[37]? = some (ad 37, .inr (6, [.int m_thrown, .int m_rules, .ref (ad 38), .ref (ad 39), .ref (ad 40), .ref (ad 41), .ref (ad 42), .int m_length, .ref (ad 43), .int m_tree, .ref (ad 44), .int m_tokens, .ref (ad 45), .ref (ad 46), .ref (ad 47), .int m_comments, .ref (ad 48), .ref (ad 49), .ref (ad 50), .ref (ad 51), .ref (ad 52), .ref (ad 53), .int m_parts, .ref (ad 54), .ref (ad 55), .ref (ad 56), .ref (ad 57), .ref (ad 58), .ref (ad 59), .ref (ad 60), .ref (ad 61), .int m_end, .int m_open, .ref (ad 62), .ref (ad 63), .ref (ad 64), .ref (ad 65), .ref (ad 66), .int m_column, .int m_printed, .ref (ad 67), .int m_repaired, .int m_paid])) ∧ ws[43]? = some (ad 43, .inl (cI, 80, .inl m_text))) {o : Int32}   : ∀ (s0 : Int32), jn_X6_commentEnd_44 m_length m_text s0 = some o → KW l xX6_commentEnd D (kT cI cB cJ cZ) ws z (kQi D (kT cI cB cJ cZ) o [] ws z) 44 [] [.int s0] [] := by
  intro s0 h
  unfold jn_X6_commentEnd_44 at h
  obtain rfl := Option.some.inj h
  exact k_iret rfl dX6_commentEnd_44
set_option maxHeartbeats 4000000 in
set_option maxRecDepth 100000 in
theorem wjn_X6_commentEnd_29 {l : Launch} {D : va_G} {cI cB cJ cZ : ClassId} {ad : Nat → Nat} {ws : va_W} {z : Nat} {m_thrown : Int32} {m_rules : Int32} {m_length : Int32} {m_tree : Int32} {m_tokens : Int32} {m_comments : Int32} {m_parts : Int32} {m_end : Int32} {m_open : Int32} {m_column : Int32} {m_printed : Int32} {m_repaired : Int32} {m_paid : Int32} {m_text : Nat → Int32} (E : ws[37]? = some (ad 37, .inr (6, [.int m_thrown, .int m_rules, .ref (ad 38), .ref (ad 39), .ref (ad 40), .ref (ad 41), .ref (ad 42), .int m_length, .ref (ad 43), .int m_tree, .ref (ad 44), .int m_tokens, .ref (ad 45), .ref (ad 46), .ref (ad 47), .int m_comments, .ref (ad 48), .ref (ad 49), .ref (ad 50), .ref (ad 51), .ref (ad 52), .ref (ad 53), .int m_parts, .ref (ad 54), .ref (ad 55), .ref (ad 56), .ref (ad 57), .ref (ad 58), .ref (ad 59), .ref (ad 60), .ref (ad 61), .int m_end, .int m_open, .ref (ad 62), .ref (ad 63), .ref (ad 64), .ref (ad 65), .ref (ad 66), .int m_column, .int m_printed, .ref (ad 67), .int m_repaired, .int m_paid])) ∧ ws[43]? = some (ad 43, .inl (cI, 80, .inl m_text))) {o : Int32}   : ∀ (x2 : Int32), jn_X6_commentEnd_29 m_length m_text x2 = some o → KW l xX6_commentEnd D (kT cI cB cJ cZ) ws z (kQi D (kT cI cB cJ cZ) o [] ws z) 29 [(0, .ref (ad 37)), (2, .int x2)] [] [] := by
  intro x2 h
  unfold jn_X6_commentEnd_29 at h
  refine k_iload_n dX6_commentEnd_29 1 rfl rfl ?_
  refine k_aload_n dX6_commentEnd_30 0 rfl rfl ?_
  refine k_get 37 7 E.1 rfl qX6_commentEnd_wX6 (by decide) qX6_commentEnd_f119 rfl dX6_commentEnd_31 ?_
  refine k_icmp_ge 43 dX6_commentEnd_34 (by decide) h (fun h => ?_) (fun h => ?_)
  · skip
    refine k_iconst (v := (-1)) dX6_commentEnd_43 (by decide) ?_
    refine k_sub [] rfl ?_
    exact wjn_X6_commentEnd_44 (cI := cI) (cB := cB) (cJ := cJ) (cZ := cZ) (ad := ad) E  _ h
  · skip
    refine k_iload_n dX6_commentEnd_37 1 rfl rfl ?_
    refine k_iconst (v := 1) dX6_commentEnd_38 (by decide) ?_
    refine k_iadd dX6_commentEnd_39 ?_
    refine k_goto 44 dX6_commentEnd_40 (by decide) ?_
    refine k_sub [] rfl ?_
    exact wjn_X6_commentEnd_44 (cI := cI) (cB := cB) (cJ := cJ) (cZ := cZ) (ad := ad) E  _ h
set_option maxHeartbeats 4000000 in
set_option maxRecDepth 100000 in
/-- KindParserModel.commentEnd -/
theorem c_X6_commentEnd {l : Launch} {D : va_G} {cI cB cJ cZ : ClassId} {ad : Nat → Nat} (ws : va_W) (z : Nat) {m_thrown : Int32} {m_rules : Int32} {m_length : Int32} {m_tree : Int32} {m_tokens : Int32} {m_comments : Int32} {m_parts : Int32} {m_end : Int32} {m_open : Int32} {m_column : Int32} {m_printed : Int32} {m_repaired : Int32} {m_paid : Int32} {m_text : Nat → Int32} (E : ws[37]? = some (ad 37, .inr (6, [.int m_thrown, .int m_rules, .ref (ad 38), .ref (ad 39), .ref (ad 40), .ref (ad 41), .ref (ad 42), .int m_length, .ref (ad 43), .int m_tree, .ref (ad 44), .int m_tokens, .ref (ad 45), .ref (ad 46), .ref (ad 47), .int m_comments, .ref (ad 48), .ref (ad 49), .ref (ad 50), .ref (ad 51), .ref (ad 52), .ref (ad 53), .int m_parts, .ref (ad 54), .ref (ad 55), .ref (ad 56), .ref (ad 57), .ref (ad 58), .ref (ad 59), .ref (ad 60), .ref (ad 61), .int m_end, .int m_open, .ref (ad 62), .ref (ad 63), .ref (ad 64), .ref (ad 65), .ref (ad 66), .int m_column, .int m_printed, .ref (ad 67), .int m_repaired, .int m_paid])) ∧ ws[43]? = some (ad 43, .inl (cI, 80, .inl m_text)))  {a1 : Int32} {o : Int32} (h : f_X6_commentEnd a1 m_length m_text = some o) : Met l yX6_commentEnd wsX6_commentEnd rmX6_commentEnd (kPc D (kT cI cB cJ cZ) [.ref (ad 37), .int a1] ws z) (kQi D (kT cI cB cJ cZ) o [] ws z) 0 0 (va_A ws z) := by
  refine KW.met (rm := rmX6_commentEnd) (lv := [(0, .ref (ad 37)), (1, .int a1)]) (L := []) rfl (by decide) (Nat.le_of_ble_eq_true rfl) rfl (fun q hq => by cases hq) ?_
  unfold f_X6_commentEnd at h
  show KW l xX6_commentEnd D (kT cI cB cJ cZ) ws z (kQi D (kT cI cB cJ cZ) o [] ws z) 0 [(0, .ref (ad 37)), (1, .int a1)] [] []
  refine k_iload_n dX6_commentEnd_0 1 rfl rfl ?_
  refine k_iconst (v := 1) dX6_commentEnd_1 (by decide) ?_
  refine k_iadd dX6_commentEnd_2 ?_
  refine k_istore_n (i := 2) (lv' := fun x => [(2, .int x), (0, .ref (ad 37)), (1, .int a1)]) dX6_commentEnd_3 rfl (Nat.le_of_ble_eq_true rfl) (fun _ => rfl) h (fun x2_1 h => ?_)
  refine k_sub [1, 0] rfl ?_
  refine wlp_X6_commentEnd_4 (cI := cI) (cB := cB) (cJ := cJ) (cZ := cZ) (ad := ad) E ?_ FU _ h
  · intro x2 h
    refine k_sub [0, 1] rfl ?_
    exact wjn_X6_commentEnd_29 (cI := cI) (cB := cB) (cJ := cJ) (cZ := cZ) (ad := ad) E  _ h
abbrev rmX6_tokenEnd : Room := { frames := 0, cells := 0, slots := 0, locals := 0 }
abbrev xX6_tokenEnd : KX := (rmX6_tokenEnd, cX6_tokenEnd, 3, some .int, RX6, wsX6_tokenEnd)
theorem hySX6_tokenEnd : yX6_tokenEnd.cls ≠ "java/lang/invoke/MethodHandle" ∧ yX6_tokenEnd.cls ≠ "java/lang/invoke/VarHandle" ∧ (parseMethodDescriptor yX6_tokenEnd.desc).map (fun d => d.parameters.length) = some 1 := by decide +kernel
theorem hyVX6_tokenEnd : yX6_tokenEnd.cls = RX6 ∧ yX6_tokenEnd.cls ≠ "java/lang/invoke/MethodHandle" ∧ yX6_tokenEnd.cls ≠ "java/lang/invoke/VarHandle" ∧ (parseMethodDescriptor yX6_tokenEnd.desc).map (fun d => d.parameters.length) = some 1 := ⟨rfl, hySX6_tokenEnd⟩
theorem qX6_tokenEnd_wX6 : ∀ w ∈ u_ws RX6 TX6 43, w ∈ wsX6_tokenEnd := by decide +kernel
theorem qX6_tokenEnd_f26 : Cond.fieldLink RX6 26 "KindParserModel" "text" "[I" ∈ wsX6_tokenEnd := by decide +kernel
theorem qX6_tokenEnd_f119 : Cond.fieldLink RX6 119 "KindParserModel" "length" "I" ∈ wsX6_tokenEnd := by decide +kernel
set_option maxHeartbeats 4000000 in
set_option maxRecDepth 100000 in
theorem wlp_X6_tokenEnd_4 {l : Launch} {D : va_G} {cI cB cJ cZ : ClassId} {ad : Nat → Nat} {ws : va_W} {z : Nat} {m_thrown : Int32} {m_rules : Int32} {m_length : Int32} {m_tree : Int32} {m_tokens : Int32} {m_comments : Int32} {m_parts : Int32} {m_end : Int32} {m_open : Int32} {m_column : Int32} {m_printed : Int32} {m_repaired : Int32} {m_paid : Int32} {m_text : Nat → Int32} (E : ws[37]? = some (ad 37, .inr (6, [.int m_thrown, .int m_rules, .ref (ad 38), .ref (ad 39), .ref (ad 40), .ref (ad 41), .ref (ad 42), .int m_length, .ref (ad 43), .int m_tree, .ref (ad 44), .int m_tokens, .ref (ad 45), .ref (ad 46), .ref (ad 47), .int m_comments, .ref (ad 48), .ref (ad 49), .ref (ad 50), .ref (ad 51), .ref (ad 52), .ref (ad 53), .int m_parts, .ref (ad 54), .ref (ad 55), .ref (ad 56), .ref (ad 57), .ref (ad 58), .ref (ad 59), .ref (ad 60), .ref (ad 61), .int m_end, .int m_open, .ref (ad 62), .ref (ad 63), .ref (ad 64), .ref (ad 65), .ref (ad 66), .int m_column, .int m_printed, .ref (ad 67), .int m_repaired, .int m_paid])) ∧ ws[43]? = some (ad 43, .inl (cI, 80, .inl m_text))) {o : Int32} {k62 : (Int32) → Option (Int32)} (hk62 : ∀ (x2 : Int32), k62 x2 = some o → KW l xX6_tokenEnd D (kT cI cB cJ cZ) ws z (kQi D (kT cI cB cJ cZ) o [] ws z) 62 [(2, .int x2)] [] []) : ∀ (n : Nat) (x1 : Int32) (x2 : Int32), lp_X6_tokenEnd_4 m_length m_text k62 n x1 x2 = some o → KW l xX6_tokenEnd D (kT cI cB cJ cZ) ws z (kQi D (kT cI cB cJ cZ) o [] ws z) 4 [(0, .ref (ad 37)), (1, .int x1), (2, .int x2)] [] [] := by
  intro n
  induction n with
  | zero => intro x1 x2 h; exact absurd h (by simp [lp_X6_tokenEnd_4])
  | succ n hk4 =>
    intro x1 x2 h
    unfold lp_X6_tokenEnd_4 at h
    refine k_aload_n dX6_tokenEnd_4 0 rfl rfl ?_
    refine k_get 37 8 E.1 rfl qX6_tokenEnd_wX6 (by decide) qX6_tokenEnd_f26 rfl dX6_tokenEnd_5 ?_
    refine k_iload_n dX6_tokenEnd_8 1 rfl rfl ?_
    refine k_iald 43 0 E.2 rfl dX6_tokenEnd_9 h (fun v2 h => ?_)
    refine k_bipush (v := 97) dX6_tokenEnd_10 (by decide) ?_
    refine k_icmp_lt 62 dX6_tokenEnd_12 (by decide) h (fun h => ?_) (fun h => ?_)
    · skip
      refine k_sub [2] rfl ?_
      exact hk62 _ h
    · skip
      refine k_aload_n dX6_tokenEnd_15 0 rfl rfl ?_
      refine k_get 37 8 E.1 rfl qX6_tokenEnd_wX6 (by decide) qX6_tokenEnd_f26 rfl dX6_tokenEnd_16 ?_
      refine k_iload_n dX6_tokenEnd_19 1 rfl rfl ?_
      refine k_iald 43 0 E.2 rfl dX6_tokenEnd_20 h (fun v3 h => ?_)
      refine k_bipush (v := 104) dX6_tokenEnd_21 (by decide) ?_
      refine k_icmp_gt 62 dX6_tokenEnd_23 (by decide) h (fun h => ?_) (fun h => ?_)
      · skip
        refine k_sub [2] rfl ?_
        exact hk62 _ h
      · skip
        refine k_iload_n dX6_tokenEnd_26 2 rfl rfl ?_
        refine k_aload_n dX6_tokenEnd_27 0 rfl rfl ?_
        refine k_get 37 7 E.1 rfl qX6_tokenEnd_wX6 (by decide) qX6_tokenEnd_f119 rfl dX6_tokenEnd_28 ?_
        refine k_icmp_ge 62 dX6_tokenEnd_31 (by decide) h (fun h => ?_) (fun h => ?_)
        · skip
          refine k_sub [2] rfl ?_
          exact hk62 _ h
        · skip
          refine k_aload_n dX6_tokenEnd_34 0 rfl rfl ?_
          refine k_get 37 8 E.1 rfl qX6_tokenEnd_wX6 (by decide) qX6_tokenEnd_f26 rfl dX6_tokenEnd_35 ?_
          refine k_iload_n dX6_tokenEnd_38 2 rfl rfl ?_
          refine k_iald 43 0 E.2 rfl dX6_tokenEnd_39 h (fun v4 h => ?_)
          refine k_bipush (v := 48) dX6_tokenEnd_40 (by decide) ?_
          refine k_icmp_lt 62 dX6_tokenEnd_42 (by decide) h (fun h => ?_) (fun h => ?_)
          · skip
            refine k_sub [2] rfl ?_
            exact hk62 _ h
          · skip
            refine k_aload_n dX6_tokenEnd_45 0 rfl rfl ?_
            refine k_get 37 8 E.1 rfl qX6_tokenEnd_wX6 (by decide) qX6_tokenEnd_f26 rfl dX6_tokenEnd_46 ?_
            refine k_iload_n dX6_tokenEnd_49 2 rfl rfl ?_
            refine k_iald 43 0 E.2 rfl dX6_tokenEnd_50 h (fun v5 h => ?_)
            refine k_bipush (v := 57) dX6_tokenEnd_51 (by decide) ?_
            refine k_icmp_gt 62 dX6_tokenEnd_53 (by decide) h (fun h => ?_) (fun h => ?_)
            · skip
              refine k_sub [2] rfl ?_
              exact hk62 _ h
            · skip
              refine k_iinc (i := 2) (lv' := fun x => [(2, .int x), (0, .ref (ad 37)), (1, .int x1)]) dX6_tokenEnd_56 2 rfl (Nat.le_of_ble_eq_true rfl) (fun _ => rfl) h (fun x2_6 h => ?_)
              refine k_goto 4 dX6_tokenEnd_59 (by decide) ?_
              refine k_sub [1, 2, 0] rfl ?_
              exact hk4 _ _ h
set_option maxHeartbeats 4000000 in
set_option maxRecDepth 100000 in
theorem wjn_X6_tokenEnd_62 {l : Launch} {D : va_G} {cI cB cJ cZ : ClassId} {ad : Nat → Nat} {ws : va_W} {z : Nat} {m_thrown : Int32} {m_rules : Int32} {m_length : Int32} {m_tree : Int32} {m_tokens : Int32} {m_comments : Int32} {m_parts : Int32} {m_end : Int32} {m_open : Int32} {m_column : Int32} {m_printed : Int32} {m_repaired : Int32} {m_paid : Int32} {m_text : Nat → Int32} (E : ws[37]? = some (ad 37, .inr (6, [.int m_thrown, .int m_rules, .ref (ad 38), .ref (ad 39), .ref (ad 40), .ref (ad 41), .ref (ad 42), .int m_length, .ref (ad 43), .int m_tree, .ref (ad 44), .int m_tokens, .ref (ad 45), .ref (ad 46), .ref (ad 47), .int m_comments, .ref (ad 48), .ref (ad 49), .ref (ad 50), .ref (ad 51), .ref (ad 52), .ref (ad 53), .int m_parts, .ref (ad 54), .ref (ad 55), .ref (ad 56), .ref (ad 57), .ref (ad 58), .ref (ad 59), .ref (ad 60), .ref (ad 61), .int m_end, .int m_open, .ref (ad 62), .ref (ad 63), .ref (ad 64), .ref (ad 65), .ref (ad 66), .int m_column, .int m_printed, .ref (ad 67), .int m_repaired, .int m_paid])) ∧ ws[43]? = some (ad 43, .inl (cI, 80, .inl m_text))) {o : Int32}   : ∀ (x2 : Int32), jn_X6_tokenEnd_62 m_length m_text x2 = some o → KW l xX6_tokenEnd D (kT cI cB cJ cZ) ws z (kQi D (kT cI cB cJ cZ) o [] ws z) 62 [(2, .int x2)] [] [] := by
  intro x2 h
  unfold jn_X6_tokenEnd_62 at h
  refine k_iload_n dX6_tokenEnd_62 0 rfl rfl ?_
  obtain rfl := Option.some.inj h
  exact k_iret rfl dX6_tokenEnd_63
set_option maxHeartbeats 4000000 in
set_option maxRecDepth 100000 in
/-- KindParserModel.tokenEnd -/
theorem c_X6_tokenEnd {l : Launch} {D : va_G} {cI cB cJ cZ : ClassId} {ad : Nat → Nat} (ws : va_W) (z : Nat) {m_thrown : Int32} {m_rules : Int32} {m_length : Int32} {m_tree : Int32} {m_tokens : Int32} {m_comments : Int32} {m_parts : Int32} {m_end : Int32} {m_open : Int32} {m_column : Int32} {m_printed : Int32} {m_repaired : Int32} {m_paid : Int32} {m_text : Nat → Int32} (E : ws[37]? = some (ad 37, .inr (6, [.int m_thrown, .int m_rules, .ref (ad 38), .ref (ad 39), .ref (ad 40), .ref (ad 41), .ref (ad 42), .int m_length, .ref (ad 43), .int m_tree, .ref (ad 44), .int m_tokens, .ref (ad 45), .ref (ad 46), .ref (ad 47), .int m_comments, .ref (ad 48), .ref (ad 49), .ref (ad 50), .ref (ad 51), .ref (ad 52), .ref (ad 53), .int m_parts, .ref (ad 54), .ref (ad 55), .ref (ad 56), .ref (ad 57), .ref (ad 58), .ref (ad 59), .ref (ad 60), .ref (ad 61), .int m_end, .int m_open, .ref (ad 62), .ref (ad 63), .ref (ad 64), .ref (ad 65), .ref (ad 66), .int m_column, .int m_printed, .ref (ad 67), .int m_repaired, .int m_paid])) ∧ ws[43]? = some (ad 43, .inl (cI, 80, .inl m_text)))  {a1 : Int32} {o : Int32} (h : f_X6_tokenEnd a1 m_length m_text = some o) : Met l yX6_tokenEnd wsX6_tokenEnd rmX6_tokenEnd (kPc D (kT cI cB cJ cZ) [.ref (ad 37), .int a1] ws z) (kQi D (kT cI cB cJ cZ) o [] ws z) 0 0 (va_A ws z) := by
  refine KW.met (rm := rmX6_tokenEnd) (lv := [(0, .ref (ad 37)), (1, .int a1)]) (L := []) rfl (by decide) (Nat.le_of_ble_eq_true rfl) rfl (fun q hq => by cases hq) ?_
  unfold f_X6_tokenEnd at h
  show KW l xX6_tokenEnd D (kT cI cB cJ cZ) ws z (kQi D (kT cI cB cJ cZ) o [] ws z) 0 [(0, .ref (ad 37)), (1, .int a1)] [] []
  refine k_iload_n dX6_tokenEnd_0 1 rfl rfl ?_
  refine k_iconst (v := 1) dX6_tokenEnd_1 (by decide) ?_
  refine k_iadd dX6_tokenEnd_2 ?_
  refine k_istore_n (i := 2) (lv' := fun x => [(2, .int x), (0, .ref (ad 37)), (1, .int a1)]) dX6_tokenEnd_3 rfl (Nat.le_of_ble_eq_true rfl) (fun _ => rfl) h (fun x2_1 h => ?_)
  refine k_sub [1, 2, 0] rfl ?_
  refine wlp_X6_tokenEnd_4 (cI := cI) (cB := cB) (cJ := cJ) (cZ := cZ) (ad := ad) E ?_ FU _ _ h
  · intro x2 h
    refine k_sub [0] rfl ?_
    exact wjn_X6_tokenEnd_62 (cI := cI) (cB := cB) (cJ := cJ) (cZ := cZ) (ad := ad) E  _ h
