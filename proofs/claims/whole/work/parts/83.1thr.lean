abbrev rmX5_rest : Room := { frames := 6, cells := 1, slots := 6, locals := 82 }
abbrev xX5_rest : KX := (rmX5_rest, cX5_rest, 1, some .int, RX5, wsX5_rest)
theorem hySX5_rest : yX5_rest.cls ≠ "java/lang/invoke/MethodHandle" ∧ yX5_rest.cls ≠ "java/lang/invoke/VarHandle" ∧ (parseMethodDescriptor yX5_rest.desc).map (fun d => d.parameters.length) = some 0 := by decide +kernel
theorem hyVX5_rest : yX5_rest.cls = RX5 ∧ yX5_rest.cls ≠ "java/lang/invoke/MethodHandle" ∧ yX5_rest.cls ≠ "java/lang/invoke/VarHandle" ∧ (parseMethodDescriptor yX5_rest.desc).map (fun d => d.parameters.length) = some 0 := ⟨rfl, hySX5_rest⟩
theorem qX5_rest_wX5 : ∀ w ∈ u_ws RX5 TX5 9, w ∈ wsX5_rest := by decide +kernel
theorem qX5_rest_f45 : Cond.fieldLink RX5 45 "KindParser" "tree" "LKindParser$Tree;" ∈ wsX5_rest := by decide +kernel
theorem qX5_rest_wX4 : ∀ w ∈ u_ws RX4 TX4 14, w ∈ wsX5_rest := by decide +kernel
theorem qX5_rest_cl86 : Cond.classLink RX5 86 "java/lang/IllegalStateException" ∈ wsX5_rest := by decide +kernel
theorem qX5_rest_in2 : Cond.initialized "java/lang/IllegalStateException" ∈ wsX5_rest := by decide +kernel
set_option maxHeartbeats 4000000 in
set_option maxRecDepth 100000 in
/-- KindParser.rest -/
theorem c_X5_rest {l : Launch} {D : va_G} {cI cB cJ cZ : ClassId} {ad : Nat → Nat} (ws : va_W) (z : Nat) {k_length : Int32} {k_repaired : Int32} {k_spent : Int32} {t_waiting : Int32} {t_size : Int32} {t_skipped : Int32} (E : l.stackTraces = false ∧ (ws[0]? = some (ad 0, .inr (5, [.ref (ad 1), .ref (ad 8), .int k_length, .ref (ad 9), .ref (ad 17), .ref (ad 22), .ref (ad 32), .int k_repaired, .int k_spent])) ∧ ws[22]? = some (ad 22, .inr (4, [.ref (ad 1), .ref (ad 17), .ref (ad 23), .ref (ad 24), .ref (ad 25), .ref (ad 26), .ref (ad 27), .ref (ad 28), .ref (ad 29), .ref (ad 30), .ref (ad 31), .int t_waiting, .int t_size, .int t_skipped]))))   {o : Int32 × Int32} (h : f_X5_rest t_size t_skipped = some o) : vx_Met l yX5_rest wsX5_rest rmX5_rest (kPx D (kT cI cB cJ cZ) [.ref (ad 0)] ws z) (kQ0 D (kT cI cB cJ cZ) o.1 o.2 [] ws z) (kX0 D (kT cI cB cJ cZ) o.1 [] ws z) 1 6 (va_A ws z) := by
  refine KG.metX (rm := rmX5_rest) (lv := [(0, .ref (ad 0))]) (L := []) rfl (by decide) (Nat.le_of_ble_eq_true rfl) rfl (fun q hq => by cases hq) ?_
  unfold f_X5_rest at h
  show KG l xX5_rest D (kT cI cB cJ cZ) ws z (kQx D (kT cI cB cJ cZ) o.1 o.2 [] ws z) 0 0 0 [(0, .ref (ad 0))] [] []
  refine k_aload_n dX5_rest_0 0 rfl rfl ?_
  refine k_get 0 5 E.2.1 rfl qX5_rest_wX5 (by decide) qX5_rest_f45 rfl dX5_rest_1 ?_
  refine k_getN 22 12 E.2.2 rfl qX5_rest_wX4 (by decide) (host := "KindParser") (by decide +kernel) rfl dX5_rest_4 ?_
  refine k_if_ne 20 dX5_rest_7 (by decide) h (fun h => ?_) (fun h => ?_)
  · skip
    obtain rfl := Option.some.inj h
    exact k_thrS E.1 (cls := "java/lang/IllegalStateException") (text := "there is no tree") (ik := 86) (is := 157) (ic := 90) rfl qX5_rest_cl86 qX5_rest_in2 (fun _ h => List.mem_cons_of_mem _ (List.mem_append_right _ h)) xb_90 xo_86_90 (by decide) (by decide) (by decide) (show kExN 2 = some "java/lang/IllegalStateException" by decide) ⟨Nat.le_of_ble_eq_true rfl, Nat.le_of_ble_eq_true rfl, Nat.le_of_ble_eq_true rfl, Nat.le_of_ble_eq_true rfl⟩ dX5_rest_10 dX5_rest_13 dX5_rest_14 dX5_rest_16 dX5_rest_19
  · skip
    refine k_aload_n dX5_rest_20 0 rfl rfl ?_
    refine k_get 0 5 E.2.1 rfl qX5_rest_wX5 (by decide) qX5_rest_f45 rfl dX5_rest_21 ?_
    refine k_getN 22 13 E.2.2 rfl qX5_rest_wX4 (by decide) (host := "KindParser") (by decide +kernel) rfl dX5_rest_24 ?_
    obtain rfl := Option.some.inj h
    exact k_xret rfl dX5_rest_27
abbrev rmX5_character : Room := { frames := 6, cells := 1, slots := 6, locals := 82 }
abbrev xX5_character : KX := (rmX5_character, cX5_character, 2, some .int, RX5, wsX5_character)
theorem hySX5_character : yX5_character.cls ≠ "java/lang/invoke/MethodHandle" ∧ yX5_character.cls ≠ "java/lang/invoke/VarHandle" ∧ (parseMethodDescriptor yX5_character.desc).map (fun d => d.parameters.length) = some 1 := by decide +kernel
theorem hyVX5_character : yX5_character.cls = RX5 ∧ yX5_character.cls ≠ "java/lang/invoke/MethodHandle" ∧ yX5_character.cls ≠ "java/lang/invoke/VarHandle" ∧ (parseMethodDescriptor yX5_character.desc).map (fun d => d.parameters.length) = some 1 := ⟨rfl, hySX5_character⟩
theorem qX5_character_cl141 : Cond.classLink RX5 141 "java/lang/IndexOutOfBoundsException" ∈ wsX5_character := by decide +kernel
theorem qX5_character_in4 : Cond.initialized "java/lang/IndexOutOfBoundsException" ∈ wsX5_character := by decide +kernel
theorem qX5_character_wX5 : ∀ w ∈ u_ws RX5 TX5 9, w ∈ wsX5_character := by decide +kernel
theorem qX5_character_f54 : Cond.fieldLink RX5 54 "KindParser" "page" "LKindParser$Page;" ∈ wsX5_character := by decide +kernel
theorem qX5_character_wX3 : ∀ w ∈ u_ws RX3 TX3 9, w ∈ wsX5_character := by decide +kernel
set_option maxHeartbeats 4000000 in
set_option maxRecDepth 100000 in
theorem wjn_X5_character_15 {l : Launch} {D : va_G} {cI cB cJ cZ : ClassId} {ad : Nat → Nat} {ws : va_W} {z : Nat} {k_length : Int32} {k_repaired : Int32} {k_spent : Int32} {p_size : Int32} {p_column : Int32} {p_sheet : Nat → Int32} (E : l.stackTraces = false ∧ (ws[0]? = some (ad 0, .inr (5, [.ref (ad 1), .ref (ad 8), .int k_length, .ref (ad 9), .ref (ad 17), .ref (ad 22), .ref (ad 32), .int k_repaired, .int k_spent])) ∧ ws[32]? = some (ad 32, .inr (3, [.ref (ad 1), .ref (ad 9), .ref (ad 22), .ref (ad 33), .ref (ad 34), .ref (ad 35), .ref (ad 36), .int p_size, .int p_column])) ∧ ws[33]? = some (ad 33, .inl (cB, 1300, .inl p_sheet)))) {o : Int32 × Int32}   : jn_X5_character_15 p_size p_sheet = some o → KG l xX5_character D (kT cI cB cJ cZ) ws z (kQx D (kT cI cB cJ cZ) o.1 o.2 [] ws z) 0 0 15 [] [] [] := by
  intro h
  unfold jn_X5_character_15 at h
  obtain rfl := Option.some.inj h
  exact k_thrS E.1 (cls := "java/lang/IndexOutOfBoundsException") (text := "no such character") (ik := 141) (is := 166) (ic := 145) rfl qX5_character_cl141 qX5_character_in4 (fun _ h => List.mem_cons_of_mem _ (List.mem_append_right _ h)) xb_145 xo_141_145 (by decide) (by decide) (by decide) (show kExN 4 = some "java/lang/IndexOutOfBoundsException" by decide) ⟨Nat.le_of_ble_eq_true rfl, Nat.le_of_ble_eq_true rfl, Nat.le_of_ble_eq_true rfl, Nat.le_of_ble_eq_true rfl⟩ dX5_character_15 dX5_character_18 dX5_character_19 dX5_character_21 dX5_character_24
set_option maxHeartbeats 4000000 in
set_option maxRecDepth 100000 in
/-- KindParser.character -/
theorem c_X5_character {l : Launch} {D : va_G} {cI cB cJ cZ : ClassId} {ad : Nat → Nat} (ws : va_W) (z : Nat) {k_length : Int32} {k_repaired : Int32} {k_spent : Int32} {p_size : Int32} {p_column : Int32} {p_sheet : Nat → Int32} (E : l.stackTraces = false ∧ (ws[0]? = some (ad 0, .inr (5, [.ref (ad 1), .ref (ad 8), .int k_length, .ref (ad 9), .ref (ad 17), .ref (ad 22), .ref (ad 32), .int k_repaired, .int k_spent])) ∧ ws[32]? = some (ad 32, .inr (3, [.ref (ad 1), .ref (ad 9), .ref (ad 22), .ref (ad 33), .ref (ad 34), .ref (ad 35), .ref (ad 36), .int p_size, .int p_column])) ∧ ws[33]? = some (ad 33, .inl (cB, 1300, .inl p_sheet))))  {a1 : Int32} {o : Int32 × Int32} (h : f_X5_character a1 p_size p_sheet = some o) : vx_Met l yX5_character wsX5_character rmX5_character (kPx D (kT cI cB cJ cZ) [.ref (ad 0), .int a1] ws z) (kQ0 D (kT cI cB cJ cZ) o.1 o.2 [] ws z) (kX0 D (kT cI cB cJ cZ) o.1 [] ws z) 1 6 (va_A ws z) := by
  refine KG.metX (rm := rmX5_character) (lv := [(0, .ref (ad 0)), (1, .int a1)]) (L := []) rfl (by decide) (Nat.le_of_ble_eq_true rfl) rfl (fun q hq => by cases hq) ?_
  unfold f_X5_character at h
  show KG l xX5_character D (kT cI cB cJ cZ) ws z (kQx D (kT cI cB cJ cZ) o.1 o.2 [] ws z) 0 0 0 [(0, .ref (ad 0)), (1, .int a1)] [] []
  refine k_iload_n dX5_character_0 1 rfl rfl ?_
  refine k_if_lt 15 dX5_character_1 (by decide) h (fun h => ?_) (fun h => ?_)
  · skip
    refine k_sub [] rfl ?_
    exact wjn_X5_character_15 (cI := cI) (cB := cB) (cJ := cJ) (cZ := cZ) (ad := ad) E   h
  · skip
    refine k_iload_n dX5_character_4 1 rfl rfl ?_
    refine k_aload_n dX5_character_5 0 rfl rfl ?_
    refine k_get 0 6 E.2.1 rfl qX5_character_wX5 (by decide) qX5_character_f54 rfl dX5_character_6 ?_
    refine k_getN 32 7 E.2.2.1 rfl qX5_character_wX3 (by decide) (host := "KindParser") (by decide +kernel) rfl dX5_character_9 ?_
    refine k_icmp_lt 25 dX5_character_12 (by decide) h (fun h => ?_) (fun h => ?_)
    · skip
      refine k_aload_n dX5_character_25 0 rfl rfl ?_
      refine k_get 0 6 E.2.1 rfl qX5_character_wX5 (by decide) qX5_character_f54 rfl dX5_character_26 ?_
      refine k_iload_n dX5_character_29 1 rfl rfl ?_
      obtain ⟨r1, hr1, h⟩ := Option.bind_eq_some_iff.mp h
      refine k_calliV (As := [.int a1]) (st := []) (Lc := []) (L' := []) (r := r1) gX5_character_X3_at rfl rfl rfl hyVX3_at ⟨Nat.le_of_ble_eq_true rfl, Nat.le_of_ble_eq_true rfl⟩ rfl rfl (Nat.le_of_ble_eq_true rfl) 32 E.2.2.1 rfl dX5_character_30 (fun w z hw => c_X3_at (cI := cI) (cB := cB) (cJ := cJ) (cZ := cZ) (ad := ad) w z ⟨((hw 32).trans E.2.2.1), ((hw 33).trans E.2.2.2)⟩  hr1) rfl rfl ?_
      obtain rfl := Option.some.inj h
      exact k_xret rfl dX5_character_33
    · skip
      refine k_sub [] rfl ?_
      exact wjn_X5_character_15 (cI := cI) (cB := cB) (cJ := cJ) (cZ := cZ) (ad := ad) E   h
abbrev rmX5_count : Room := { frames := 0, cells := 0, slots := 0, locals := 0 }
abbrev xX5_count : KX := (rmX5_count, cX5_count, 2, some .int, RX5, wsX5_count)
theorem hySX5_count : yX5_count.cls ≠ "java/lang/invoke/MethodHandle" ∧ yX5_count.cls ≠ "java/lang/invoke/VarHandle" ∧ (parseMethodDescriptor yX5_count.desc).map (fun d => d.parameters.length) = some 1 := by decide +kernel
theorem hyVX5_count : yX5_count.cls = RX5 ∧ yX5_count.cls ≠ "java/lang/invoke/MethodHandle" ∧ yX5_count.cls ≠ "java/lang/invoke/VarHandle" ∧ (parseMethodDescriptor yX5_count.desc).map (fun d => d.parameters.length) = some 1 := ⟨rfl, hySX5_count⟩
theorem qX5_count_wX5 : ∀ w ∈ u_ws RX5 TX5 9, w ∈ wsX5_count := by decide +kernel
theorem qX5_count_f12 : Cond.fieldLink RX5 12 "KindParser" "grammar" "LKindParser$Grammar;" ∈ wsX5_count := by decide +kernel
theorem qX5_count_wX2 : ∀ w ∈ u_ws RX2 TX2 7, w ∈ wsX5_count := by decide +kernel
theorem qX5_count_f58 : Cond.fieldLink RX5 58 "KindParser" "repaired" "I" ∈ wsX5_count := by decide +kernel
theorem qX5_count_f61 : Cond.fieldLink RX5 61 "KindParser" "spent" "I" ∈ wsX5_count := by decide +kernel
set_option maxHeartbeats 4000000 in
set_option maxRecDepth 100000 in
/-- KindParser.count -/
theorem c_X5_count {l : Launch} {D : va_G} {cI cB cJ cZ : ClassId} {ad : Nat → Nat} (ws : va_W) (z : Nat) {k_length : Int32} {k_repaired : Int32} {k_spent : Int32} {g_size : Int32} (E : ws[0]? = some (ad 0, .inr (5, [.ref (ad 1), .ref (ad 8), .int k_length, .ref (ad 9), .ref (ad 17), .ref (ad 22), .ref (ad 32), .int k_repaired, .int k_spent])) ∧ ws[1]? = some (ad 1, .inr (2, [.ref (ad 2), .ref (ad 3), .ref (ad 4), .ref (ad 5), .ref (ad 6), .ref (ad 7), .int g_size])))  {a1 : Int32} {o : Int32} (h : f_X5_count a1 k_repaired k_spent g_size = some o) : Met l yX5_count wsX5_count rmX5_count (kPc D (kT cI cB cJ cZ) [.ref (ad 0), .int a1] ws z) (kQi D (kT cI cB cJ cZ) o [] ws z) 0 0 (va_A ws z) := by
  refine KW.met (rm := rmX5_count) (lv := [(0, .ref (ad 0)), (1, .int a1)]) (L := []) rfl (by decide) (Nat.le_of_ble_eq_true rfl) rfl (fun q hq => by cases hq) ?_
  unfold f_X5_count at h
  show KW l xX5_count D (kT cI cB cJ cZ) ws z (kQi D (kT cI cB cJ cZ) o [] ws z) 0 [(0, .ref (ad 0)), (1, .int a1)] [] []
  refine k_iload_n dX5_count_0 1 rfl rfl ?_
  by_cases c0 : a1 = 0
  · rw [if_pos c0] at h
    refine k_tabIn (off := 27) 28 dX5_count_1 (by rw [c0]; decide) (by rw [c0]; decide) (by rw [c0]; decide) (by decide) ?_
    refine k_aload_n dX5_count_28 0 rfl rfl ?_
    refine k_get 0 0 E.1 rfl qX5_count_wX5 (by decide) qX5_count_f12 rfl dX5_count_29 ?_
    refine k_getN 1 6 E.2 rfl qX5_count_wX2 (by decide) (host := "KindParser") (by decide +kernel) rfl dX5_count_32 ?_
    obtain rfl := Option.some.inj h
    exact k_iret rfl dX5_count_35
  · rw [if_neg c0] at h
    by_cases c1 : a1 = 1
    · rw [if_pos c1] at h
      refine k_tabIn (off := 35) 36 dX5_count_1 (by rw [c1]; decide) (by rw [c1]; decide) (by rw [c1]; decide) (by decide) ?_
      refine k_aload_n dX5_count_36 0 rfl rfl ?_
      refine k_get 0 7 E.1 rfl qX5_count_wX5 (by decide) qX5_count_f58 rfl dX5_count_37 ?_
      obtain rfl := Option.some.inj h
      exact k_iret rfl dX5_count_40
    · rw [if_neg c1] at h
      by_cases c2 : a1 = 2
      · rw [if_pos c2] at h
        refine k_tabIn (off := 40) 41 dX5_count_1 (by rw [c2]; decide) (by rw [c2]; decide) (by rw [c2]; decide) (by decide) ?_
        refine k_aload_n dX5_count_41 0 rfl rfl ?_
        refine k_get 0 8 E.1 rfl qX5_count_wX5 (by decide) qX5_count_f61 rfl dX5_count_42 ?_
        obtain rfl := Option.some.inj h
        exact k_iret rfl dX5_count_45
      · rw [if_neg c2] at h
        refine k_tabOut 46 dX5_count_1 (tab_out (n := 2) (by decide) (fun k hk => by
          have hk9 : k = 0 ∨ k = 1 ∨ k = 2 := by omega
          rcases hk9 with rfl | rfl | rfl
          · exact c0
          · exact c1
          · exact c2)) (by decide) ?_
        refine k_iconst (v := (-1)) dX5_count_46 (by decide) ?_
        obtain rfl := Option.some.inj h
        exact k_iret rfl dX5_count_47
abbrev rmX5_part : Room := { frames := 6, cells := 1, slots := 6, locals := 82 }
abbrev xX5_part : KX := (rmX5_part, cX5_part, 3, some .int, RX5, wsX5_part)
theorem hySX5_part : yX5_part.cls ≠ "java/lang/invoke/MethodHandle" ∧ yX5_part.cls ≠ "java/lang/invoke/VarHandle" ∧ (parseMethodDescriptor yX5_part.desc).map (fun d => d.parameters.length) = some 2 := by decide +kernel
theorem hyVX5_part : yX5_part.cls = RX5 ∧ yX5_part.cls ≠ "java/lang/invoke/MethodHandle" ∧ yX5_part.cls ≠ "java/lang/invoke/VarHandle" ∧ (parseMethodDescriptor yX5_part.desc).map (fun d => d.parameters.length) = some 2 := ⟨rfl, hySX5_part⟩
theorem qX5_part_cl141 : Cond.classLink RX5 141 "java/lang/IndexOutOfBoundsException" ∈ wsX5_part := by decide +kernel
theorem qX5_part_in4 : Cond.initialized "java/lang/IndexOutOfBoundsException" ∈ wsX5_part := by decide +kernel
theorem qX5_part_wX5 : ∀ w ∈ u_ws RX5 TX5 9, w ∈ wsX5_part := by decide +kernel
theorem qX5_part_f45 : Cond.fieldLink RX5 45 "KindParser" "tree" "LKindParser$Tree;" ∈ wsX5_part := by decide +kernel
theorem qX5_part_wX4 : ∀ w ∈ u_ws RX4 TX4 14, w ∈ wsX5_part := by decide +kernel
set_option maxHeartbeats 4000000 in
set_option maxRecDepth 100000 in
theorem wjn_X5_part_25 {l : Launch} {D : va_G} {cI cB cJ cZ : ClassId} {ad : Nat → Nat} {ws : va_W} {z : Nat} {k_length : Int32} {k_repaired : Int32} {k_spent : Int32} {t_waiting : Int32} {t_size : Int32} {t_skipped : Int32} {t_cells : Nat → Int32} (E : l.stackTraces = false ∧ (ws[0]? = some (ad 0, .inr (5, [.ref (ad 1), .ref (ad 8), .int k_length, .ref (ad 9), .ref (ad 17), .ref (ad 22), .ref (ad 32), .int k_repaired, .int k_spent])) ∧ ws[22]? = some (ad 22, .inr (4, [.ref (ad 1), .ref (ad 17), .ref (ad 23), .ref (ad 24), .ref (ad 25), .ref (ad 26), .ref (ad 27), .ref (ad 28), .ref (ad 29), .ref (ad 30), .ref (ad 31), .int t_waiting, .int t_size, .int t_skipped])) ∧ ws[23]? = some (ad 23, .inl (cI, 1050, .inl t_cells)))) {o : Int32 × Int32}   : jn_X5_part_25 t_size t_cells = some o → KG l xX5_part D (kT cI cB cJ cZ) ws z (kQx D (kT cI cB cJ cZ) o.1 o.2 [] ws z) 0 0 25 [] [] [] := by
  intro h
  unfold jn_X5_part_25 at h
  obtain rfl := Option.some.inj h
  exact k_thrS E.1 (cls := "java/lang/IndexOutOfBoundsException") (text := "no such part or what") (ik := 141) (is := 155) (ic := 145) rfl qX5_part_cl141 qX5_part_in4 (fun _ h => List.mem_cons_of_mem _ (List.mem_append_right _ h)) xb_145 xo_141_145 (by decide) (by decide) (by decide) (show kExN 4 = some "java/lang/IndexOutOfBoundsException" by decide) ⟨Nat.le_of_ble_eq_true rfl, Nat.le_of_ble_eq_true rfl, Nat.le_of_ble_eq_true rfl, Nat.le_of_ble_eq_true rfl⟩ dX5_part_25 dX5_part_28 dX5_part_29 dX5_part_31 dX5_part_34
set_option maxHeartbeats 4000000 in
set_option maxRecDepth 100000 in
/-- KindParser.part -/
theorem c_X5_part {l : Launch} {D : va_G} {cI cB cJ cZ : ClassId} {ad : Nat → Nat} (ws : va_W) (z : Nat) {k_length : Int32} {k_repaired : Int32} {k_spent : Int32} {t_waiting : Int32} {t_size : Int32} {t_skipped : Int32} {t_cells : Nat → Int32} (E : l.stackTraces = false ∧ (ws[0]? = some (ad 0, .inr (5, [.ref (ad 1), .ref (ad 8), .int k_length, .ref (ad 9), .ref (ad 17), .ref (ad 22), .ref (ad 32), .int k_repaired, .int k_spent])) ∧ ws[22]? = some (ad 22, .inr (4, [.ref (ad 1), .ref (ad 17), .ref (ad 23), .ref (ad 24), .ref (ad 25), .ref (ad 26), .ref (ad 27), .ref (ad 28), .ref (ad 29), .ref (ad 30), .ref (ad 31), .int t_waiting, .int t_size, .int t_skipped])) ∧ ws[23]? = some (ad 23, .inl (cI, 1050, .inl t_cells))))  {a1 : Int32} {a2 : Int32} {o : Int32 × Int32} (h : f_X5_part a1 a2 t_size t_cells = some o) : vx_Met l yX5_part wsX5_part rmX5_part (kPx D (kT cI cB cJ cZ) [.ref (ad 0), .int a1, .int a2] ws z) (kQ0 D (kT cI cB cJ cZ) o.1 o.2 [] ws z) (kX0 D (kT cI cB cJ cZ) o.1 [] ws z) 1 6 (va_A ws z) := by
  refine KG.metX (rm := rmX5_part) (lv := [(0, .ref (ad 0)), (1, .int a1), (2, .int a2)]) (L := []) rfl (by decide) (Nat.le_of_ble_eq_true rfl) rfl (fun q hq => by cases hq) ?_
  unfold f_X5_part at h
  show KG l xX5_part D (kT cI cB cJ cZ) ws z (kQx D (kT cI cB cJ cZ) o.1 o.2 [] ws z) 0 0 0 [(0, .ref (ad 0)), (1, .int a1), (2, .int a2)] [] []
  refine k_iload_n dX5_part_0 1 rfl rfl ?_
  refine k_if_lt 25 dX5_part_1 (by decide) h (fun h => ?_) (fun h => ?_)
  · skip
    refine k_sub [] rfl ?_
    exact wjn_X5_part_25 (cI := cI) (cB := cB) (cJ := cJ) (cZ := cZ) (ad := ad) E   h
  · skip
    refine k_iload_n dX5_part_4 1 rfl rfl ?_
    refine k_aload_n dX5_part_5 0 rfl rfl ?_
    refine k_get 0 5 E.2.1 rfl qX5_part_wX5 (by decide) qX5_part_f45 rfl dX5_part_6 ?_
    refine k_getN 22 12 E.2.2.1 rfl qX5_part_wX4 (by decide) (host := "KindParser") (by decide +kernel) rfl dX5_part_9 ?_
    refine k_icmp_ge 25 dX5_part_12 (by decide) h (fun h => ?_) (fun h => ?_)
    · skip
      refine k_sub [] rfl ?_
      exact wjn_X5_part_25 (cI := cI) (cB := cB) (cJ := cJ) (cZ := cZ) (ad := ad) E   h
    · skip
      refine k_iload_n dX5_part_15 2 rfl rfl ?_
      refine k_if_lt 25 dX5_part_16 (by decide) h (fun h => ?_) (fun h => ?_)
      · skip
        refine k_sub [] rfl ?_
        exact wjn_X5_part_25 (cI := cI) (cB := cB) (cJ := cJ) (cZ := cZ) (ad := ad) E   h
      · skip
        refine k_iload_n dX5_part_19 2 rfl rfl ?_
        refine k_bipush (v := 7) dX5_part_20 (by decide) ?_
        refine k_icmp_lt 35 dX5_part_22 (by decide) h (fun h => ?_) (fun h => ?_)
        · skip
          refine k_aload_n dX5_part_35 0 rfl rfl ?_
          refine k_get 0 5 E.2.1 rfl qX5_part_wX5 (by decide) qX5_part_f45 rfl dX5_part_36 ?_
          refine k_iload_n dX5_part_39 1 rfl rfl ?_
          refine k_iload_n dX5_part_40 2 rfl rfl ?_
          obtain ⟨r1, hr1, h⟩ := Option.bind_eq_some_iff.mp h
          refine k_calliV (As := [.int a1, .int a2]) (st := []) (Lc := []) (L' := []) (r := r1) gX5_part_X4_cell rfl rfl rfl hyVX4_cell ⟨Nat.le_of_ble_eq_true rfl, Nat.le_of_ble_eq_true rfl⟩ rfl rfl (Nat.le_of_ble_eq_true rfl) 22 E.2.2.1 rfl dX5_part_41 (fun w z hw => c_X4_cell (cI := cI) (cB := cB) (cJ := cJ) (cZ := cZ) (ad := ad) w z ⟨((hw 22).trans E.2.2.1), ((hw 23).trans E.2.2.2)⟩  hr1) rfl rfl ?_
          obtain rfl := Option.some.inj h
          exact k_xret rfl dX5_part_44
        · skip
          refine k_sub [] rfl ?_
          exact wjn_X5_part_25 (cI := cI) (cB := cB) (cJ := cJ) (cZ := cZ) (ad := ad) E   h
abbrev rmX5_token : Room := { frames := 6, cells := 1, slots := 6, locals := 82 }
abbrev xX5_token : KX := (rmX5_token, cX5_token, 3, some .int, RX5, wsX5_token)
theorem hySX5_token : yX5_token.cls ≠ "java/lang/invoke/MethodHandle" ∧ yX5_token.cls ≠ "java/lang/invoke/VarHandle" ∧ (parseMethodDescriptor yX5_token.desc).map (fun d => d.parameters.length) = some 2 := by decide +kernel
theorem hyVX5_token : yX5_token.cls = RX5 ∧ yX5_token.cls ≠ "java/lang/invoke/MethodHandle" ∧ yX5_token.cls ≠ "java/lang/invoke/VarHandle" ∧ (parseMethodDescriptor yX5_token.desc).map (fun d => d.parameters.length) = some 2 := ⟨rfl, hySX5_token⟩
theorem qX5_token_wX5 : ∀ w ∈ u_ws RX5 TX5 9, w ∈ wsX5_token := by decide +kernel
theorem qX5_token_f45 : Cond.fieldLink RX5 45 "KindParser" "tree" "LKindParser$Tree;" ∈ wsX5_token := by decide +kernel
theorem qX5_token_wX4 : ∀ w ∈ u_ws RX4 TX4 14, w ∈ wsX5_token := by decide +kernel
theorem qX5_token_cl141 : Cond.classLink RX5 141 "java/lang/IndexOutOfBoundsException" ∈ wsX5_token := by decide +kernel
theorem qX5_token_in4 : Cond.initialized "java/lang/IndexOutOfBoundsException" ∈ wsX5_token := by decide +kernel
theorem qX5_token_f27 : Cond.fieldLink RX5 27 "KindParser" "cut" "LKindParser$Cut;" ∈ wsX5_token := by decide +kernel
theorem qX5_token_wX1 : ∀ w ∈ u_ws RX1 TX1 10, w ∈ wsX5_token := by decide +kernel
set_option maxHeartbeats 4000000 in
set_option maxRecDepth 100000 in
theorem wjn_X5_token_34 {l : Launch} {D : va_G} {cI cB cJ cZ : ClassId} {ad : Nat → Nat} {ws : va_W} {z : Nat} {k_length : Int32} {k_repaired : Int32} {k_spent : Int32} {c_length : Int32} {c_size : Int32} {c_comments : Int32} {c_lengths : Nat → Int32} {c_signs : Nat → Int32} {c_firstComments : Nat → Int32} {t_waiting : Int32} {t_size : Int32} {t_skipped : Int32} (E : l.stackTraces = false ∧ (ws[0]? = some (ad 0, .inr (5, [.ref (ad 1), .ref (ad 8), .int k_length, .ref (ad 9), .ref (ad 17), .ref (ad 22), .ref (ad 32), .int k_repaired, .int k_spent])) ∧ ws[9]? = some (ad 9, .inr (1, [.ref (ad 10), .int c_length, .ref (ad 11), .ref (ad 12), .ref (ad 13), .ref (ad 14), .ref (ad 15), .ref (ad 16), .int c_size, .int c_comments])) ∧ ws[12]? = some (ad 12, .inl (cI, 16, .inl c_lengths)) ∧ ws[13]? = some (ad 13, .inl (cI, 16, .inl c_signs)) ∧ ws[14]? = some (ad 14, .inl (cI, 18, .inl c_firstComments)) ∧ ws[22]? = some (ad 22, .inr (4, [.ref (ad 1), .ref (ad 17), .ref (ad 23), .ref (ad 24), .ref (ad 25), .ref (ad 26), .ref (ad 27), .ref (ad 28), .ref (ad 29), .ref (ad 30), .ref (ad 31), .int t_waiting, .int t_size, .int t_skipped])))) {o : Int32 × Int32}   : jn_X5_token_34 c_size c_lengths c_signs c_firstComments t_size = some o → KG l xX5_token D (kT cI cB cJ cZ) ws z (kQx D (kT cI cB cJ cZ) o.1 o.2 [] ws z) 0 0 34 [] [] [] := by
  intro h
  unfold jn_X5_token_34 at h
  obtain rfl := Option.some.inj h
  exact k_thrS E.1 (cls := "java/lang/IndexOutOfBoundsException") (text := "no such tree, token or what") (ik := 141) (is := 143) (ic := 145) rfl qX5_token_cl141 qX5_token_in4 (fun _ h => List.mem_cons_of_mem _ (List.mem_append_right _ h)) xb_145 xo_141_145 (by decide) (by decide) (by decide) (show kExN 4 = some "java/lang/IndexOutOfBoundsException" by decide) ⟨Nat.le_of_ble_eq_true rfl, Nat.le_of_ble_eq_true rfl, Nat.le_of_ble_eq_true rfl, Nat.le_of_ble_eq_true rfl⟩ dX5_token_34 dX5_token_37 dX5_token_38 dX5_token_40 dX5_token_43
set_option maxHeartbeats 4000000 in
set_option maxRecDepth 100000 in
theorem wjn_X5_token_81 {l : Launch} {D : va_G} {cI cB cJ cZ : ClassId} {ad : Nat → Nat} {ws : va_W} {z : Nat} {k_length : Int32} {k_repaired : Int32} {k_spent : Int32} {c_length : Int32} {c_size : Int32} {c_comments : Int32} {c_lengths : Nat → Int32} {c_signs : Nat → Int32} {c_firstComments : Nat → Int32} {t_waiting : Int32} {t_size : Int32} {t_skipped : Int32} (E : l.stackTraces = false ∧ (ws[0]? = some (ad 0, .inr (5, [.ref (ad 1), .ref (ad 8), .int k_length, .ref (ad 9), .ref (ad 17), .ref (ad 22), .ref (ad 32), .int k_repaired, .int k_spent])) ∧ ws[9]? = some (ad 9, .inr (1, [.ref (ad 10), .int c_length, .ref (ad 11), .ref (ad 12), .ref (ad 13), .ref (ad 14), .ref (ad 15), .ref (ad 16), .int c_size, .int c_comments])) ∧ ws[12]? = some (ad 12, .inl (cI, 16, .inl c_lengths)) ∧ ws[13]? = some (ad 13, .inl (cI, 16, .inl c_signs)) ∧ ws[14]? = some (ad 14, .inl (cI, 18, .inl c_firstComments)) ∧ ws[22]? = some (ad 22, .inr (4, [.ref (ad 1), .ref (ad 17), .ref (ad 23), .ref (ad 24), .ref (ad 25), .ref (ad 26), .ref (ad 27), .ref (ad 28), .ref (ad 29), .ref (ad 30), .ref (ad 31), .int t_waiting, .int t_size, .int t_skipped])))) {o : Int32 × Int32}   : ∀ (s0 : Int32), jn_X5_token_81 c_size c_lengths c_signs c_firstComments t_size s0 = some o → KG l xX5_token D (kT cI cB cJ cZ) ws z (kQx D (kT cI cB cJ cZ) o.1 o.2 [] ws z) 0 0 81 [] [.int s0] [] := by
  intro s0 h
  unfold jn_X5_token_81 at h
  obtain rfl := Option.some.inj h
  exact k_xret rfl dX5_token_81
set_option maxHeartbeats 4000000 in
set_option maxRecDepth 100000 in
/-- KindParser.token -/
theorem c_X5_token {l : Launch} {D : va_G} {cI cB cJ cZ : ClassId} {ad : Nat → Nat} (ws : va_W) (z : Nat) {k_length : Int32} {k_repaired : Int32} {k_spent : Int32} {c_length : Int32} {c_size : Int32} {c_comments : Int32} {c_lengths : Nat → Int32} {c_signs : Nat → Int32} {c_firstComments : Nat → Int32} {t_waiting : Int32} {t_size : Int32} {t_skipped : Int32} (E : l.stackTraces = false ∧ (ws[0]? = some (ad 0, .inr (5, [.ref (ad 1), .ref (ad 8), .int k_length, .ref (ad 9), .ref (ad 17), .ref (ad 22), .ref (ad 32), .int k_repaired, .int k_spent])) ∧ ws[9]? = some (ad 9, .inr (1, [.ref (ad 10), .int c_length, .ref (ad 11), .ref (ad 12), .ref (ad 13), .ref (ad 14), .ref (ad 15), .ref (ad 16), .int c_size, .int c_comments])) ∧ ws[12]? = some (ad 12, .inl (cI, 16, .inl c_lengths)) ∧ ws[13]? = some (ad 13, .inl (cI, 16, .inl c_signs)) ∧ ws[14]? = some (ad 14, .inl (cI, 18, .inl c_firstComments)) ∧ ws[22]? = some (ad 22, .inr (4, [.ref (ad 1), .ref (ad 17), .ref (ad 23), .ref (ad 24), .ref (ad 25), .ref (ad 26), .ref (ad 27), .ref (ad 28), .ref (ad 29), .ref (ad 30), .ref (ad 31), .int t_waiting, .int t_size, .int t_skipped]))))  {a1 : Int32} {a2 : Int32} {o : Int32 × Int32} (h : f_X5_token a1 a2 c_size c_lengths c_signs c_firstComments t_size = some o) : vx_Met l yX5_token wsX5_token rmX5_token (kPx D (kT cI cB cJ cZ) [.ref (ad 0), .int a1, .int a2] ws z) (kQ0 D (kT cI cB cJ cZ) o.1 o.2 [] ws z) (kX0 D (kT cI cB cJ cZ) o.1 [] ws z) 1 6 (va_A ws z) := by
  refine KG.metX (rm := rmX5_token) (lv := [(0, .ref (ad 0)), (1, .int a1), (2, .int a2)]) (L := []) rfl (by decide) (Nat.le_of_ble_eq_true rfl) rfl (fun q hq => by cases hq) ?_
  unfold f_X5_token at h
  show KG l xX5_token D (kT cI cB cJ cZ) ws z (kQx D (kT cI cB cJ cZ) o.1 o.2 [] ws z) 0 0 0 [(0, .ref (ad 0)), (1, .int a1), (2, .int a2)] [] []
  refine k_aload_n dX5_token_0 0 rfl rfl ?_
  refine k_get 0 5 E.2.1 rfl qX5_token_wX5 (by decide) qX5_token_f45 rfl dX5_token_1 ?_
  refine k_getN 22 12 E.2.2.2.2.2.2 rfl qX5_token_wX4 (by decide) (host := "KindParser") (by decide +kernel) rfl dX5_token_4 ?_
  refine k_if_eq 34 dX5_token_7 (by decide) h (fun h => ?_) (fun h => ?_)
  · skip
    refine k_sub [] rfl ?_
    exact wjn_X5_token_34 (cI := cI) (cB := cB) (cJ := cJ) (cZ := cZ) (ad := ad) E   h
  · skip
    refine k_iload_n dX5_token_10 1 rfl rfl ?_
    refine k_if_lt 34 dX5_token_11 (by decide) h (fun h => ?_) (fun h => ?_)
    · skip
      refine k_sub [] rfl ?_
      exact wjn_X5_token_34 (cI := cI) (cB := cB) (cJ := cJ) (cZ := cZ) (ad := ad) E   h
    · skip
      refine k_iload_n dX5_token_14 1 rfl rfl ?_
      refine k_aload_n dX5_token_15 0 rfl rfl ?_
      refine k_get 0 3 E.2.1 rfl qX5_token_wX5 (by decide) qX5_token_f27 rfl dX5_token_16 ?_
      refine k_getN 9 8 E.2.2.1 rfl qX5_token_wX1 (by decide) (host := "KindParser") (by decide +kernel) rfl dX5_token_19 ?_
      refine k_icmp_gt 34 dX5_token_22 (by decide) h (fun h => ?_) (fun h => ?_)
      · skip
        refine k_sub [] rfl ?_
        exact wjn_X5_token_34 (cI := cI) (cB := cB) (cJ := cJ) (cZ := cZ) (ad := ad) E   h
      · skip
        refine k_iload_n dX5_token_25 2 rfl rfl ?_
        refine k_if_lt 34 dX5_token_26 (by decide) h (fun h => ?_) (fun h => ?_)
        · skip
          refine k_sub [] rfl ?_
          exact wjn_X5_token_34 (cI := cI) (cB := cB) (cJ := cJ) (cZ := cZ) (ad := ad) E   h
        · skip
          refine k_iload_n dX5_token_29 2 rfl rfl ?_
          refine k_iconst (v := 2) dX5_token_30 (by decide) ?_
          refine k_icmp_le 44 dX5_token_31 (by decide) h (fun h => ?_) (fun h => ?_)
          · skip
            refine k_iload_n dX5_token_44 2 rfl rfl ?_
            refine k_iconst (v := 2) dX5_token_45 (by decide) ?_
            refine k_icmp_ne 58 dX5_token_46 (by decide) h (fun h => ?_) (fun h => ?_)
            · skip
              refine k_aload_n dX5_token_49 0 rfl rfl ?_
              refine k_get 0 3 E.2.1 rfl qX5_token_wX5 (by decide) qX5_token_f27 rfl dX5_token_50 ?_
              refine k_iload_n dX5_token_53 1 rfl rfl ?_
              obtain ⟨r1, hr1, h⟩ := Option.bind_eq_some_iff.mp h
              refine k_calliV (As := [.int a1]) (st := []) (Lc := []) (L' := []) (r := r1) gX5_token_X1_commentsOf rfl rfl rfl hyVX1_commentsOf ⟨Nat.le_of_ble_eq_true rfl, Nat.le_of_ble_eq_true rfl⟩ rfl rfl (Nat.le_of_ble_eq_true rfl) 9 E.2.2.1 rfl dX5_token_54 (fun w z hw => c_X1_commentsOf (cI := cI) (cB := cB) (cJ := cJ) (cZ := cZ) (ad := ad) w z ⟨((hw 9).trans E.2.2.1), ((hw 14).trans E.2.2.2.2.2.1)⟩  hr1) rfl rfl ?_
              obtain rfl := Option.some.inj h
              exact k_xret rfl dX5_token_57
            · skip
              refine k_iload_n dX5_token_58 2 rfl rfl ?_
              refine k_if_ne 73 dX5_token_59 (by decide) h (fun h => ?_) (fun h => ?_)
              · skip
                refine k_aload_n dX5_token_62 0 rfl rfl ?_
                refine k_get 0 3 E.2.1 rfl qX5_token_wX5 (by decide) qX5_token_f27 rfl dX5_token_63 ?_
                refine k_iload_n dX5_token_66 1 rfl rfl ?_
                obtain ⟨r2, hr2, h⟩ := Option.bind_eq_some_iff.mp h
                refine k_calliV (As := [.int a1]) (st := []) (Lc := []) (L' := []) (r := r2) gX5_token_X1_signOf rfl rfl rfl hyVX1_signOf ⟨Nat.le_of_ble_eq_true rfl, Nat.le_of_ble_eq_true rfl⟩ rfl rfl (Nat.le_of_ble_eq_true rfl) 9 E.2.2.1 rfl dX5_token_67 (fun w z hw => c_X1_signOf (cI := cI) (cB := cB) (cJ := cJ) (cZ := cZ) (ad := ad) w z ⟨((hw 9).trans E.2.2.1), ((hw 13).trans E.2.2.2.2.1)⟩  hr2) rfl rfl ?_
                refine k_goto 81 dX5_token_70 (by decide) ?_
                refine k_sub [] rfl ?_
                exact wjn_X5_token_81 (cI := cI) (cB := cB) (cJ := cJ) (cZ := cZ) (ad := ad) E  _ h
              · skip
                refine k_aload_n dX5_token_73 0 rfl rfl ?_
                refine k_get 0 3 E.2.1 rfl qX5_token_wX5 (by decide) qX5_token_f27 rfl dX5_token_74 ?_
                refine k_iload_n dX5_token_77 1 rfl rfl ?_
                obtain ⟨r3, hr3, h⟩ := Option.bind_eq_some_iff.mp h
                refine k_calliV (As := [.int a1]) (st := []) (Lc := []) (L' := []) (r := r3) gX5_token_X1_lengthOf rfl rfl rfl hyVX1_lengthOf ⟨Nat.le_of_ble_eq_true rfl, Nat.le_of_ble_eq_true rfl⟩ rfl rfl (Nat.le_of_ble_eq_true rfl) 9 E.2.2.1 rfl dX5_token_78 (fun w z hw => c_X1_lengthOf (cI := cI) (cB := cB) (cJ := cJ) (cZ := cZ) (ad := ad) w z ⟨((hw 9).trans E.2.2.1), ((hw 12).trans E.2.2.2.1)⟩  hr3) rfl rfl ?_
                refine k_sub [] rfl ?_
                exact wjn_X5_token_81 (cI := cI) (cB := cB) (cJ := cJ) (cZ := cZ) (ad := ad) E  _ h
          · skip
            refine k_sub [] rfl ?_
            exact wjn_X5_token_34 (cI := cI) (cB := cB) (cJ := cJ) (cZ := cZ) (ad := ad) E   h
