abbrev rmX5_rule : Room := { frames := 6, cells := 1, slots := 6, locals := 115 }
abbrev xX5_rule : KX := (rmX5_rule, cX5_rule, 6, some .int, RX5, wsX5_rule)
theorem hySX5_rule : yX5_rule.cls ≠ "java/lang/invoke/MethodHandle" ∧ yX5_rule.cls ≠ "java/lang/invoke/VarHandle" ∧ (parseMethodDescriptor yX5_rule.desc).map (fun d => d.parameters.length) = some 4 := by decide +kernel
theorem hyVX5_rule : yX5_rule.cls = RX5 ∧ yX5_rule.cls ≠ "java/lang/invoke/MethodHandle" ∧ yX5_rule.cls ≠ "java/lang/invoke/VarHandle" ∧ (parseMethodDescriptor yX5_rule.desc).map (fun d => d.parameters.length) = some 4 := ⟨rfl, hySX5_rule⟩
theorem qX5_rule_cl76 : Cond.classLink RX5 76 "java/lang/IllegalArgumentException" ∈ wsX5_rule := by decide +kernel
theorem qX5_rule_in1 : Cond.initialized "java/lang/IllegalArgumentException" ∈ wsX5_rule := by decide +kernel
theorem qX5_rule_wX5 : ∀ w ∈ u_ws RX5 TX5 9, w ∈ wsX5_rule := by decide +kernel
theorem qX5_rule_f12 : Cond.fieldLink RX5 12 "KindParser" "grammar" "LKindParser$Grammar;" ∈ wsX5_rule := by decide +kernel
theorem qX5_rule_wX2 : ∀ w ∈ u_ws RX2 TX2 7, w ∈ wsX5_rule := by decide +kernel
theorem qX5_rule_f45 : Cond.fieldLink RX5 45 "KindParser" "tree" "LKindParser$Tree;" ∈ wsX5_rule := by decide +kernel
theorem qX5_rule_cl86 : Cond.classLink RX5 86 "java/lang/IllegalStateException" ∈ wsX5_rule := by decide +kernel
theorem qX5_rule_in2 : Cond.initialized "java/lang/IllegalStateException" ∈ wsX5_rule := by decide +kernel
set_option maxHeartbeats 4000000 in
set_option maxRecDepth 100000 in
theorem wjn_X5_rule_28 {l : Launch} {D : va_G} {cI cB cJ cZ : ClassId} {ad : Nat → Nat} {ws : va_W} {z : Nat} {k_length : Int32} {k_repaired : Int32} {k_spent : Int32} {t_waiting : Int32} (E : l.stackTraces = false ∧ (ws[0]? = some (ad 0, .inr (5, [.ref (ad 1), .ref (ad 8), .int k_length, .ref (ad 9), .ref (ad 17), .ref (ad 22), .ref (ad 32), .int k_repaired, .int k_spent])))) {o : Int32 × Int32 × (Int32) × (Nat → Int32) × (Nat → Int32) × (Nat → Int32) × (Nat → Int32) × (Nat → Int32) × (Nat → Int32) × (Int32) × (Int32)}   : ∀ (g_size : Int32) (g_heads : Nat → Int32) (g_lengths : Nat → Int32) (g_symbols : Nat → Int32) (g_hints : Nat → Int32) (g_ins : Nat → Int32) (g_ground : Nat → Int32) (t_size : Int32) (t_skipped : Int32), jn_X5_rule_28  g_size g_heads g_lengths g_symbols g_hints g_ins g_ground t_size t_skipped = some o → KG l xX5_rule D (kT cI cB cJ cZ) ws z (kQx D (kT cI cB cJ cZ) o.1 o.2.1 [(1, (ad 1, .inr (2, [.ref (ad 2), .ref (ad 3), .ref (ad 4), .ref (ad 5), .ref (ad 6), .ref (ad 7), .int o.2.2.1]))), (2, (ad 2, .inl (cI, 20, .inl o.2.2.2.1))), (3, (ad 3, .inl (cI, 20, .inl o.2.2.2.2.1))), (4, (ad 4, .inl (cI, 100, .inl o.2.2.2.2.2.1))), (5, (ad 5, .inl (cI, 100, .inl o.2.2.2.2.2.2.1))), (6, (ad 6, .inl (cZ, 20, .inl o.2.2.2.2.2.2.2.1))), (7, (ad 7, .inl (cZ, 6, .inl o.2.2.2.2.2.2.2.2.1))), (22, (ad 22, .inr (4, [.ref (ad 1), .ref (ad 17), .ref (ad 23), .ref (ad 24), .ref (ad 25), .ref (ad 26), .ref (ad 27), .ref (ad 28), .ref (ad 29), .ref (ad 30), .ref (ad 31), .int t_waiting, .int o.2.2.2.2.2.2.2.2.2.1, .int o.2.2.2.2.2.2.2.2.2.2])))] ws z) 0 0 28 [] [] [(1, (ad 1, .inr (2, [.ref (ad 2), .ref (ad 3), .ref (ad 4), .ref (ad 5), .ref (ad 6), .ref (ad 7), .int g_size]))), (2, (ad 2, .inl (cI, 20, .inl g_heads))), (3, (ad 3, .inl (cI, 20, .inl g_lengths))), (4, (ad 4, .inl (cI, 100, .inl g_symbols))), (5, (ad 5, .inl (cI, 100, .inl g_hints))), (6, (ad 6, .inl (cZ, 20, .inl g_ins))), (7, (ad 7, .inl (cZ, 6, .inl g_ground))), (22, (ad 22, .inr (4, [.ref (ad 1), .ref (ad 17), .ref (ad 23), .ref (ad 24), .ref (ad 25), .ref (ad 26), .ref (ad 27), .ref (ad 28), .ref (ad 29), .ref (ad 30), .ref (ad 31), .int t_waiting, .int t_size, .int t_skipped])))] := by
  intro g_size g_heads g_lengths g_symbols g_hints g_ins g_ground t_size t_skipped h
  unfold jn_X5_rule_28 at h
  obtain rfl := Option.some.inj h
  exact k_thrS E.1 (cls := "java/lang/IllegalArgumentException") (text := "no such head, symbols or hints") (ik := 76) (is := 78) (ic := 80) rfl qX5_rule_cl76 qX5_rule_in1 (fun _ h => List.mem_cons_of_mem _ (List.mem_append_left _ (List.mem_append_right _ h))) xb_80 xo_76_80 (by decide) (by decide) (by decide) (show kExN 1 = some "java/lang/IllegalArgumentException" by decide) ⟨Nat.le_of_ble_eq_true rfl, Nat.le_of_ble_eq_true rfl, Nat.le_of_ble_eq_true rfl, Nat.le_of_ble_eq_true rfl⟩ dX5_rule_28 dX5_rule_31 dX5_rule_32 dX5_rule_34 dX5_rule_37
set_option maxHeartbeats 4000000 in
set_option maxRecDepth 100000 in
/-- KindParser.rule -/
theorem c_X5_rule {l : Launch} {D : va_G} {cI cB cJ cZ : ClassId} {ad : Nat → Nat} (ws : va_W) (z : Nat) {k_length : Int32} {k_repaired : Int32} {k_spent : Int32} {g_size : Int32} {g_heads : Nat → Int32} {g_lengths : Nat → Int32} {g_symbols : Nat → Int32} {g_hints : Nat → Int32} {g_ins : Nat → Int32} {g_ground : Nat → Int32} {t_waiting : Int32} {t_size : Int32} {t_skipped : Int32} (E : l.stackTraces = false ∧ (ws[0]? = some (ad 0, .inr (5, [.ref (ad 1), .ref (ad 8), .int k_length, .ref (ad 9), .ref (ad 17), .ref (ad 22), .ref (ad 32), .int k_repaired, .int k_spent])))) (e1 : ws[1]? = some (ad 1, .inr (2, [.ref (ad 2), .ref (ad 3), .ref (ad 4), .ref (ad 5), .ref (ad 6), .ref (ad 7), .int g_size]))) (e2 : ws[2]? = some (ad 2, .inl (cI, 20, .inl g_heads))) (e3 : ws[3]? = some (ad 3, .inl (cI, 20, .inl g_lengths))) (e4 : ws[4]? = some (ad 4, .inl (cI, 100, .inl g_symbols))) (e5 : ws[5]? = some (ad 5, .inl (cI, 100, .inl g_hints))) (e6 : ws[6]? = some (ad 6, .inl (cZ, 20, .inl g_ins))) (e7 : ws[7]? = some (ad 7, .inl (cZ, 6, .inl g_ground))) (e22 : ws[22]? = some (ad 22, .inr (4, [.ref (ad 1), .ref (ad 17), .ref (ad 23), .ref (ad 24), .ref (ad 25), .ref (ad 26), .ref (ad 27), .ref (ad 28), .ref (ad 29), .ref (ad 30), .ref (ad 31), .int t_waiting, .int t_size, .int t_skipped]))) {a1 : Int32} {a2 : Int32} {a3 : Int32} {a4 : Int32} {o : Int32 × Int32 × (Int32) × (Nat → Int32) × (Nat → Int32) × (Nat → Int32) × (Nat → Int32) × (Nat → Int32) × (Nat → Int32) × (Int32) × (Int32)} (h : f_X5_rule a1 a2 a3 a4 g_size g_heads g_lengths g_symbols g_hints g_ins g_ground t_size t_skipped = some o) : vx_Met l yX5_rule wsX5_rule rmX5_rule (kPx D (kT cI cB cJ cZ) [.ref (ad 0), .int a1, .int a2, .int a3, .int a4] ws z) (kQ0 D (kT cI cB cJ cZ) o.1 o.2.1 [(1, (ad 1, .inr (2, [.ref (ad 2), .ref (ad 3), .ref (ad 4), .ref (ad 5), .ref (ad 6), .ref (ad 7), .int o.2.2.1]))), (2, (ad 2, .inl (cI, 20, .inl o.2.2.2.1))), (3, (ad 3, .inl (cI, 20, .inl o.2.2.2.2.1))), (4, (ad 4, .inl (cI, 100, .inl o.2.2.2.2.2.1))), (5, (ad 5, .inl (cI, 100, .inl o.2.2.2.2.2.2.1))), (6, (ad 6, .inl (cZ, 20, .inl o.2.2.2.2.2.2.2.1))), (7, (ad 7, .inl (cZ, 6, .inl o.2.2.2.2.2.2.2.2.1))), (22, (ad 22, .inr (4, [.ref (ad 1), .ref (ad 17), .ref (ad 23), .ref (ad 24), .ref (ad 25), .ref (ad 26), .ref (ad 27), .ref (ad 28), .ref (ad 29), .ref (ad 30), .ref (ad 31), .int t_waiting, .int o.2.2.2.2.2.2.2.2.2.1, .int o.2.2.2.2.2.2.2.2.2.2])))] ws z) (kX0 D (kT cI cB cJ cZ) o.1 [(1, (ad 1, .inr (2, [.ref (ad 2), .ref (ad 3), .ref (ad 4), .ref (ad 5), .ref (ad 6), .ref (ad 7), .int o.2.2.1]))), (2, (ad 2, .inl (cI, 20, .inl o.2.2.2.1))), (3, (ad 3, .inl (cI, 20, .inl o.2.2.2.2.1))), (4, (ad 4, .inl (cI, 100, .inl o.2.2.2.2.2.1))), (5, (ad 5, .inl (cI, 100, .inl o.2.2.2.2.2.2.1))), (6, (ad 6, .inl (cZ, 20, .inl o.2.2.2.2.2.2.2.1))), (7, (ad 7, .inl (cZ, 6, .inl o.2.2.2.2.2.2.2.2.1))), (22, (ad 22, .inr (4, [.ref (ad 1), .ref (ad 17), .ref (ad 23), .ref (ad 24), .ref (ad 25), .ref (ad 26), .ref (ad 27), .ref (ad 28), .ref (ad 29), .ref (ad 30), .ref (ad 31), .int t_waiting, .int o.2.2.2.2.2.2.2.2.2.1, .int o.2.2.2.2.2.2.2.2.2.2])))] ws z) 1 6 (va_A ws z) := by
  refine KG.metX (rm := rmX5_rule) (lv := [(0, .ref (ad 0)), (1, .int a1), (2, .int a2), (3, .int a3), (4, .int a4)]) (L := [(1, (ad 1, .inr (2, [.ref (ad 2), .ref (ad 3), .ref (ad 4), .ref (ad 5), .ref (ad 6), .ref (ad 7), .int g_size]))), (2, (ad 2, .inl (cI, 20, .inl g_heads))), (3, (ad 3, .inl (cI, 20, .inl g_lengths))), (4, (ad 4, .inl (cI, 100, .inl g_symbols))), (5, (ad 5, .inl (cI, 100, .inl g_hints))), (6, (ad 6, .inl (cZ, 20, .inl g_ins))), (7, (ad 7, .inl (cZ, 6, .inl g_ground))), (22, (ad 22, .inr (4, [.ref (ad 1), .ref (ad 17), .ref (ad 23), .ref (ad 24), .ref (ad 25), .ref (ad 26), .ref (ad 27), .ref (ad 28), .ref (ad 29), .ref (ad 30), .ref (ad 31), .int t_waiting, .int t_size, .int t_skipped])))]) rfl (by decide) (Nat.le_of_ble_eq_true rfl) rfl (by intro q hq; simp only [List.mem_cons, List.not_mem_nil, or_false] at hq; rcases hq with rfl | rfl | rfl | rfl | rfl | rfl | rfl | rfl <;> assumption) ?_
  unfold f_X5_rule at h
  show KG l xX5_rule D (kT cI cB cJ cZ) ws z (kQx D (kT cI cB cJ cZ) o.1 o.2.1 [(1, (ad 1, .inr (2, [.ref (ad 2), .ref (ad 3), .ref (ad 4), .ref (ad 5), .ref (ad 6), .ref (ad 7), .int o.2.2.1]))), (2, (ad 2, .inl (cI, 20, .inl o.2.2.2.1))), (3, (ad 3, .inl (cI, 20, .inl o.2.2.2.2.1))), (4, (ad 4, .inl (cI, 100, .inl o.2.2.2.2.2.1))), (5, (ad 5, .inl (cI, 100, .inl o.2.2.2.2.2.2.1))), (6, (ad 6, .inl (cZ, 20, .inl o.2.2.2.2.2.2.2.1))), (7, (ad 7, .inl (cZ, 6, .inl o.2.2.2.2.2.2.2.2.1))), (22, (ad 22, .inr (4, [.ref (ad 1), .ref (ad 17), .ref (ad 23), .ref (ad 24), .ref (ad 25), .ref (ad 26), .ref (ad 27), .ref (ad 28), .ref (ad 29), .ref (ad 30), .ref (ad 31), .int t_waiting, .int o.2.2.2.2.2.2.2.2.2.1, .int o.2.2.2.2.2.2.2.2.2.2])))] ws z) 0 0 0 [(0, .ref (ad 0)), (1, .int a1), (2, .int a2), (3, .int a3), (4, .int a4)] [] [(1, (ad 1, .inr (2, [.ref (ad 2), .ref (ad 3), .ref (ad 4), .ref (ad 5), .ref (ad 6), .ref (ad 7), .int g_size]))), (2, (ad 2, .inl (cI, 20, .inl g_heads))), (3, (ad 3, .inl (cI, 20, .inl g_lengths))), (4, (ad 4, .inl (cI, 100, .inl g_symbols))), (5, (ad 5, .inl (cI, 100, .inl g_hints))), (6, (ad 6, .inl (cZ, 20, .inl g_ins))), (7, (ad 7, .inl (cZ, 6, .inl g_ground))), (22, (ad 22, .inr (4, [.ref (ad 1), .ref (ad 17), .ref (ad 23), .ref (ad 24), .ref (ad 25), .ref (ad 26), .ref (ad 27), .ref (ad 28), .ref (ad 29), .ref (ad 30), .ref (ad 31), .int t_waiting, .int t_size, .int t_skipped])))]
  refine k_iload_n dX5_rule_0 2 rfl rfl ?_
  obtain ⟨r1, hr1, h⟩ := Option.bind_eq_some_iff.mp h
  refine k_calliS (As := [.int a2]) (st := []) (Lc := []) (L' := [(1, (ad 1, .inr (2, [.ref (ad 2), .ref (ad 3), .ref (ad 4), .ref (ad 5), .ref (ad 6), .ref (ad 7), .int g_size]))), (2, (ad 2, .inl (cI, 20, .inl g_heads))), (3, (ad 3, .inl (cI, 20, .inl g_lengths))), (4, (ad 4, .inl (cI, 100, .inl g_symbols))), (5, (ad 5, .inl (cI, 100, .inl g_hints))), (6, (ad 6, .inl (cZ, 20, .inl g_ins))), (7, (ad 7, .inl (cZ, 6, .inl g_ground))), (22, (ad 22, .inr (4, [.ref (ad 1), .ref (ad 17), .ref (ad 23), .ref (ad 24), .ref (ad 25), .ref (ad 26), .ref (ad 27), .ref (ad 28), .ref (ad 29), .ref (ad 30), .ref (ad 31), .int t_waiting, .int t_size, .int t_skipped])))]) (r := r1) gX5_rule_X2_symbolsIn rfl rfl rfl hySX2_symbolsIn ⟨Nat.le_of_ble_eq_true rfl, Nat.le_of_ble_eq_true rfl⟩ rfl rfl (Nat.le_of_ble_eq_true rfl) dX5_rule_1 (fun w z hw => c_X2_symbolsIn (cI := cI) (cB := cB) (cJ := cJ) (cZ := cZ) (ad := ad) w z trivial  hr1) rfl rfl ?_
  refine k_istore (i := 5) (lv' := fun x => [(5, .int x), (0, .ref (ad 0)), (1, .int a1), (2, .int a2), (3, .int a3), (4, .int a4)]) dX5_rule_4 (Nat.le_of_ble_eq_true rfl) (fun _ => rfl) h (fun x5_2 h => ?_)
  refine k_iload_n dX5_rule_6 2 rfl rfl ?_
  obtain ⟨r3, hr3, h⟩ := Option.bind_eq_some_iff.mp h
  refine k_calliS (As := [.int a1]) (st := []) (Lc := []) (L' := [(1, (ad 1, .inr (2, [.ref (ad 2), .ref (ad 3), .ref (ad 4), .ref (ad 5), .ref (ad 6), .ref (ad 7), .int g_size]))), (2, (ad 2, .inl (cI, 20, .inl g_heads))), (3, (ad 3, .inl (cI, 20, .inl g_lengths))), (4, (ad 4, .inl (cI, 100, .inl g_symbols))), (5, (ad 5, .inl (cI, 100, .inl g_hints))), (6, (ad 6, .inl (cZ, 20, .inl g_ins))), (7, (ad 7, .inl (cZ, 6, .inl g_ground))), (22, (ad 22, .inr (4, [.ref (ad 1), .ref (ad 17), .ref (ad 23), .ref (ad 24), .ref (ad 25), .ref (ad 26), .ref (ad 27), .ref (ad 28), .ref (ad 29), .ref (ad 30), .ref (ad 31), .int t_waiting, .int t_size, .int t_skipped])))]) (r := r3) gX5_rule_X5_isKind rfl rfl rfl hySX5_isKind ⟨Nat.le_of_ble_eq_true rfl, Nat.le_of_ble_eq_true rfl⟩ rfl rfl (Nat.le_of_ble_eq_true rfl) dX5_rule_7 (fun w z hw => c_X5_isKind (cI := cI) (cB := cB) (cJ := cJ) (cZ := cZ) (ad := ad) w z trivial  hr3) rfl rfl ?_
  refine k_if_eq 28 dX5_rule_10 (by decide) h (fun h => ?_) (fun h => ?_)
  · skip
    refine k_sub [] rfl ?_
    exact wjn_X5_rule_28 (cI := cI) (cB := cB) (cJ := cJ) (cZ := cZ) (ad := ad) E  _ _ _ _ _ _ _ _ _ h
  · skip
    refine k_iload dX5_rule_13 0 rfl ?_
    refine k_iconst (v := (-1)) dX5_rule_15 (by decide) ?_
    refine k_icmp_eq 28 dX5_rule_16 (by decide) h (fun h => ?_) (fun h => ?_)
    · skip
      refine k_sub [] rfl ?_
      exact wjn_X5_rule_28 (cI := cI) (cB := cB) (cJ := cJ) (cZ := cZ) (ad := ad) E  _ _ _ _ _ _ _ _ _ h
    · skip
      refine k_iload_n dX5_rule_19 4 rfl rfl ?_
      refine k_iload dX5_rule_20 0 rfl ?_
      obtain ⟨r4, hr4, h⟩ := Option.bind_eq_some_iff.mp h
      refine k_calliS (As := [.int a3, .int x5_2]) (st := []) (Lc := []) (L' := [(1, (ad 1, .inr (2, [.ref (ad 2), .ref (ad 3), .ref (ad 4), .ref (ad 5), .ref (ad 6), .ref (ad 7), .int g_size]))), (2, (ad 2, .inl (cI, 20, .inl g_heads))), (3, (ad 3, .inl (cI, 20, .inl g_lengths))), (4, (ad 4, .inl (cI, 100, .inl g_symbols))), (5, (ad 5, .inl (cI, 100, .inl g_hints))), (6, (ad 6, .inl (cZ, 20, .inl g_ins))), (7, (ad 7, .inl (cZ, 6, .inl g_ground))), (22, (ad 22, .inr (4, [.ref (ad 1), .ref (ad 17), .ref (ad 23), .ref (ad 24), .ref (ad 25), .ref (ad 26), .ref (ad 27), .ref (ad 28), .ref (ad 29), .ref (ad 30), .ref (ad 31), .int t_waiting, .int t_size, .int t_skipped])))]) (r := r4) gX5_rule_X2_hintsFit rfl rfl rfl hySX2_hintsFit ⟨Nat.le_of_ble_eq_true rfl, Nat.le_of_ble_eq_true rfl⟩ rfl rfl (Nat.le_of_ble_eq_true rfl) dX5_rule_22 (fun w z hw => c_X2_hintsFit (cI := cI) (cB := cB) (cJ := cJ) (cZ := cZ) (ad := ad) w z trivial  hr4) rfl rfl ?_
      refine k_if_ne 38 dX5_rule_25 (by decide) h (fun h => ?_) (fun h => ?_)
      · skip
        refine k_sub [] rfl ?_
        exact wjn_X5_rule_28 (cI := cI) (cB := cB) (cJ := cJ) (cZ := cZ) (ad := ad) E  _ _ _ _ _ _ _ _ _ h
      · skip
        refine k_aload_n dX5_rule_38 1 rfl rfl ?_
        refine k_get 0 0 E.2 rfl qX5_rule_wX5 (by decide) qX5_rule_f12 rfl dX5_rule_39 ?_
        refine k_getN 1 6 rfl rfl qX5_rule_wX2 (by decide) (host := "KindParser") (by decide +kernel) rfl dX5_rule_42 ?_
        refine k_bipush (v := 20) dX5_rule_45 (by decide) ?_
        refine k_icmp_lt 60 dX5_rule_47 (by decide) h (fun h => ?_) (fun h => ?_)
        · skip
          refine k_aload_n dX5_rule_60 1 rfl rfl ?_
          refine k_get 0 5 E.2 rfl qX5_rule_wX5 (by decide) qX5_rule_f45 rfl dX5_rule_61 ?_
          obtain ⟨r5, hr5, h⟩ := Option.bind_eq_some_iff.mp h
          refine k_callvV (As := []) (st := []) (Lc := [(22, (ad 22, .inr (4, [.ref (ad 1), .ref (ad 17), .ref (ad 23), .ref (ad 24), .ref (ad 25), .ref (ad 26), .ref (ad 27), .ref (ad 28), .ref (ad 29), .ref (ad 30), .ref (ad 31), .int t_waiting, .int r5.1, .int r5.2])))]) (L' := [(1, (ad 1, .inr (2, [.ref (ad 2), .ref (ad 3), .ref (ad 4), .ref (ad 5), .ref (ad 6), .ref (ad 7), .int g_size]))), (2, (ad 2, .inl (cI, 20, .inl g_heads))), (3, (ad 3, .inl (cI, 20, .inl g_lengths))), (4, (ad 4, .inl (cI, 100, .inl g_symbols))), (5, (ad 5, .inl (cI, 100, .inl g_hints))), (6, (ad 6, .inl (cZ, 20, .inl g_ins))), (7, (ad 7, .inl (cZ, 6, .inl g_ground))), (22, (ad 22, .inr (4, [.ref (ad 1), .ref (ad 17), .ref (ad 23), .ref (ad 24), .ref (ad 25), .ref (ad 26), .ref (ad 27), .ref (ad 28), .ref (ad 29), .ref (ad 30), .ref (ad 31), .int t_waiting, .int r5.1, .int r5.2])))]) gX5_rule_X4_drop rfl rfl rfl hyVX4_drop ⟨Nat.le_of_ble_eq_true rfl, Nat.le_of_ble_eq_true rfl⟩ rfl rfl (Nat.le_of_ble_eq_true rfl) 22 rfl rfl dX5_rule_64 (fun w z hw => c_X4_drop (cI := cI) (cB := cB) (cJ := cJ) (cZ := cZ) (ad := ad) w z trivial (hw 22) hr5) rfl rfl ?_
          refine k_aload_n dX5_rule_67 1 rfl rfl ?_
          refine k_get 0 0 E.2 rfl qX5_rule_wX5 (by decide) qX5_rule_f12 rfl dX5_rule_68 ?_
          refine k_iload_n dX5_rule_71 2 rfl rfl ?_
          refine k_iload_n dX5_rule_72 3 rfl rfl ?_
          refine k_iload_n dX5_rule_73 4 rfl rfl ?_
          refine k_iload dX5_rule_74 5 rfl ?_
          obtain ⟨r6, hr6, h⟩ := Option.bind_eq_some_iff.mp h
          refine k_calliV (As := [.int a1, .int a2, .int a3, .int a4]) (st := []) (Lc := [(1, (ad 1, .inr (2, [.ref (ad 2), .ref (ad 3), .ref (ad 4), .ref (ad 5), .ref (ad 6), .ref (ad 7), .int r6.2.1]))), (2, (ad 2, .inl (cI, 20, .inl r6.2.2.1))), (3, (ad 3, .inl (cI, 20, .inl r6.2.2.2.1))), (4, (ad 4, .inl (cI, 100, .inl r6.2.2.2.2.1))), (5, (ad 5, .inl (cI, 100, .inl r6.2.2.2.2.2.1))), (6, (ad 6, .inl (cZ, 20, .inl r6.2.2.2.2.2.2.1))), (7, (ad 7, .inl (cZ, 6, .inl r6.2.2.2.2.2.2.2)))]) (L' := [(1, (ad 1, .inr (2, [.ref (ad 2), .ref (ad 3), .ref (ad 4), .ref (ad 5), .ref (ad 6), .ref (ad 7), .int r6.2.1]))), (2, (ad 2, .inl (cI, 20, .inl r6.2.2.1))), (3, (ad 3, .inl (cI, 20, .inl r6.2.2.2.1))), (4, (ad 4, .inl (cI, 100, .inl r6.2.2.2.2.1))), (5, (ad 5, .inl (cI, 100, .inl r6.2.2.2.2.2.1))), (6, (ad 6, .inl (cZ, 20, .inl r6.2.2.2.2.2.2.1))), (7, (ad 7, .inl (cZ, 6, .inl r6.2.2.2.2.2.2.2))), (22, (ad 22, .inr (4, [.ref (ad 1), .ref (ad 17), .ref (ad 23), .ref (ad 24), .ref (ad 25), .ref (ad 26), .ref (ad 27), .ref (ad 28), .ref (ad 29), .ref (ad 30), .ref (ad 31), .int t_waiting, .int r5.1, .int r5.2])))]) (r := r6.1) gX5_rule_X2_add rfl rfl rfl hyVX2_add ⟨Nat.le_of_ble_eq_true rfl, Nat.le_of_ble_eq_true rfl⟩ rfl rfl (Nat.le_of_ble_eq_true rfl) 1 rfl rfl dX5_rule_76 (fun w z hw => c_X2_add (cI := cI) (cB := cB) (cJ := cJ) (cZ := cZ) (ad := ad) w z trivial (hw 1) (hw 2) (hw 3) (hw 4) (hw 5) (hw 6) (hw 7) hr6) rfl rfl ?_
          obtain rfl := Option.some.inj h
          exact k_xret rfl dX5_rule_79
        · skip
          obtain rfl := Option.some.inj h
          exact k_thrS E.1 (cls := "java/lang/IllegalStateException") (text := "there are 20 rules") (ik := 86) (is := 88) (ic := 90) rfl qX5_rule_cl86 qX5_rule_in2 (fun _ h => List.mem_cons_of_mem _ (List.mem_append_right _ h)) xb_90 xo_86_90 (by decide) (by decide) (by decide) (show kExN 2 = some "java/lang/IllegalStateException" by decide) ⟨Nat.le_of_ble_eq_true rfl, Nat.le_of_ble_eq_true rfl, Nat.le_of_ble_eq_true rfl, Nat.le_of_ble_eq_true rfl⟩ dX5_rule_50 dX5_rule_53 dX5_rule_54 dX5_rule_56 dX5_rule_59
abbrev rmX5_write : Room := { frames := 6, cells := 1, slots := 6, locals := 82 }
abbrev xX5_write : KX := (rmX5_write, cX5_write, 5, some .int, RX5, wsX5_write)
theorem hySX5_write : yX5_write.cls ≠ "java/lang/invoke/MethodHandle" ∧ yX5_write.cls ≠ "java/lang/invoke/VarHandle" ∧ (parseMethodDescriptor yX5_write.desc).map (fun d => d.parameters.length) = some 2 := by decide +kernel
theorem hyVX5_write : yX5_write.cls = RX5 ∧ yX5_write.cls ≠ "java/lang/invoke/MethodHandle" ∧ yX5_write.cls ≠ "java/lang/invoke/VarHandle" ∧ (parseMethodDescriptor yX5_write.desc).map (fun d => d.parameters.length) = some 2 := ⟨rfl, hySX5_write⟩
theorem qX5_write_cl76 : Cond.classLink RX5 76 "java/lang/IllegalArgumentException" ∈ wsX5_write := by decide +kernel
theorem qX5_write_in1 : Cond.initialized "java/lang/IllegalArgumentException" ∈ wsX5_write := by decide +kernel
theorem qX5_write_wX5 : ∀ w ∈ u_ws RX5 TX5 9, w ∈ wsX5_write := by decide +kernel
theorem qX5_write_f20 : Cond.fieldLink RX5 20 "KindParser" "length" "I" ∈ wsX5_write := by decide +kernel
theorem qX5_write_f16 : Cond.fieldLink RX5 16 "KindParser" "text" "[B" ∈ wsX5_write := by decide +kernel
theorem qX5_write_cl86 : Cond.classLink RX5 86 "java/lang/IllegalStateException" ∈ wsX5_write := by decide +kernel
theorem qX5_write_in2 : Cond.initialized "java/lang/IllegalStateException" ∈ wsX5_write := by decide +kernel
set_option maxHeartbeats 4000000 in
set_option maxRecDepth 100000 in
theorem wjn_X5_write_19 {l : Launch} {D : va_G} {cI cB cJ cZ : ClassId} {ad : Nat → Nat} {ws : va_W} {z : Nat} {k_repaired : Int32} {k_spent : Int32} (E : l.stackTraces = false ∧ (True)) {o : Int32 × Int32 × (Int32) × (Nat → Int32)}   : ∀ (k_length : Int32) (k_text : Nat → Int32), jn_X5_write_19  k_length k_text = some o → KG l xX5_write D (kT cI cB cJ cZ) ws z (kQx D (kT cI cB cJ cZ) o.1 o.2.1 [(0, (ad 0, .inr (5, [.ref (ad 1), .ref (ad 8), .int o.2.2.1, .ref (ad 9), .ref (ad 17), .ref (ad 22), .ref (ad 32), .int k_repaired, .int k_spent]))), (8, (ad 8, .inl (cB, 80, .inl o.2.2.2)))] ws z) 0 0 19 [] [] [(0, (ad 0, .inr (5, [.ref (ad 1), .ref (ad 8), .int k_length, .ref (ad 9), .ref (ad 17), .ref (ad 22), .ref (ad 32), .int k_repaired, .int k_spent]))), (8, (ad 8, .inl (cB, 80, .inl k_text)))] := by
  intro k_length k_text h
  unfold jn_X5_write_19 at h
  obtain rfl := Option.some.inj h
  exact k_thrS E.1 (cls := "java/lang/IllegalArgumentException") (text := "not 1 to 8 characters") (ik := 76) (is := 102) (ic := 80) rfl qX5_write_cl76 qX5_write_in1 (fun _ h => List.mem_cons_of_mem _ (List.mem_append_left _ (List.mem_append_right _ h))) xb_80 xo_76_80 (by decide) (by decide) (by decide) (show kExN 1 = some "java/lang/IllegalArgumentException" by decide) ⟨Nat.le_of_ble_eq_true rfl, Nat.le_of_ble_eq_true rfl, Nat.le_of_ble_eq_true rfl, Nat.le_of_ble_eq_true rfl⟩ dX5_write_19 dX5_write_22 dX5_write_23 dX5_write_25 dX5_write_28
set_option maxHeartbeats 4000000 in
set_option maxRecDepth 100000 in
theorem wlp_X5_write_53 {l : Launch} {D : va_G} {cI cB cJ cZ : ClassId} {ad : Nat → Nat} {ws : va_W} {z : Nat} {k_repaired : Int32} {k_spent : Int32} (E : l.stackTraces = false ∧ (True)) {o : Int32 × Int32 × (Int32) × (Nat → Int32)} {k84 : (Int32) → (Int32) → (Nat → Int32) → Option (Int32 × Int32 × (Int32) × (Nat → Int32))} (hk84 : ∀ (x3 : Int32) (k_length : Int32) (k_text : Nat → Int32), k84 x3 k_length k_text = some o → KG l xX5_write D (kT cI cB cJ cZ) ws z (kQx D (kT cI cB cJ cZ) o.1 o.2.1 [(0, (ad 0, .inr (5, [.ref (ad 1), .ref (ad 8), .int o.2.2.1, .ref (ad 9), .ref (ad 17), .ref (ad 22), .ref (ad 32), .int k_repaired, .int k_spent]))), (8, (ad 8, .inl (cB, 80, .inl o.2.2.2)))] ws z) 0 0 84 [(0, .ref (ad 0)), (3, .int x3)] [] [(0, (ad 0, .inr (5, [.ref (ad 1), .ref (ad 8), .int k_length, .ref (ad 9), .ref (ad 17), .ref (ad 22), .ref (ad 32), .int k_repaired, .int k_spent]))), (8, (ad 8, .inl (cB, 80, .inl k_text)))]) : ∀ (n : Nat) (x1 : Int64) (x3 : Int32) (x4 : Int32) (k_length : Int32) (k_text : Nat → Int32), lp_X5_write_53  k84 n x1 x3 x4 k_length k_text = some o → KG l xX5_write D (kT cI cB cJ cZ) ws z (kQx D (kT cI cB cJ cZ) o.1 o.2.1 [(0, (ad 0, .inr (5, [.ref (ad 1), .ref (ad 8), .int o.2.2.1, .ref (ad 9), .ref (ad 17), .ref (ad 22), .ref (ad 32), .int k_repaired, .int k_spent]))), (8, (ad 8, .inl (cB, 80, .inl o.2.2.2)))] ws z) 0 0 53 [(0, .ref (ad 0)), (1, .long x1), (3, .int x3), (4, .int x4)] [] [(0, (ad 0, .inr (5, [.ref (ad 1), .ref (ad 8), .int k_length, .ref (ad 9), .ref (ad 17), .ref (ad 22), .ref (ad 32), .int k_repaired, .int k_spent]))), (8, (ad 8, .inl (cB, 80, .inl k_text)))] := by
  intro n
  induction n with
  | zero => intro x1 x3 x4 k_length k_text h; exact absurd h (by simp [lp_X5_write_53])
  | succ n hk53 =>
    intro x1 x3 x4 k_length k_text h
    unfold lp_X5_write_53 at h
    refine k_iload dX5_write_53 3 rfl ?_
    refine k_iload_n dX5_write_55 2 rfl rfl ?_
    refine k_icmp_ge 84 dX5_write_56 (by decide) h (fun h => ?_) (fun h => ?_)
    · skip
      refine k_sub [0, 2] rfl ?_
      exact hk84 _ _ _ h
    · skip
      refine k_aload_n dX5_write_59 0 rfl rfl ?_
      refine k_get 0 1 rfl rfl qX5_write_wX5 (by decide) qX5_write_f16 rfl dX5_write_60 ?_
      refine k_aload_n dX5_write_63 0 rfl rfl ?_
      refine k_get 0 2 rfl rfl qX5_write_wX5 (by decide) qX5_write_f20 rfl dX5_write_64 ?_
      refine k_iload dX5_write_67 3 rfl ?_
      refine k_iadd dX5_write_69 ?_
      refine k_lload_n dX5_write_70 1 rfl rfl ?_
      refine k_iload dX5_write_71 3 rfl ?_
      obtain ⟨r3, hr3, h⟩ := Option.bind_eq_some_iff.mp h
      refine k_calliS (As := [.long x1, .int x4]) (st := [.int (k_length + x4), .ref (ad 8)]) (Lc := []) (L' := [(0, (ad 0, .inr (5, [.ref (ad 1), .ref (ad 8), .int k_length, .ref (ad 9), .ref (ad 17), .ref (ad 22), .ref (ad 32), .int k_repaired, .int k_spent]))), (8, (ad 8, .inl (cB, 80, .inl k_text)))]) (r := r3) gX5_write_X5_byteOf rfl rfl rfl hySX5_byteOf ⟨Nat.le_of_ble_eq_true rfl, Nat.le_of_ble_eq_true rfl⟩ rfl rfl (Nat.le_of_ble_eq_true rfl) dX5_write_73 (fun w z hw => c_X5_byteOf (cI := cI) (cB := cB) (cJ := cJ) (cZ := cZ) (ad := ad) w z trivial  hr3) rfl rfl ?_
      refine k_i2b dX5_write_76 ?_
      refine k_bast (L' := fun f => [(0, (ad 0, .inr (5, [.ref (ad 1), .ref (ad 8), .int k_length, .ref (ad 9), .ref (ad 17), .ref (ad 22), .ref (ad 32), .int k_repaired, .int k_spent]))), (8, (ad 8, .inl (cB, 80, .inl f)))]) 8 1 rfl rfl rfl dX5_write_77 h (fun _ => rfl) (fun k_text_4 h => ?_)
      refine k_iinc (i := 4) (lv' := fun x => [(4, .int x), (0, .ref (ad 0)), (1, .long x1), (3, .int x3)]) dX5_write_78 3 rfl (Nat.le_of_ble_eq_true rfl) (fun _ => rfl) h (fun x4_5 h => ?_)
      refine k_goto 53 dX5_write_81 (by decide) ?_
      refine k_sub [1, 2, 3, 0] rfl ?_
      exact hk53 _ _ _ _ _ h
set_option maxHeartbeats 4000000 in
set_option maxRecDepth 100000 in
/-- KindParser.write -/
theorem c_X5_write {l : Launch} {D : va_G} {cI cB cJ cZ : ClassId} {ad : Nat → Nat} (ws : va_W) (z : Nat) {k_length : Int32} {k_repaired : Int32} {k_spent : Int32} {k_text : Nat → Int32} (E : l.stackTraces = false ∧ (True)) (e0 : ws[0]? = some (ad 0, .inr (5, [.ref (ad 1), .ref (ad 8), .int k_length, .ref (ad 9), .ref (ad 17), .ref (ad 22), .ref (ad 32), .int k_repaired, .int k_spent]))) (e8 : ws[8]? = some (ad 8, .inl (cB, 80, .inl k_text))) {a1 : Int64} {a3 : Int32} {o : Int32 × Int32 × (Int32) × (Nat → Int32)} (h : f_X5_write a1 a3 k_length k_text = some o) : vx_Met l yX5_write wsX5_write rmX5_write (kPx D (kT cI cB cJ cZ) [.ref (ad 0), .long a1, .int a3] ws z) (kQ0 D (kT cI cB cJ cZ) o.1 o.2.1 [(0, (ad 0, .inr (5, [.ref (ad 1), .ref (ad 8), .int o.2.2.1, .ref (ad 9), .ref (ad 17), .ref (ad 22), .ref (ad 32), .int k_repaired, .int k_spent]))), (8, (ad 8, .inl (cB, 80, .inl o.2.2.2)))] ws z) (kX0 D (kT cI cB cJ cZ) o.1 [(0, (ad 0, .inr (5, [.ref (ad 1), .ref (ad 8), .int o.2.2.1, .ref (ad 9), .ref (ad 17), .ref (ad 22), .ref (ad 32), .int k_repaired, .int k_spent]))), (8, (ad 8, .inl (cB, 80, .inl o.2.2.2)))] ws z) 1 6 (va_A ws z) := by
  refine KG.metX (rm := rmX5_write) (lv := [(0, .ref (ad 0)), (1, .long a1), (3, .int a3)]) (L := [(0, (ad 0, .inr (5, [.ref (ad 1), .ref (ad 8), .int k_length, .ref (ad 9), .ref (ad 17), .ref (ad 22), .ref (ad 32), .int k_repaired, .int k_spent]))), (8, (ad 8, .inl (cB, 80, .inl k_text)))]) rfl (by decide) (Nat.le_of_ble_eq_true rfl) rfl (by intro q hq; simp only [List.mem_cons, List.not_mem_nil, or_false] at hq; rcases hq with rfl | rfl <;> assumption) ?_
  unfold f_X5_write at h
  show KG l xX5_write D (kT cI cB cJ cZ) ws z (kQx D (kT cI cB cJ cZ) o.1 o.2.1 [(0, (ad 0, .inr (5, [.ref (ad 1), .ref (ad 8), .int o.2.2.1, .ref (ad 9), .ref (ad 17), .ref (ad 22), .ref (ad 32), .int k_repaired, .int k_spent]))), (8, (ad 8, .inl (cB, 80, .inl o.2.2.2)))] ws z) 0 0 0 [(0, .ref (ad 0)), (1, .long a1), (3, .int a3)] [] [(0, (ad 0, .inr (5, [.ref (ad 1), .ref (ad 8), .int k_length, .ref (ad 9), .ref (ad 17), .ref (ad 22), .ref (ad 32), .int k_repaired, .int k_spent]))), (8, (ad 8, .inl (cB, 80, .inl k_text)))]
  refine k_iload_n dX5_write_0 2 rfl rfl ?_
  refine k_iconst (v := 1) dX5_write_1 (by decide) ?_
  refine k_icmp_lt 19 dX5_write_2 (by decide) h (fun h => ?_) (fun h => ?_)
  · skip
    refine k_sub [] rfl ?_
    exact wjn_X5_write_19 (cI := cI) (cB := cB) (cJ := cJ) (cZ := cZ) (ad := ad) E  _ _ h
  · skip
    refine k_iload_n dX5_write_5 2 rfl rfl ?_
    refine k_bipush (v := 8) dX5_write_6 (by decide) ?_
    refine k_icmp_gt 19 dX5_write_8 (by decide) h (fun h => ?_) (fun h => ?_)
    · skip
      refine k_sub [] rfl ?_
      exact wjn_X5_write_19 (cI := cI) (cB := cB) (cJ := cJ) (cZ := cZ) (ad := ad) E  _ _ h
    · skip
      refine k_lload_n dX5_write_11 1 rfl rfl ?_
      refine k_iload_n dX5_write_12 2 rfl rfl ?_
      obtain ⟨r1, hr1, h⟩ := Option.bind_eq_some_iff.mp h
      refine k_calliS (As := [.long a1, .int a3]) (st := []) (Lc := []) (L' := [(0, (ad 0, .inr (5, [.ref (ad 1), .ref (ad 8), .int k_length, .ref (ad 9), .ref (ad 17), .ref (ad 22), .ref (ad 32), .int k_repaired, .int k_spent]))), (8, (ad 8, .inl (cB, 80, .inl k_text)))]) (r := r1) gX5_write_X5_areCharacters rfl rfl rfl hySX5_areCharacters ⟨Nat.le_of_ble_eq_true rfl, Nat.le_of_ble_eq_true rfl⟩ rfl rfl (Nat.le_of_ble_eq_true rfl) dX5_write_13 (fun w z hw => c_X5_areCharacters (cI := cI) (cB := cB) (cJ := cJ) (cZ := cZ) (ad := ad) w z trivial  hr1) rfl rfl ?_
      refine k_if_ne 29 dX5_write_16 (by decide) h (fun h => ?_) (fun h => ?_)
      · skip
        refine k_sub [] rfl ?_
        exact wjn_X5_write_19 (cI := cI) (cB := cB) (cJ := cJ) (cZ := cZ) (ad := ad) E  _ _ h
      · skip
        refine k_aload_n dX5_write_29 0 rfl rfl ?_
        refine k_get 0 2 rfl rfl qX5_write_wX5 (by decide) qX5_write_f20 rfl dX5_write_30 ?_
        refine k_iload_n dX5_write_33 2 rfl rfl ?_
        refine k_iadd dX5_write_34 ?_
        refine k_bipush (v := 80) dX5_write_35 (by decide) ?_
        refine k_icmp_le 50 dX5_write_37 (by decide) h (fun h => ?_) (fun h => ?_)
        · skip
          refine k_iconst (v := 0) dX5_write_50 (by decide) ?_
          refine k_istore (i := 4) (lv' := fun x => [(4, .int x), (0, .ref (ad 0)), (1, .long a1), (3, .int a3)]) dX5_write_51 (Nat.le_of_ble_eq_true rfl) (fun _ => rfl) h (fun x4_2 h => ?_)
          refine k_sub [1, 2, 3, 0] rfl ?_
          refine wlp_X5_write_53 (cI := cI) (cB := cB) (cJ := cJ) (cZ := cZ) (ad := ad) E ?_ FU _ _ _ _ _ h
          · intro x3 k_length k_text h
            refine k_aload_n dX5_write_84 0 rfl rfl ?_
            refine k_dup dX5_write_85 rfl ?_
            refine k_get 0 2 rfl rfl qX5_write_wX5 (by decide) qX5_write_f20 rfl dX5_write_86 ?_
            refine k_iload_n dX5_write_89 1 rfl rfl ?_
            refine k_iadd dX5_write_90 ?_
            refine k_put (L' := [(0, (ad 0, .inr (5, [.ref (ad 1), .ref (ad 8), .int (k_length + x3), .ref (ad 9), .ref (ad 17), .ref (ad 22), .ref (ad 32), .int k_repaired, .int k_spent]))), (8, (ad 8, .inl (cB, 80, .inl k_text)))]) 0 2 rfl rfl qX5_write_wX5 (by decide) tyX5 tyX5_ok nmX5 rfl qX5_write_f20 rfl (tyX5_ok 2 (by decide)) rfl rfl (Nat.le_of_ble_eq_true rfl) dX5_write_91 rfl ?_
            refine k_aload_n dX5_write_94 0 rfl rfl ?_
            refine k_get 0 2 rfl rfl qX5_write_wX5 (by decide) qX5_write_f20 rfl dX5_write_95 ?_
            obtain rfl := Option.some.inj h
            exact k_xret rfl dX5_write_98
        · skip
          obtain rfl := Option.some.inj h
          exact k_thrS E.1 (cls := "java/lang/IllegalStateException") (text := "more than 80 characters") (ik := 86) (is := 104) (ic := 90) rfl qX5_write_cl86 qX5_write_in2 (fun _ h => List.mem_cons_of_mem _ (List.mem_append_right _ h)) xb_90 xo_86_90 (by decide) (by decide) (by decide) (show kExN 2 = some "java/lang/IllegalStateException" by decide) ⟨Nat.le_of_ble_eq_true rfl, Nat.le_of_ble_eq_true rfl, Nat.le_of_ble_eq_true rfl, Nat.le_of_ble_eq_true rfl⟩ dX5_write_40 dX5_write_43 dX5_write_44 dX5_write_46 dX5_write_49
abbrev rmX5_print : Room := { frames := 6, cells := 1, slots := 6, locals := 136 }
abbrev xX5_print : KX := (rmX5_print, cX5_print, 2, some .int, RX5, wsX5_print)
theorem hySX5_print : yX5_print.cls ≠ "java/lang/invoke/MethodHandle" ∧ yX5_print.cls ≠ "java/lang/invoke/VarHandle" ∧ (parseMethodDescriptor yX5_print.desc).map (fun d => d.parameters.length) = some 1 := by decide +kernel
theorem hyVX5_print : yX5_print.cls = RX5 ∧ yX5_print.cls ≠ "java/lang/invoke/MethodHandle" ∧ yX5_print.cls ≠ "java/lang/invoke/VarHandle" ∧ (parseMethodDescriptor yX5_print.desc).map (fun d => d.parameters.length) = some 1 := ⟨rfl, hySX5_print⟩
theorem qX5_print_cl76 : Cond.classLink RX5 76 "java/lang/IllegalArgumentException" ∈ wsX5_print := by decide +kernel
theorem qX5_print_in1 : Cond.initialized "java/lang/IllegalArgumentException" ∈ wsX5_print := by decide +kernel
theorem qX5_print_wX5 : ∀ w ∈ u_ws RX5 TX5 9, w ∈ wsX5_print := by decide +kernel
theorem qX5_print_f45 : Cond.fieldLink RX5 45 "KindParser" "tree" "LKindParser$Tree;" ∈ wsX5_print := by decide +kernel
theorem qX5_print_wX4 : ∀ w ∈ u_ws RX4 TX4 14, w ∈ wsX5_print := by decide +kernel
theorem qX5_print_cl86 : Cond.classLink RX5 86 "java/lang/IllegalStateException" ∈ wsX5_print := by decide +kernel
theorem qX5_print_in2 : Cond.initialized "java/lang/IllegalStateException" ∈ wsX5_print := by decide +kernel
theorem qX5_print_f54 : Cond.fieldLink RX5 54 "KindParser" "page" "LKindParser$Page;" ∈ wsX5_print := by decide +kernel
theorem qX5_print_wX3 : ∀ w ∈ u_ws RX3 TX3 9, w ∈ wsX5_print := by decide +kernel
set_option maxHeartbeats 4000000 in
set_option maxRecDepth 100000 in
theorem wjn_X5_print_11 {l : Launch} {D : va_G} {cI cB cJ cZ : ClassId} {ad : Nat → Nat} {ws : va_W} {z : Nat} {k_length : Int32} {k_repaired : Int32} {k_spent : Int32} {g_size : Int32} {g_ins : Nat → Int32} {c_length : Int32} {c_size : Int32} {c_comments : Int32} {c_text : Nat → Int32} {c_starts : Nat → Int32} {c_lengths : Nat → Int32} {c_firstComments : Nat → Int32} {c_commentStarts : Nat → Int32} {c_commentEnds : Nat → Int32} {t_waiting : Int32} {t_size : Int32} {t_skipped : Int32} {t_cells : Nat → Int32} {t_hints : Nat → Int32} (E : l.stackTraces = false ∧ (ws[0]? = some (ad 0, .inr (5, [.ref (ad 1), .ref (ad 8), .int k_length, .ref (ad 9), .ref (ad 17), .ref (ad 22), .ref (ad 32), .int k_repaired, .int k_spent])) ∧ ws[1]? = some (ad 1, .inr (2, [.ref (ad 2), .ref (ad 3), .ref (ad 4), .ref (ad 5), .ref (ad 6), .ref (ad 7), .int g_size])) ∧ ws[6]? = some (ad 6, .inl (cZ, 20, .inl g_ins)) ∧ ws[9]? = some (ad 9, .inr (1, [.ref (ad 10), .int c_length, .ref (ad 11), .ref (ad 12), .ref (ad 13), .ref (ad 14), .ref (ad 15), .ref (ad 16), .int c_size, .int c_comments])) ∧ ws[10]? = some (ad 10, .inl (cB, 80, .inl c_text)) ∧ ws[11]? = some (ad 11, .inl (cI, 16, .inl c_starts)) ∧ ws[12]? = some (ad 12, .inl (cI, 16, .inl c_lengths)) ∧ ws[14]? = some (ad 14, .inl (cI, 18, .inl c_firstComments)) ∧ ws[15]? = some (ad 15, .inl (cI, 40, .inl c_commentStarts)) ∧ ws[16]? = some (ad 16, .inl (cI, 40, .inl c_commentEnds)) ∧ ws[22]? = some (ad 22, .inr (4, [.ref (ad 1), .ref (ad 17), .ref (ad 23), .ref (ad 24), .ref (ad 25), .ref (ad 26), .ref (ad 27), .ref (ad 28), .ref (ad 29), .ref (ad 30), .ref (ad 31), .int t_waiting, .int t_size, .int t_skipped])) ∧ ws[23]? = some (ad 23, .inl (cI, 1050, .inl t_cells)) ∧ ws[24]? = some (ad 24, .inl (cI, 150, .inl t_hints)))) {o : Int32 × Int32 × (Int32) × (Int32) × (Nat → Int32) × (Nat → Int32) × (Nat → Int32) × (Nat → Int32)}   : ∀ (p_size : Int32) (p_column : Int32) (p_sheet : Nat → Int32) (p_flats : Nat → Int32) (p_broken : Nat → Int32) (p_indents : Nat → Int32), jn_X5_print_11 g_ins c_size c_text c_starts c_lengths c_firstComments c_commentStarts c_commentEnds t_size t_skipped t_cells t_hints p_size p_column p_sheet p_flats p_broken p_indents = some o → KG l xX5_print D (kT cI cB cJ cZ) ws z (kQx D (kT cI cB cJ cZ) o.1 o.2.1 [(32, (ad 32, .inr (3, [.ref (ad 1), .ref (ad 9), .ref (ad 22), .ref (ad 33), .ref (ad 34), .ref (ad 35), .ref (ad 36), .int o.2.2.1, .int o.2.2.2.1]))), (33, (ad 33, .inl (cB, 1300, .inl o.2.2.2.2.1))), (34, (ad 34, .inl (cI, 150, .inl o.2.2.2.2.2.1))), (35, (ad 35, .inl (cZ, 150, .inl o.2.2.2.2.2.2.1))), (36, (ad 36, .inl (cI, 150, .inl o.2.2.2.2.2.2.2)))] ws z) 0 0 11 [] [] [(32, (ad 32, .inr (3, [.ref (ad 1), .ref (ad 9), .ref (ad 22), .ref (ad 33), .ref (ad 34), .ref (ad 35), .ref (ad 36), .int p_size, .int p_column]))), (33, (ad 33, .inl (cB, 1300, .inl p_sheet))), (34, (ad 34, .inl (cI, 150, .inl p_flats))), (35, (ad 35, .inl (cZ, 150, .inl p_broken))), (36, (ad 36, .inl (cI, 150, .inl p_indents)))] := by
  intro p_size p_column p_sheet p_flats p_broken p_indents h
  unfold jn_X5_print_11 at h
  obtain rfl := Option.some.inj h
  exact k_thrS E.1 (cls := "java/lang/IllegalArgumentException") (text := "the width is not 1 to 100") (ik := 76) (is := 159) (ic := 80) rfl qX5_print_cl76 qX5_print_in1 (fun _ h => List.mem_cons_of_mem _ (List.mem_append_left _ (List.mem_append_right _ h))) xb_80 xo_76_80 (by decide) (by decide) (by decide) (show kExN 1 = some "java/lang/IllegalArgumentException" by decide) ⟨Nat.le_of_ble_eq_true rfl, Nat.le_of_ble_eq_true rfl, Nat.le_of_ble_eq_true rfl, Nat.le_of_ble_eq_true rfl⟩ dX5_print_11 dX5_print_14 dX5_print_15 dX5_print_17 dX5_print_20
set_option maxHeartbeats 4000000 in
set_option maxRecDepth 100000 in
/-- KindParser.print -/
theorem c_X5_print {l : Launch} {D : va_G} {cI cB cJ cZ : ClassId} {ad : Nat → Nat} (ws : va_W) (z : Nat) {k_length : Int32} {k_repaired : Int32} {k_spent : Int32} {g_size : Int32} {g_ins : Nat → Int32} {c_length : Int32} {c_size : Int32} {c_comments : Int32} {c_text : Nat → Int32} {c_starts : Nat → Int32} {c_lengths : Nat → Int32} {c_firstComments : Nat → Int32} {c_commentStarts : Nat → Int32} {c_commentEnds : Nat → Int32} {t_waiting : Int32} {t_size : Int32} {t_skipped : Int32} {t_cells : Nat → Int32} {t_hints : Nat → Int32} {p_size : Int32} {p_column : Int32} {p_sheet : Nat → Int32} {p_flats : Nat → Int32} {p_broken : Nat → Int32} {p_indents : Nat → Int32} (E : l.stackTraces = false ∧ (ws[0]? = some (ad 0, .inr (5, [.ref (ad 1), .ref (ad 8), .int k_length, .ref (ad 9), .ref (ad 17), .ref (ad 22), .ref (ad 32), .int k_repaired, .int k_spent])) ∧ ws[1]? = some (ad 1, .inr (2, [.ref (ad 2), .ref (ad 3), .ref (ad 4), .ref (ad 5), .ref (ad 6), .ref (ad 7), .int g_size])) ∧ ws[6]? = some (ad 6, .inl (cZ, 20, .inl g_ins)) ∧ ws[9]? = some (ad 9, .inr (1, [.ref (ad 10), .int c_length, .ref (ad 11), .ref (ad 12), .ref (ad 13), .ref (ad 14), .ref (ad 15), .ref (ad 16), .int c_size, .int c_comments])) ∧ ws[10]? = some (ad 10, .inl (cB, 80, .inl c_text)) ∧ ws[11]? = some (ad 11, .inl (cI, 16, .inl c_starts)) ∧ ws[12]? = some (ad 12, .inl (cI, 16, .inl c_lengths)) ∧ ws[14]? = some (ad 14, .inl (cI, 18, .inl c_firstComments)) ∧ ws[15]? = some (ad 15, .inl (cI, 40, .inl c_commentStarts)) ∧ ws[16]? = some (ad 16, .inl (cI, 40, .inl c_commentEnds)) ∧ ws[22]? = some (ad 22, .inr (4, [.ref (ad 1), .ref (ad 17), .ref (ad 23), .ref (ad 24), .ref (ad 25), .ref (ad 26), .ref (ad 27), .ref (ad 28), .ref (ad 29), .ref (ad 30), .ref (ad 31), .int t_waiting, .int t_size, .int t_skipped])) ∧ ws[23]? = some (ad 23, .inl (cI, 1050, .inl t_cells)) ∧ ws[24]? = some (ad 24, .inl (cI, 150, .inl t_hints)))) (e32 : ws[32]? = some (ad 32, .inr (3, [.ref (ad 1), .ref (ad 9), .ref (ad 22), .ref (ad 33), .ref (ad 34), .ref (ad 35), .ref (ad 36), .int p_size, .int p_column]))) (e33 : ws[33]? = some (ad 33, .inl (cB, 1300, .inl p_sheet))) (e34 : ws[34]? = some (ad 34, .inl (cI, 150, .inl p_flats))) (e35 : ws[35]? = some (ad 35, .inl (cZ, 150, .inl p_broken))) (e36 : ws[36]? = some (ad 36, .inl (cI, 150, .inl p_indents))) {a1 : Int32} {o : Int32 × Int32 × (Int32) × (Int32) × (Nat → Int32) × (Nat → Int32) × (Nat → Int32) × (Nat → Int32)} (h : f_X5_print a1 g_ins c_size c_text c_starts c_lengths c_firstComments c_commentStarts c_commentEnds t_size t_skipped t_cells t_hints p_size p_column p_sheet p_flats p_broken p_indents = some o) : vx_Met l yX5_print wsX5_print rmX5_print (kPx D (kT cI cB cJ cZ) [.ref (ad 0), .int a1] ws z) (kQ0 D (kT cI cB cJ cZ) o.1 o.2.1 [(32, (ad 32, .inr (3, [.ref (ad 1), .ref (ad 9), .ref (ad 22), .ref (ad 33), .ref (ad 34), .ref (ad 35), .ref (ad 36), .int o.2.2.1, .int o.2.2.2.1]))), (33, (ad 33, .inl (cB, 1300, .inl o.2.2.2.2.1))), (34, (ad 34, .inl (cI, 150, .inl o.2.2.2.2.2.1))), (35, (ad 35, .inl (cZ, 150, .inl o.2.2.2.2.2.2.1))), (36, (ad 36, .inl (cI, 150, .inl o.2.2.2.2.2.2.2)))] ws z) (kX0 D (kT cI cB cJ cZ) o.1 [(32, (ad 32, .inr (3, [.ref (ad 1), .ref (ad 9), .ref (ad 22), .ref (ad 33), .ref (ad 34), .ref (ad 35), .ref (ad 36), .int o.2.2.1, .int o.2.2.2.1]))), (33, (ad 33, .inl (cB, 1300, .inl o.2.2.2.2.1))), (34, (ad 34, .inl (cI, 150, .inl o.2.2.2.2.2.1))), (35, (ad 35, .inl (cZ, 150, .inl o.2.2.2.2.2.2.1))), (36, (ad 36, .inl (cI, 150, .inl o.2.2.2.2.2.2.2)))] ws z) 1 6 (va_A ws z) := by
  refine KG.metX (rm := rmX5_print) (lv := [(0, .ref (ad 0)), (1, .int a1)]) (L := [(32, (ad 32, .inr (3, [.ref (ad 1), .ref (ad 9), .ref (ad 22), .ref (ad 33), .ref (ad 34), .ref (ad 35), .ref (ad 36), .int p_size, .int p_column]))), (33, (ad 33, .inl (cB, 1300, .inl p_sheet))), (34, (ad 34, .inl (cI, 150, .inl p_flats))), (35, (ad 35, .inl (cZ, 150, .inl p_broken))), (36, (ad 36, .inl (cI, 150, .inl p_indents)))]) rfl (by decide) (Nat.le_of_ble_eq_true rfl) rfl (by intro q hq; simp only [List.mem_cons, List.not_mem_nil, or_false] at hq; rcases hq with rfl | rfl | rfl | rfl | rfl <;> assumption) ?_
  unfold f_X5_print at h
  show KG l xX5_print D (kT cI cB cJ cZ) ws z (kQx D (kT cI cB cJ cZ) o.1 o.2.1 [(32, (ad 32, .inr (3, [.ref (ad 1), .ref (ad 9), .ref (ad 22), .ref (ad 33), .ref (ad 34), .ref (ad 35), .ref (ad 36), .int o.2.2.1, .int o.2.2.2.1]))), (33, (ad 33, .inl (cB, 1300, .inl o.2.2.2.2.1))), (34, (ad 34, .inl (cI, 150, .inl o.2.2.2.2.2.1))), (35, (ad 35, .inl (cZ, 150, .inl o.2.2.2.2.2.2.1))), (36, (ad 36, .inl (cI, 150, .inl o.2.2.2.2.2.2.2)))] ws z) 0 0 0 [(0, .ref (ad 0)), (1, .int a1)] [] [(32, (ad 32, .inr (3, [.ref (ad 1), .ref (ad 9), .ref (ad 22), .ref (ad 33), .ref (ad 34), .ref (ad 35), .ref (ad 36), .int p_size, .int p_column]))), (33, (ad 33, .inl (cB, 1300, .inl p_sheet))), (34, (ad 34, .inl (cI, 150, .inl p_flats))), (35, (ad 35, .inl (cZ, 150, .inl p_broken))), (36, (ad 36, .inl (cI, 150, .inl p_indents)))]
  refine k_iload_n dX5_print_0 1 rfl rfl ?_
  refine k_iconst (v := 1) dX5_print_1 (by decide) ?_
  refine k_icmp_lt 11 dX5_print_2 (by decide) h (fun h => ?_) (fun h => ?_)
  · skip
    refine k_sub [] rfl ?_
    exact wjn_X5_print_11 (cI := cI) (cB := cB) (cJ := cJ) (cZ := cZ) (ad := ad) E  _ _ _ _ _ _ h
  · skip
    refine k_iload_n dX5_print_5 1 rfl rfl ?_
    refine k_bipush (v := 100) dX5_print_6 (by decide) ?_
    refine k_icmp_le 21 dX5_print_8 (by decide) h (fun h => ?_) (fun h => ?_)
    · skip
      refine k_aload_n dX5_print_21 0 rfl rfl ?_
      refine k_get 0 5 E.2.1 rfl qX5_print_wX5 (by decide) qX5_print_f45 rfl dX5_print_22 ?_
      refine k_getN 22 12 E.2.2.2.2.2.2.2.2.2.2.2.1 rfl qX5_print_wX4 (by decide) (host := "KindParser") (by decide +kernel) rfl dX5_print_25 ?_
      refine k_if_ne 41 dX5_print_28 (by decide) h (fun h => ?_) (fun h => ?_)
      · skip
        obtain rfl := Option.some.inj h
        exact k_thrS E.1 (cls := "java/lang/IllegalStateException") (text := "there is no tree") (ik := 86) (is := 157) (ic := 90) rfl qX5_print_cl86 qX5_print_in2 (fun _ h => List.mem_cons_of_mem _ (List.mem_append_right _ h)) xb_90 xo_86_90 (by decide) (by decide) (by decide) (show kExN 2 = some "java/lang/IllegalStateException" by decide) ⟨Nat.le_of_ble_eq_true rfl, Nat.le_of_ble_eq_true rfl, Nat.le_of_ble_eq_true rfl, Nat.le_of_ble_eq_true rfl⟩ dX5_print_31 dX5_print_34 dX5_print_35 dX5_print_37 dX5_print_40
      · skip
        refine k_aload_n dX5_print_41 0 rfl rfl ?_
        refine k_get 0 6 E.2.1 rfl qX5_print_wX5 (by decide) qX5_print_f54 rfl dX5_print_42 ?_
        refine k_iload_n dX5_print_45 1 rfl rfl ?_
        obtain ⟨r1, hr1, h⟩ := Option.bind_eq_some_iff.mp h
        refine k_callvV (As := [.int a1]) (st := []) (Lc := [(32, (ad 32, .inr (3, [.ref (ad 1), .ref (ad 9), .ref (ad 22), .ref (ad 33), .ref (ad 34), .ref (ad 35), .ref (ad 36), .int r1.1, .int r1.2.1]))), (33, (ad 33, .inl (cB, 1300, .inl r1.2.2.1))), (34, (ad 34, .inl (cI, 150, .inl r1.2.2.2.1))), (35, (ad 35, .inl (cZ, 150, .inl r1.2.2.2.2.1))), (36, (ad 36, .inl (cI, 150, .inl r1.2.2.2.2.2)))]) (L' := [(32, (ad 32, .inr (3, [.ref (ad 1), .ref (ad 9), .ref (ad 22), .ref (ad 33), .ref (ad 34), .ref (ad 35), .ref (ad 36), .int r1.1, .int r1.2.1]))), (33, (ad 33, .inl (cB, 1300, .inl r1.2.2.1))), (34, (ad 34, .inl (cI, 150, .inl r1.2.2.2.1))), (35, (ad 35, .inl (cZ, 150, .inl r1.2.2.2.2.1))), (36, (ad 36, .inl (cI, 150, .inl r1.2.2.2.2.2)))]) gX5_print_X3_layOut rfl rfl rfl hyVX3_layOut ⟨Nat.le_of_ble_eq_true rfl, Nat.le_of_ble_eq_true rfl⟩ rfl rfl (Nat.le_of_ble_eq_true rfl) 32 rfl rfl dX5_print_46 (fun w z hw => c_X3_layOut (cI := cI) (cB := cB) (cJ := cJ) (cZ := cZ) (ad := ad) w z ⟨((hw 1).trans E.2.2.1), ((hw 6).trans E.2.2.2.1), ((hw 9).trans E.2.2.2.2.1), ((hw 10).trans E.2.2.2.2.2.1), ((hw 11).trans E.2.2.2.2.2.2.1), ((hw 12).trans E.2.2.2.2.2.2.2.1), ((hw 14).trans E.2.2.2.2.2.2.2.2.1), ((hw 15).trans E.2.2.2.2.2.2.2.2.2.1), ((hw 16).trans E.2.2.2.2.2.2.2.2.2.2.1), ((hw 22).trans E.2.2.2.2.2.2.2.2.2.2.2.1), ((hw 23).trans E.2.2.2.2.2.2.2.2.2.2.2.2.1), ((hw 24).trans E.2.2.2.2.2.2.2.2.2.2.2.2.2)⟩ (hw 32) (hw 33) (hw 34) (hw 35) (hw 36) hr1) rfl rfl ?_
        refine k_aload_n dX5_print_49 0 rfl rfl ?_
        refine k_get 0 6 E.2.1 rfl qX5_print_wX5 (by decide) qX5_print_f54 rfl dX5_print_50 ?_
        refine k_getN 32 7 rfl rfl qX5_print_wX3 (by decide) (host := "KindParser") (by decide +kernel) rfl dX5_print_53 ?_
        obtain rfl := Option.some.inj h
        exact k_xret rfl dX5_print_56
    · skip
      refine k_sub [] rfl ?_
      exact wjn_X5_print_11 (cI := cI) (cB := cB) (cJ := cJ) (cZ := cZ) (ad := ad) E  _ _ _ _ _ _ h
