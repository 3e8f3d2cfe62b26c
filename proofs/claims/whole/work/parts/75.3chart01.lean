abbrev rmX0_fill : Room := { frames := 3, cells := 0, slots := 0, locals := 81 }
abbrev xX0_fill : KX := (rmX0_fill, cX0_fill, 3, none, RX0, wsX0_fill)
theorem hySX0_fill : yX0_fill.cls ≠ "java/lang/invoke/MethodHandle" ∧ yX0_fill.cls ≠ "java/lang/invoke/VarHandle" ∧ (parseMethodDescriptor yX0_fill.desc).map (fun d => d.parameters.length) = some 0 := by decide +kernel
theorem hyVX0_fill : yX0_fill.cls = RX0 ∧ yX0_fill.cls ≠ "java/lang/invoke/MethodHandle" ∧ yX0_fill.cls ≠ "java/lang/invoke/VarHandle" ∧ (parseMethodDescriptor yX0_fill.desc).map (fun d => d.parameters.length) = some 0 := ⟨rfl, hySX0_fill⟩
theorem qX0_fill_wX0 : ∀ w ∈ u_ws RX0 TX0 6, w ∈ wsX0_fill := by decide +kernel
theorem qX0_fill_f29 : Cond.fieldLink RX0 29 "KindParser$Chart" "cut" "LKindParser$Cut;" ∈ wsX0_fill := by decide +kernel
theorem qX0_fill_wX1 : ∀ w ∈ u_ws RX1 TX1 10, w ∈ wsX0_fill := by decide +kernel
set_option maxHeartbeats 4000000 in
set_option maxRecDepth 100000 in
theorem wlp_X0_fill_18 {l : Launch} {D : va_G} {cI cB cJ cZ : ClassId} {ad : Nat → Nat} {ws : va_W} {z : Nat} {g_size : Int32} {g_heads : Nat → Int32} {g_lengths : Nat → Int32} {g_symbols : Nat → Int32} {c_length : Int32} {c_size : Int32} {c_comments : Int32} {c_signs : Nat → Int32} (E : ws[1]? = some (ad 1, .inr (2, [.ref (ad 2), .ref (ad 3), .ref (ad 4), .ref (ad 5), .ref (ad 6), .ref (ad 7), .int g_size])) ∧ ws[2]? = some (ad 2, .inl (cI, 20, .inl g_heads)) ∧ ws[3]? = some (ad 3, .inl (cI, 20, .inl g_lengths)) ∧ ws[4]? = some (ad 4, .inl (cI, 100, .inl g_symbols)) ∧ ws[9]? = some (ad 9, .inr (1, [.ref (ad 10), .int c_length, .ref (ad 11), .ref (ad 12), .ref (ad 13), .ref (ad 14), .ref (ad 15), .ref (ad 16), .int c_size, .int c_comments])) ∧ ws[13]? = some (ad 13, .inl (cI, 16, .inl c_signs)) ∧ ws[17]? = some (ad 17, .inr (0, [.ref (ad 1), .ref (ad 9), .ref (ad 18), .ref (ad 19), .ref (ad 20), .ref (ad 21)]))) {o : (Nat → Int64) × (Nat → Int32) × (Nat → Int64)} {k59 : (Int32) → (Nat → Int64) → (Nat → Int32) → (Nat → Int64) → Option ((Nat → Int64) × (Nat → Int32) × (Nat → Int64))} (hk59 : ∀ (x1 : Int32) (h_prices : Nat → Int64) (h_choices : Nat → Int32) (h_begun : Nat → Int64), k59 x1 h_prices h_choices h_begun = some o → KW l xX0_fill D (kT cI cB cJ cZ) ws z (kQv D (kT cI cB cJ cZ) [(18, (ad 18, .inl (cJ, 4046, .inr (.inl o.1)))), (19, (ad 19, .inl (cB, 1734, .inl o.2.1))), (20, (ad 20, .inl (cJ, 2040, .inr (.inl o.2.2))))] ws z) 59 [(0, .ref (ad 17)), (1, .int x1)] [] [(18, (ad 18, .inl (cJ, 4046, .inr (.inl h_prices)))), (19, (ad 19, .inl (cB, 1734, .inl h_choices))), (20, (ad 20, .inl (cJ, 2040, .inr (.inl h_begun))))]) : ∀ (n : Nat) (x1 : Int32) (x2 : Int32) (h_prices : Nat → Int64) (h_choices : Nat → Int32) (h_begun : Nat → Int64), lp_X0_fill_18 g_size g_heads g_lengths g_symbols c_size c_signs k59 n x1 x2 h_prices h_choices h_begun = some o → KW l xX0_fill D (kT cI cB cJ cZ) ws z (kQv D (kT cI cB cJ cZ) [(18, (ad 18, .inl (cJ, 4046, .inr (.inl o.1)))), (19, (ad 19, .inl (cB, 1734, .inl o.2.1))), (20, (ad 20, .inl (cJ, 2040, .inr (.inl o.2.2))))] ws z) 18 [(0, .ref (ad 17)), (1, .int x1), (2, .int x2)] [] [(18, (ad 18, .inl (cJ, 4046, .inr (.inl h_prices)))), (19, (ad 19, .inl (cB, 1734, .inl h_choices))), (20, (ad 20, .inl (cJ, 2040, .inr (.inl h_begun))))] := by
  intro n
  induction n with
  | zero => intro x1 x2 h_prices h_choices h_begun h; exact absurd h (by simp [lp_X0_fill_18])
  | succ n hk18 =>
    intro x1 x2 h_prices h_choices h_begun h
    unfold lp_X0_fill_18 at h
    refine k_iload_n dX0_fill_18 2 rfl rfl ?_
    refine k_aload_n dX0_fill_19 0 rfl rfl ?_
    refine k_get 17 1 E.2.2.2.2.2.2 rfl qX0_fill_wX0 (by decide) qX0_fill_f29 rfl dX0_fill_20 ?_
    refine k_getN 9 8 E.2.2.2.2.1 rfl qX0_fill_wX1 (by decide) (host := "KindParser") (by decide +kernel) rfl dX0_fill_23 ?_
    refine k_icmp_gt 59 dX0_fill_26 (by decide) h (fun h => ?_) (fun h => ?_)
    · skip
      refine k_sub [0, 1] rfl ?_
      exact hk59 _ _ _ _ h
    · skip
      refine k_aload_n dX0_fill_29 0 rfl rfl ?_
      refine k_iload_n dX0_fill_30 1 rfl rfl ?_
      refine k_iload_n dX0_fill_31 2 rfl rfl ?_
      obtain ⟨r4, hr4, h⟩ := Option.bind_eq_some_iff.mp h
      refine k_callvV (As := [.int x1, .int x2]) (st := []) (Lc := [(18, (ad 18, .inl (cJ, 4046, .inr (.inl r4.1)))), (19, (ad 19, .inl (cB, 1734, .inl r4.2)))]) (L' := [(18, (ad 18, .inl (cJ, 4046, .inr (.inl r4.1)))), (19, (ad 19, .inl (cB, 1734, .inl r4.2))), (20, (ad 20, .inl (cJ, 2040, .inr (.inl h_begun))))]) gX0_fill_X0_forget rfl rfl rfl hyVX0_forget ⟨Nat.le_of_ble_eq_true rfl, Nat.le_of_ble_eq_true rfl⟩ rfl rfl (Nat.le_of_ble_eq_true rfl) 17 E.2.2.2.2.2.2 rfl dX0_fill_32 (fun w z hw => c_X0_forget (cI := cI) (cB := cB) (cJ := cJ) (cZ := cZ) (ad := ad) w z ((hw 17).trans E.2.2.2.2.2.2) (hw 18) (hw 19) hr4) rfl rfl ?_
      refine k_aload_n dX0_fill_35 0 rfl rfl ?_
      refine k_iload_n dX0_fill_36 1 rfl rfl ?_
      refine k_iload_n dX0_fill_37 2 rfl rfl ?_
      obtain ⟨r5, hr5, h⟩ := Option.bind_eq_some_iff.mp h
      refine k_callvV (As := [.int x1, .int x2]) (st := []) (Lc := [(20, (ad 20, .inl (cJ, 2040, .inr (.inl r5))))]) (L' := [(18, (ad 18, .inl (cJ, 4046, .inr (.inl r4.1)))), (19, (ad 19, .inl (cB, 1734, .inl r4.2))), (20, (ad 20, .inl (cJ, 2040, .inr (.inl r5))))]) gX0_fill_X0_joinInside rfl rfl rfl hyVX0_joinInside ⟨Nat.le_of_ble_eq_true rfl, Nat.le_of_ble_eq_true rfl⟩ rfl rfl (Nat.le_of_ble_eq_true rfl) 17 E.2.2.2.2.2.2 rfl dX0_fill_38 (fun w z hw => c_X0_joinInside (cI := cI) (cB := cB) (cJ := cJ) (cZ := cZ) (ad := ad) w z ⟨((hw 1).trans E.1), ((hw 3).trans E.2.2.1), ((hw 4).trans E.2.2.2.1), ((hw 17).trans E.2.2.2.2.2.2), (hw 18)⟩ (hw 20) hr5) rfl rfl ?_
      refine k_aload_n dX0_fill_41 0 rfl rfl ?_
      refine k_iload_n dX0_fill_42 1 rfl rfl ?_
      refine k_iload_n dX0_fill_43 2 rfl rfl ?_
      obtain ⟨r6, hr6, h⟩ := Option.bind_eq_some_iff.mp h
      refine k_callvV (As := [.int x1, .int x2]) (st := []) (Lc := [(18, (ad 18, .inl (cJ, 4046, .inr (.inl r6.1)))), (20, (ad 20, .inl (cJ, 2040, .inr (.inl r6.2))))]) (L' := [(18, (ad 18, .inl (cJ, 4046, .inr (.inl r6.1)))), (19, (ad 19, .inl (cB, 1734, .inl r4.2))), (20, (ad 20, .inl (cJ, 2040, .inr (.inl r6.2))))]) gX0_fill_X0_settle rfl rfl rfl hyVX0_settle ⟨Nat.le_of_ble_eq_true rfl, Nat.le_of_ble_eq_true rfl⟩ rfl rfl (Nat.le_of_ble_eq_true rfl) 17 E.2.2.2.2.2.2 rfl dX0_fill_44 (fun w z hw => c_X0_settle (cI := cI) (cB := cB) (cJ := cJ) (cZ := cZ) (ad := ad) w z ⟨((hw 1).trans E.1), ((hw 2).trans E.2.1), ((hw 3).trans E.2.2.1), ((hw 4).trans E.2.2.2.1), ((hw 17).trans E.2.2.2.2.2.2)⟩ (hw 18) (hw 20) hr6) rfl rfl ?_
      refine k_aload_n dX0_fill_47 0 rfl rfl ?_
      refine k_iload_n dX0_fill_48 1 rfl rfl ?_
      refine k_iload_n dX0_fill_49 2 rfl rfl ?_
      obtain ⟨r7, hr7, h⟩ := Option.bind_eq_some_iff.mp h
      refine k_callvV (As := [.int x1, .int x2]) (st := []) (Lc := [(19, (ad 19, .inl (cB, 1734, .inl r7)))]) (L' := [(18, (ad 18, .inl (cJ, 4046, .inr (.inl r6.1)))), (19, (ad 19, .inl (cB, 1734, .inl r7))), (20, (ad 20, .inl (cJ, 2040, .inr (.inl r6.2))))]) gX0_fill_X0_choose rfl rfl rfl hyVX0_choose ⟨Nat.le_of_ble_eq_true rfl, Nat.le_of_ble_eq_true rfl⟩ rfl rfl (Nat.le_of_ble_eq_true rfl) 17 E.2.2.2.2.2.2 rfl dX0_fill_50 (fun w z hw => c_X0_choose (cI := cI) (cB := cB) (cJ := cJ) (cZ := cZ) (ad := ad) w z ⟨((hw 1).trans E.1), ((hw 2).trans E.2.1), ((hw 3).trans E.2.2.1), ((hw 17).trans E.2.2.2.2.2.2), (hw 18), (hw 20)⟩ (hw 19) hr7) rfl rfl ?_
      refine k_iinc (i := 2) (lv' := fun x => [(2, .int x), (0, .ref (ad 17)), (1, .int x1)]) dX0_fill_53 2 rfl (Nat.le_of_ble_eq_true rfl) (fun _ => rfl) h (fun x2_8 h => ?_)
      refine k_goto 18 dX0_fill_56 (by decide) ?_
      refine k_sub [1, 2, 0] rfl ?_
      exact hk18 _ _ _ _ _ h
set_option maxHeartbeats 4000000 in
set_option maxRecDepth 100000 in
theorem wlp_X0_fill_12 {l : Launch} {D : va_G} {cI cB cJ cZ : ClassId} {ad : Nat → Nat} {ws : va_W} {z : Nat} {g_size : Int32} {g_heads : Nat → Int32} {g_lengths : Nat → Int32} {g_symbols : Nat → Int32} {c_length : Int32} {c_size : Int32} {c_comments : Int32} {c_signs : Nat → Int32} (E : ws[1]? = some (ad 1, .inr (2, [.ref (ad 2), .ref (ad 3), .ref (ad 4), .ref (ad 5), .ref (ad 6), .ref (ad 7), .int g_size])) ∧ ws[2]? = some (ad 2, .inl (cI, 20, .inl g_heads)) ∧ ws[3]? = some (ad 3, .inl (cI, 20, .inl g_lengths)) ∧ ws[4]? = some (ad 4, .inl (cI, 100, .inl g_symbols)) ∧ ws[9]? = some (ad 9, .inr (1, [.ref (ad 10), .int c_length, .ref (ad 11), .ref (ad 12), .ref (ad 13), .ref (ad 14), .ref (ad 15), .ref (ad 16), .int c_size, .int c_comments])) ∧ ws[13]? = some (ad 13, .inl (cI, 16, .inl c_signs)) ∧ ws[17]? = some (ad 17, .inr (0, [.ref (ad 1), .ref (ad 9), .ref (ad 18), .ref (ad 19), .ref (ad 20), .ref (ad 21)]))) {o : (Nat → Int64) × (Nat → Int32) × (Nat → Int64)} {k65 : (Nat → Int64) → (Nat → Int32) → (Nat → Int64) → Option ((Nat → Int64) × (Nat → Int32) × (Nat → Int64))} (hk65 : ∀ (h_prices : Nat → Int64) (h_choices : Nat → Int32) (h_begun : Nat → Int64), k65 h_prices h_choices h_begun = some o → KW l xX0_fill D (kT cI cB cJ cZ) ws z (kQv D (kT cI cB cJ cZ) [(18, (ad 18, .inl (cJ, 4046, .inr (.inl o.1)))), (19, (ad 19, .inl (cB, 1734, .inl o.2.1))), (20, (ad 20, .inl (cJ, 2040, .inr (.inl o.2.2))))] ws z) 65 [] [] [(18, (ad 18, .inl (cJ, 4046, .inr (.inl h_prices)))), (19, (ad 19, .inl (cB, 1734, .inl h_choices))), (20, (ad 20, .inl (cJ, 2040, .inr (.inl h_begun))))]) : ∀ (n : Nat) (x1 : Int32) (h_prices : Nat → Int64) (h_choices : Nat → Int32) (h_begun : Nat → Int64), lp_X0_fill_12 g_size g_heads g_lengths g_symbols c_size c_signs k65 n x1 h_prices h_choices h_begun = some o → KW l xX0_fill D (kT cI cB cJ cZ) ws z (kQv D (kT cI cB cJ cZ) [(18, (ad 18, .inl (cJ, 4046, .inr (.inl o.1)))), (19, (ad 19, .inl (cB, 1734, .inl o.2.1))), (20, (ad 20, .inl (cJ, 2040, .inr (.inl o.2.2))))] ws z) 12 [(0, .ref (ad 17)), (1, .int x1)] [] [(18, (ad 18, .inl (cJ, 4046, .inr (.inl h_prices)))), (19, (ad 19, .inl (cB, 1734, .inl h_choices))), (20, (ad 20, .inl (cJ, 2040, .inr (.inl h_begun))))] := by
  intro n
  induction n with
  | zero => intro x1 h_prices h_choices h_begun h; exact absurd h (by simp [lp_X0_fill_12])
  | succ n hk12 =>
    intro x1 h_prices h_choices h_begun h
    unfold lp_X0_fill_12 at h
    refine k_iload_n dX0_fill_12 1 rfl rfl ?_
    refine k_if_lt 65 dX0_fill_13 (by decide) h (fun h => ?_) (fun h => ?_)
    · skip
      refine k_sub [] rfl ?_
      exact hk65 _ _ _ h
    · skip
      refine k_iload_n dX0_fill_16 1 rfl rfl ?_
      refine k_istore_n (i := 2) (lv' := fun x => [(2, .int x), (0, .ref (ad 17)), (1, .int x1)]) dX0_fill_17 rfl (Nat.le_of_ble_eq_true rfl) (fun _ => rfl) h (fun x2_3 h => ?_)
      refine k_sub [1, 2, 0] rfl ?_
      refine wlp_X0_fill_18 (cI := cI) (cB := cB) (cJ := cJ) (cZ := cZ) (ad := ad) E ?_ FU _ _ _ _ _ h
      · intro x1 h_prices h_choices h_begun h
        refine k_iinc (i := 1) (lv' := fun x => [(1, .int x), (0, .ref (ad 17))]) dX0_fill_59 1 rfl (Nat.le_of_ble_eq_true rfl) (fun _ => rfl) h (fun x1_9 h => ?_)
        refine k_goto 12 dX0_fill_62 (by decide) ?_
        refine k_sub [1, 0] rfl ?_
        exact hk12 _ _ _ _ h
set_option maxHeartbeats 4000000 in
set_option maxRecDepth 100000 in
/-- KindParser$Chart.fill -/
theorem c_X0_fill {l : Launch} {D : va_G} {cI cB cJ cZ : ClassId} {ad : Nat → Nat} (ws : va_W) (z : Nat) {g_size : Int32} {g_heads : Nat → Int32} {g_lengths : Nat → Int32} {g_symbols : Nat → Int32} {c_length : Int32} {c_size : Int32} {c_comments : Int32} {c_signs : Nat → Int32} {h_prices : Nat → Int64} {h_choices : Nat → Int32} {h_begun : Nat → Int64} (E : ws[1]? = some (ad 1, .inr (2, [.ref (ad 2), .ref (ad 3), .ref (ad 4), .ref (ad 5), .ref (ad 6), .ref (ad 7), .int g_size])) ∧ ws[2]? = some (ad 2, .inl (cI, 20, .inl g_heads)) ∧ ws[3]? = some (ad 3, .inl (cI, 20, .inl g_lengths)) ∧ ws[4]? = some (ad 4, .inl (cI, 100, .inl g_symbols)) ∧ ws[9]? = some (ad 9, .inr (1, [.ref (ad 10), .int c_length, .ref (ad 11), .ref (ad 12), .ref (ad 13), .ref (ad 14), .ref (ad 15), .ref (ad 16), .int c_size, .int c_comments])) ∧ ws[13]? = some (ad 13, .inl (cI, 16, .inl c_signs)) ∧ ws[17]? = some (ad 17, .inr (0, [.ref (ad 1), .ref (ad 9), .ref (ad 18), .ref (ad 19), .ref (ad 20), .ref (ad 21)]))) (e18 : ws[18]? = some (ad 18, .inl (cJ, 4046, .inr (.inl h_prices)))) (e19 : ws[19]? = some (ad 19, .inl (cB, 1734, .inl h_choices))) (e20 : ws[20]? = some (ad 20, .inl (cJ, 2040, .inr (.inl h_begun))))  {o : (Nat → Int64) × (Nat → Int32) × (Nat → Int64)} (h : f_X0_fill g_size g_heads g_lengths g_symbols c_size c_signs h_prices h_choices h_begun = some o) : Met l yX0_fill wsX0_fill rmX0_fill (kPc D (kT cI cB cJ cZ) [.ref (ad 17)] ws z) (kQv D (kT cI cB cJ cZ) [(18, (ad 18, .inl (cJ, 4046, .inr (.inl o.1)))), (19, (ad 19, .inl (cB, 1734, .inl o.2.1))), (20, (ad 20, .inl (cJ, 2040, .inr (.inl o.2.2))))] ws z) 0 0 (va_A ws z) := by
  refine KW.met (rm := rmX0_fill) (lv := [(0, .ref (ad 17))]) (L := [(18, (ad 18, .inl (cJ, 4046, .inr (.inl h_prices)))), (19, (ad 19, .inl (cB, 1734, .inl h_choices))), (20, (ad 20, .inl (cJ, 2040, .inr (.inl h_begun))))]) rfl (by decide) (Nat.le_of_ble_eq_true rfl) rfl (by intro q hq; simp only [List.mem_cons, List.not_mem_nil, or_false] at hq; rcases hq with rfl | rfl | rfl <;> assumption) ?_
  unfold f_X0_fill at h
  show KW l xX0_fill D (kT cI cB cJ cZ) ws z (kQv D (kT cI cB cJ cZ) [(18, (ad 18, .inl (cJ, 4046, .inr (.inl o.1)))), (19, (ad 19, .inl (cB, 1734, .inl o.2.1))), (20, (ad 20, .inl (cJ, 2040, .inr (.inl o.2.2))))] ws z) 0 [(0, .ref (ad 17))] [] [(18, (ad 18, .inl (cJ, 4046, .inr (.inl h_prices)))), (19, (ad 19, .inl (cB, 1734, .inl h_choices))), (20, (ad 20, .inl (cJ, 2040, .inr (.inl h_begun))))]
  refine k_aload_n dX0_fill_0 0 rfl rfl ?_
  obtain ⟨r1, hr1, h⟩ := Option.bind_eq_some_iff.mp h
  refine k_callvV (As := []) (st := []) (Lc := [(18, (ad 18, .inl (cJ, 4046, .inr (.inl r1))))]) (L' := [(18, (ad 18, .inl (cJ, 4046, .inr (.inl r1)))), (19, (ad 19, .inl (cB, 1734, .inl h_choices))), (20, (ad 20, .inl (cJ, 2040, .inr (.inl h_begun))))]) gX0_fill_X0_priceLeaves rfl rfl rfl hyVX0_priceLeaves ⟨Nat.le_of_ble_eq_true rfl, Nat.le_of_ble_eq_true rfl⟩ rfl rfl (Nat.le_of_ble_eq_true rfl) 17 E.2.2.2.2.2.2 rfl dX0_fill_1 (fun w z hw => c_X0_priceLeaves (cI := cI) (cB := cB) (cJ := cJ) (cZ := cZ) (ad := ad) w z ⟨((hw 9).trans E.2.2.2.2.1), ((hw 13).trans E.2.2.2.2.2.1), ((hw 17).trans E.2.2.2.2.2.2)⟩ (hw 18) hr1) rfl rfl ?_
  refine k_aload_n dX0_fill_4 0 rfl rfl ?_
  refine k_get 17 1 E.2.2.2.2.2.2 rfl qX0_fill_wX0 (by decide) qX0_fill_f29 rfl dX0_fill_5 ?_
  refine k_getN 9 8 E.2.2.2.2.1 rfl qX0_fill_wX1 (by decide) (host := "KindParser") (by decide +kernel) rfl dX0_fill_8 ?_
  refine k_istore_n (i := 1) (lv' := fun x => [(1, .int x), (0, .ref (ad 17))]) dX0_fill_11 rfl (Nat.le_of_ble_eq_true rfl) (fun _ => rfl) h (fun x1_2 h => ?_)
  refine k_sub [1, 0] rfl ?_
  refine wlp_X0_fill_12 (cI := cI) (cB := cB) (cJ := cJ) (cZ := cZ) (ad := ad) E ?_ FU _ _ _ _ h
  · intro h_prices h_choices h_begun h
    obtain rfl := Option.some.inj h
    exact k_vret rfl dX0_fill_65
abbrev rmX0_ruleFor : Room := { frames := 1, cells := 0, slots := 0, locals := 22 }
abbrev xX0_ruleFor : KX := (rmX0_ruleFor, cX0_ruleFor, 4, some .int, RX0, wsX0_ruleFor)
theorem hySX0_ruleFor : yX0_ruleFor.cls ≠ "java/lang/invoke/MethodHandle" ∧ yX0_ruleFor.cls ≠ "java/lang/invoke/VarHandle" ∧ (parseMethodDescriptor yX0_ruleFor.desc).map (fun d => d.parameters.length) = some 3 := by decide +kernel
theorem hyVX0_ruleFor : yX0_ruleFor.cls = RX0 ∧ yX0_ruleFor.cls ≠ "java/lang/invoke/MethodHandle" ∧ yX0_ruleFor.cls ≠ "java/lang/invoke/VarHandle" ∧ (parseMethodDescriptor yX0_ruleFor.desc).map (fun d => d.parameters.length) = some 3 := ⟨rfl, hySX0_ruleFor⟩
theorem qX0_ruleFor_wX0 : ∀ w ∈ u_ws RX0 TX0 6, w ∈ wsX0_ruleFor := by decide +kernel
theorem qX0_ruleFor_f15 : Cond.fieldLink RX0 15 "KindParser$Chart" "choices" "[B" ∈ wsX0_ruleFor := by decide +kernel
set_option maxHeartbeats 4000000 in
set_option maxRecDepth 100000 in
/-- KindParser$Chart.ruleFor -/
theorem c_X0_ruleFor {l : Launch} {D : va_G} {cI cB cJ cZ : ClassId} {ad : Nat → Nat} (ws : va_W) (z : Nat) {h_choices : Nat → Int32} (E : ws[17]? = some (ad 17, .inr (0, [.ref (ad 1), .ref (ad 9), .ref (ad 18), .ref (ad 19), .ref (ad 20), .ref (ad 21)])) ∧ ws[19]? = some (ad 19, .inl (cB, 1734, .inl h_choices)))  {a1 : Int32} {a2 : Int32} {a3 : Int32} {o : Int32} (h : f_X0_ruleFor a1 a2 a3 h_choices = some o) : Met l yX0_ruleFor wsX0_ruleFor rmX0_ruleFor (kPc D (kT cI cB cJ cZ) [.ref (ad 17), .int a1, .int a2, .int a3] ws z) (kQi D (kT cI cB cJ cZ) o [] ws z) 0 0 (va_A ws z) := by
  refine KW.met (rm := rmX0_ruleFor) (lv := [(0, .ref (ad 17)), (1, .int a1), (2, .int a2), (3, .int a3)]) (L := []) rfl (by decide) (Nat.le_of_ble_eq_true rfl) rfl (fun q hq => by cases hq) ?_
  unfold f_X0_ruleFor at h
  show KW l xX0_ruleFor D (kT cI cB cJ cZ) ws z (kQi D (kT cI cB cJ cZ) o [] ws z) 0 [(0, .ref (ad 17)), (1, .int a1), (2, .int a2), (3, .int a3)] [] []
  refine k_aload_n dX0_ruleFor_0 0 rfl rfl ?_
  refine k_get 17 3 E.1 rfl qX0_ruleFor_wX0 (by decide) qX0_ruleFor_f15 rfl dX0_ruleFor_1 ?_
  refine k_iload_n dX0_ruleFor_4 1 rfl rfl ?_
  refine k_iload_n dX0_ruleFor_5 2 rfl rfl ?_
  refine k_iload_n dX0_ruleFor_6 3 rfl rfl ?_
  obtain ⟨r1, hr1, h⟩ := Option.bind_eq_some_iff.mp h
  refine k_calliS (As := [.int a1, .int a2, .int a3]) (st := [.ref (ad 19)]) (Lc := []) (L' := []) (r := r1) gX0_ruleFor_X0_choiceSpot rfl rfl rfl hySX0_choiceSpot ⟨Nat.le_of_ble_eq_true rfl, Nat.le_of_ble_eq_true rfl⟩ rfl rfl (Nat.le_of_ble_eq_true rfl) dX0_ruleFor_7 (fun w z hw => c_X0_choiceSpot (cI := cI) (cB := cB) (cJ := cJ) (cZ := cZ) (ad := ad) w z trivial  hr1) rfl rfl ?_
  refine k_bald 19 1 E.2 rfl dX0_ruleFor_10 h (fun v2 h => ?_)
  obtain rfl := Option.some.inj h
  exact k_iret rfl dX0_ruleFor_11
abbrev rmX0_costOf : Room := { frames := 1, cells := 0, slots := 0, locals := 22 }
abbrev xX0_costOf : KX := (rmX0_costOf, cX0_costOf, 4, some .int, RX0, wsX0_costOf)
theorem hySX0_costOf : yX0_costOf.cls ≠ "java/lang/invoke/MethodHandle" ∧ yX0_costOf.cls ≠ "java/lang/invoke/VarHandle" ∧ (parseMethodDescriptor yX0_costOf.desc).map (fun d => d.parameters.length) = some 3 := by decide +kernel
theorem hyVX0_costOf : yX0_costOf.cls = RX0 ∧ yX0_costOf.cls ≠ "java/lang/invoke/MethodHandle" ∧ yX0_costOf.cls ≠ "java/lang/invoke/VarHandle" ∧ (parseMethodDescriptor yX0_costOf.desc).map (fun d => d.parameters.length) = some 3 := ⟨rfl, hySX0_costOf⟩
theorem qX0_costOf_wX0 : ∀ w ∈ u_ws RX0 TX0 6, w ∈ wsX0_costOf := by decide +kernel
theorem qX0_costOf_f11 : Cond.fieldLink RX0 11 "KindParser$Chart" "prices" "[J" ∈ wsX0_costOf := by decide +kernel
set_option maxHeartbeats 4000000 in
set_option maxRecDepth 100000 in
/-- KindParser$Chart.costOf -/
theorem c_X0_costOf {l : Launch} {D : va_G} {cI cB cJ cZ : ClassId} {ad : Nat → Nat} (ws : va_W) (z : Nat) {h_prices : Nat → Int64} (E : ws[17]? = some (ad 17, .inr (0, [.ref (ad 1), .ref (ad 9), .ref (ad 18), .ref (ad 19), .ref (ad 20), .ref (ad 21)])) ∧ ws[18]? = some (ad 18, .inl (cJ, 4046, .inr (.inl h_prices))))  {a1 : Int32} {a2 : Int32} {a3 : Int32} {o : Int32} (h : f_X0_costOf a1 a2 a3 h_prices = some o) : Met l yX0_costOf wsX0_costOf rmX0_costOf (kPc D (kT cI cB cJ cZ) [.ref (ad 17), .int a1, .int a2, .int a3] ws z) (kQi D (kT cI cB cJ cZ) o [] ws z) 0 0 (va_A ws z) := by
  refine KW.met (rm := rmX0_costOf) (lv := [(0, .ref (ad 17)), (1, .int a1), (2, .int a2), (3, .int a3)]) (L := []) rfl (by decide) (Nat.le_of_ble_eq_true rfl) rfl (fun q hq => by cases hq) ?_
  unfold f_X0_costOf at h
  show KW l xX0_costOf D (kT cI cB cJ cZ) ws z (kQi D (kT cI cB cJ cZ) o [] ws z) 0 [(0, .ref (ad 17)), (1, .int a1), (2, .int a2), (3, .int a3)] [] []
  refine k_aload_n dX0_costOf_0 0 rfl rfl ?_
  refine k_get 17 2 E.1 rfl qX0_costOf_wX0 (by decide) qX0_costOf_f11 rfl dX0_costOf_1 ?_
  refine k_iload_n dX0_costOf_4 1 rfl rfl ?_
  refine k_iload_n dX0_costOf_5 2 rfl rfl ?_
  refine k_iload_n dX0_costOf_6 3 rfl rfl ?_
  obtain ⟨r1, hr1, h⟩ := Option.bind_eq_some_iff.mp h
  refine k_calliS (As := [.int a1, .int a2, .int a3]) (st := [.ref (ad 18)]) (Lc := []) (L' := []) (r := r1) gX0_costOf_X0_spot rfl rfl rfl hySX0_spot ⟨Nat.le_of_ble_eq_true rfl, Nat.le_of_ble_eq_true rfl⟩ rfl rfl (Nat.le_of_ble_eq_true rfl) dX0_costOf_7 (fun w z hw => c_X0_spot (cI := cI) (cB := cB) (cJ := cJ) (cZ := cZ) (ad := ad) w z trivial  hr1) rfl rfl ?_
  refine k_lald 18 2 E.2 rfl dX0_costOf_10 h (fun v2 h => ?_)
  refine k_bipush (v := 32) dX0_costOf_11 (by decide) ?_
  refine k_lshr dX0_costOf_13 ?_
  refine k_l2i dX0_costOf_14 ?_
  obtain rfl := Option.some.inj h
  exact k_iret rfl dX0_costOf_15
abbrev rmX0_treeEnd : Room := { frames := 1, cells := 0, slots := 0, locals := 22 }
abbrev xX0_treeEnd : KX := (rmX0_treeEnd, cX0_treeEnd, 7, some .int, RX0, wsX0_treeEnd)
theorem hySX0_treeEnd : yX0_treeEnd.cls ≠ "java/lang/invoke/MethodHandle" ∧ yX0_treeEnd.cls ≠ "java/lang/invoke/VarHandle" ∧ (parseMethodDescriptor yX0_treeEnd.desc).map (fun d => d.parameters.length) = some 0 := by decide +kernel
theorem hyVX0_treeEnd : yX0_treeEnd.cls = RX0 ∧ yX0_treeEnd.cls ≠ "java/lang/invoke/MethodHandle" ∧ yX0_treeEnd.cls ≠ "java/lang/invoke/VarHandle" ∧ (parseMethodDescriptor yX0_treeEnd.desc).map (fun d => d.parameters.length) = some 0 := ⟨rfl, hySX0_treeEnd⟩
theorem qX0_treeEnd_k65 : Cond.constantLong RX0 65 1152921504606846976 ∈ wsX0_treeEnd := by decide +kernel
theorem qX0_treeEnd_wX0 : ∀ w ∈ u_ws RX0 TX0 6, w ∈ wsX0_treeEnd := by decide +kernel
theorem qX0_treeEnd_f29 : Cond.fieldLink RX0 29 "KindParser$Chart" "cut" "LKindParser$Cut;" ∈ wsX0_treeEnd := by decide +kernel
theorem qX0_treeEnd_wX1 : ∀ w ∈ u_ws RX1 TX1 10, w ∈ wsX0_treeEnd := by decide +kernel
theorem qX0_treeEnd_f11 : Cond.fieldLink RX0 11 "KindParser$Chart" "prices" "[J" ∈ wsX0_treeEnd := by decide +kernel
set_option maxHeartbeats 4000000 in
set_option maxRecDepth 100000 in
theorem wjn_X0_treeEnd_64 {l : Launch} {D : va_G} {cI cB cJ cZ : ClassId} {ad : Nat → Nat} {ws : va_W} {z : Nat} {c_length : Int32} {c_size : Int32} {c_comments : Int32} {h_prices : Nat → Int64} (E : ws[9]? = some (ad 9, .inr (1, [.ref (ad 10), .int c_length, .ref (ad 11), .ref (ad 12), .ref (ad 13), .ref (ad 14), .ref (ad 15), .ref (ad 16), .int c_size, .int c_comments])) ∧ ws[17]? = some (ad 17, .inr (0, [.ref (ad 1), .ref (ad 9), .ref (ad 18), .ref (ad 19), .ref (ad 20), .ref (ad 21)])) ∧ ws[18]? = some (ad 18, .inl (cJ, 4046, .inr (.inl h_prices)))) {o : Int32} {k9 : (Int64) → (Int32) → (Int32) → Option (Int32)} (hk9 : ∀ (x1 : Int64) (x3 : Int32) (x4 : Int32), k9 x1 x3 x4 = some o → KW l xX0_treeEnd D (kT cI cB cJ cZ) ws z (kQi D (kT cI cB cJ cZ) o [] ws z) 9 [(0, .ref (ad 17)), (1, .long x1), (3, .int x3), (4, .int x4)] [] []) : ∀ (x1 : Int64) (x3 : Int32) (x4 : Int32), jn_X0_treeEnd_64 c_size h_prices k9 x1 x3 x4 = some o → KW l xX0_treeEnd D (kT cI cB cJ cZ) ws z (kQi D (kT cI cB cJ cZ) o [] ws z) 64 [(0, .ref (ad 17)), (1, .long x1), (3, .int x3), (4, .int x4)] [] [] := by
  intro x1 x3 x4 h
  unfold jn_X0_treeEnd_64 at h
  refine k_iinc (i := 4) (lv' := fun x => [(4, .int x), (0, .ref (ad 17)), (1, .long x1), (3, .int x3)]) dX0_treeEnd_64 3 rfl (Nat.le_of_ble_eq_true rfl) (fun _ => rfl) h (fun x4_7 h => ?_)
  refine k_goto 9 dX0_treeEnd_67 (by decide) ?_
  refine k_sub [1, 2, 3, 0] rfl ?_
  exact hk9 _ _ _ h
set_option maxHeartbeats 4000000 in
set_option maxRecDepth 100000 in
theorem wlp_X0_treeEnd_9 {l : Launch} {D : va_G} {cI cB cJ cZ : ClassId} {ad : Nat → Nat} {ws : va_W} {z : Nat} {c_length : Int32} {c_size : Int32} {c_comments : Int32} {h_prices : Nat → Int64} (E : ws[9]? = some (ad 9, .inr (1, [.ref (ad 10), .int c_length, .ref (ad 11), .ref (ad 12), .ref (ad 13), .ref (ad 14), .ref (ad 15), .ref (ad 16), .int c_size, .int c_comments])) ∧ ws[17]? = some (ad 17, .inr (0, [.ref (ad 1), .ref (ad 9), .ref (ad 18), .ref (ad 19), .ref (ad 20), .ref (ad 21)])) ∧ ws[18]? = some (ad 18, .inl (cJ, 4046, .inr (.inl h_prices)))) {o : Int32} {k70 : (Int32) → Option (Int32)} (hk70 : ∀ (x3 : Int32), k70 x3 = some o → KW l xX0_treeEnd D (kT cI cB cJ cZ) ws z (kQi D (kT cI cB cJ cZ) o [] ws z) 70 [(3, .int x3)] [] []) : ∀ (n : Nat) (x1 : Int64) (x3 : Int32) (x4 : Int32), lp_X0_treeEnd_9 c_size h_prices k70 n x1 x3 x4 = some o → KW l xX0_treeEnd D (kT cI cB cJ cZ) ws z (kQi D (kT cI cB cJ cZ) o [] ws z) 9 [(0, .ref (ad 17)), (1, .long x1), (3, .int x3), (4, .int x4)] [] [] := by
  intro n
  induction n with
  | zero => intro x1 x3 x4 h; exact absurd h (by simp [lp_X0_treeEnd_9])
  | succ n hk9 =>
    intro x1 x3 x4 h
    unfold lp_X0_treeEnd_9 at h
    refine k_iload dX0_treeEnd_9 3 rfl ?_
    refine k_aload_n dX0_treeEnd_11 0 rfl rfl ?_
    refine k_get 17 1 E.2.1 rfl qX0_treeEnd_wX0 (by decide) qX0_treeEnd_f29 rfl dX0_treeEnd_12 ?_
    refine k_getN 9 8 E.1 rfl qX0_treeEnd_wX1 (by decide) (host := "KindParser") (by decide +kernel) rfl dX0_treeEnd_15 ?_
    refine k_icmp_gt 70 dX0_treeEnd_18 (by decide) h (fun h => ?_) (fun h => ?_)
    · skip
      refine k_sub [2] rfl ?_
      exact hk70 _ h
    · skip
      refine k_aload_n dX0_treeEnd_21 0 rfl rfl ?_
      refine k_get 17 2 E.2.1 rfl qX0_treeEnd_wX0 (by decide) qX0_treeEnd_f11 rfl dX0_treeEnd_22 ?_
      refine k_bipush (v := 9) dX0_treeEnd_25 (by decide) ?_
      refine k_iconst (v := 0) dX0_treeEnd_27 (by decide) ?_
      refine k_iload dX0_treeEnd_28 3 rfl ?_
      obtain ⟨r4, hr4, h⟩ := Option.bind_eq_some_iff.mp h
      refine k_calliS (As := [.int 9, .int 0, .int x4]) (st := [.ref (ad 18)]) (Lc := []) (L' := []) (r := r4) gX0_treeEnd_X0_spot rfl rfl rfl hySX0_spot ⟨Nat.le_of_ble_eq_true rfl, Nat.le_of_ble_eq_true rfl⟩ rfl rfl (Nat.le_of_ble_eq_true rfl) dX0_treeEnd_30 (fun w z hw => c_X0_spot (cI := cI) (cB := cB) (cJ := cJ) (cZ := cZ) (ad := ad) w z trivial  hr4) rfl rfl ?_
      refine k_lald 18 2 E.2.2 rfl dX0_treeEnd_33 h (fun v5 h => ?_)
      refine k_aload_n dX0_treeEnd_34 0 rfl rfl ?_
      refine k_get 17 1 E.2.1 rfl qX0_treeEnd_wX0 (by decide) qX0_treeEnd_f29 rfl dX0_treeEnd_35 ?_
      refine k_getN 9 8 E.1 rfl qX0_treeEnd_wX1 (by decide) (host := "KindParser") (by decide +kernel) rfl dX0_treeEnd_38 ?_
      refine k_iload dX0_treeEnd_41 3 rfl ?_
      refine k_isub dX0_treeEnd_43 ?_
      refine k_i2l dX0_treeEnd_44 ?_
      refine k_bipush (v := 32) dX0_treeEnd_45 (by decide) ?_
      refine k_lshl dX0_treeEnd_47 ?_
      refine k_ladd dX0_treeEnd_48 ?_
      refine k_lstore (i := 5) (lv' := fun x => [(5, .long x), (0, .ref (ad 17)), (1, .long x1), (3, .int x3), (4, .int x4)]) dX0_treeEnd_49 (Nat.le_of_ble_eq_true rfl) (fun _ => rfl) h (fun x5_6 h => ?_)
      refine k_lload dX0_treeEnd_51 0 rfl ?_
      refine k_lload_n dX0_treeEnd_53 2 rfl rfl ?_
      refine k_lcmp dX0_treeEnd_54 ?_
      refine k_if_gt 64 dX0_treeEnd_55 (by decide) h (fun h => ?_) (fun h => ?_)
      · skip
        refine k_sub [1, 2, 3, 4] rfl ?_
        exact wjn_X0_treeEnd_64 (cI := cI) (cB := cB) (cJ := cJ) (cZ := cZ) (ad := ad) E hk9 _ _ _ h
      · skip
        refine k_lload dX0_treeEnd_58 0 rfl ?_
        refine k_lstore_n (i := 1) (lv' := fun x => [(1, .long x), (5, .long x5_6), (0, .ref (ad 17)), (3, .int x3), (4, .int x4)]) dX0_treeEnd_60 rfl (Nat.le_of_ble_eq_true rfl) (fun _ => rfl) h (fun x1_8 h => ?_)
        refine k_iload dX0_treeEnd_61 4 rfl ?_
        refine k_istore_n (i := 3) (lv' := fun x => [(3, .int x), (1, .long x1_8), (5, .long x5_6), (0, .ref (ad 17)), (4, .int x4)]) dX0_treeEnd_63 rfl (Nat.le_of_ble_eq_true rfl) (fun _ => rfl) h (fun x3_9 h => ?_)
        refine k_sub [3, 1, 0, 4] rfl ?_
        exact wjn_X0_treeEnd_64 (cI := cI) (cB := cB) (cJ := cJ) (cZ := cZ) (ad := ad) E hk9 _ _ _ h
set_option maxHeartbeats 4000000 in
set_option maxRecDepth 100000 in
/-- KindParser$Chart.treeEnd -/
theorem c_X0_treeEnd {l : Launch} {D : va_G} {cI cB cJ cZ : ClassId} {ad : Nat → Nat} (ws : va_W) (z : Nat) {c_length : Int32} {c_size : Int32} {c_comments : Int32} {h_prices : Nat → Int64} (E : ws[9]? = some (ad 9, .inr (1, [.ref (ad 10), .int c_length, .ref (ad 11), .ref (ad 12), .ref (ad 13), .ref (ad 14), .ref (ad 15), .ref (ad 16), .int c_size, .int c_comments])) ∧ ws[17]? = some (ad 17, .inr (0, [.ref (ad 1), .ref (ad 9), .ref (ad 18), .ref (ad 19), .ref (ad 20), .ref (ad 21)])) ∧ ws[18]? = some (ad 18, .inl (cJ, 4046, .inr (.inl h_prices))))   {o : Int32} (h : f_X0_treeEnd c_size h_prices = some o) : Met l yX0_treeEnd wsX0_treeEnd rmX0_treeEnd (kPc D (kT cI cB cJ cZ) [.ref (ad 17)] ws z) (kQi D (kT cI cB cJ cZ) o [] ws z) 0 0 (va_A ws z) := by
  refine KW.met (rm := rmX0_treeEnd) (lv := [(0, .ref (ad 17))]) (L := []) rfl (by decide) (Nat.le_of_ble_eq_true rfl) rfl (fun q hq => by cases hq) ?_
  unfold f_X0_treeEnd at h
  show KW l xX0_treeEnd D (kT cI cB cJ cZ) ws z (kQi D (kT cI cB cJ cZ) o [] ws z) 0 [(0, .ref (ad 17))] [] []
  refine k_ldc2 (v := 1152921504606846976) dX0_treeEnd_0 qX0_treeEnd_k65 ?_
  refine k_lstore_n (i := 1) (lv' := fun x => [(1, .long x), (0, .ref (ad 17))]) dX0_treeEnd_3 rfl (Nat.le_of_ble_eq_true rfl) (fun _ => rfl) h (fun x1_1 h => ?_)
  refine k_iconst (v := 0) dX0_treeEnd_4 (by decide) ?_
  refine k_istore_n (i := 3) (lv' := fun x => [(3, .int x), (1, .long x1_1), (0, .ref (ad 17))]) dX0_treeEnd_5 rfl (Nat.le_of_ble_eq_true rfl) (fun _ => rfl) h (fun x3_2 h => ?_)
  refine k_iconst (v := 0) dX0_treeEnd_6 (by decide) ?_
  refine k_istore (i := 4) (lv' := fun x => [(4, .int x), (3, .int x3_2), (1, .long x1_1), (0, .ref (ad 17))]) dX0_treeEnd_7 (Nat.le_of_ble_eq_true rfl) (fun _ => rfl) h (fun x4_3 h => ?_)
  refine k_sub [3, 2, 1, 0] rfl ?_
  refine wlp_X0_treeEnd_9 (cI := cI) (cB := cB) (cJ := cJ) (cZ := cZ) (ad := ad) E ?_ FU _ _ _ h
  · intro x3 h
    refine k_iload_n dX0_treeEnd_70 0 rfl rfl ?_
    obtain rfl := Option.some.inj h
    exact k_iret rfl dX0_treeEnd_71
abbrev rmX0_trace : Room := { frames := 1, cells := 0, slots := 0, locals := 23 }
abbrev xX0_trace : KX := (rmX0_trace, cX0_trace, 11, none, RX0, wsX0_trace)
theorem hySX0_trace : yX0_trace.cls ≠ "java/lang/invoke/MethodHandle" ∧ yX0_trace.cls ≠ "java/lang/invoke/VarHandle" ∧ (parseMethodDescriptor yX0_trace.desc).map (fun d => d.parameters.length) = some 3 := by decide +kernel
theorem hyVX0_trace : yX0_trace.cls = RX0 ∧ yX0_trace.cls ≠ "java/lang/invoke/MethodHandle" ∧ yX0_trace.cls ≠ "java/lang/invoke/VarHandle" ∧ (parseMethodDescriptor yX0_trace.desc).map (fun d => d.parameters.length) = some 3 := ⟨rfl, hySX0_trace⟩
theorem qX0_trace_wX0 : ∀ w ∈ u_ws RX0 TX0 6, w ∈ wsX0_trace := by decide +kernel
theorem qX0_trace_f22 : Cond.fieldLink RX0 22 "KindParser$Chart" "traced" "[J" ∈ wsX0_trace := by decide +kernel
theorem qX0_trace_k65 : Cond.constantLong RX0 65 1152921504606846976 ∈ wsX0_trace := by decide +kernel
theorem qX0_trace_f25 : Cond.fieldLink RX0 25 "KindParser$Chart" "grammar" "LKindParser$Grammar;" ∈ wsX0_trace := by decide +kernel
theorem qX0_trace_wX2 : ∀ w ∈ u_ws RX2 TX2 7, w ∈ wsX0_trace := by decide +kernel
theorem qX0_trace_f11 : Cond.fieldLink RX0 11 "KindParser$Chart" "prices" "[J" ∈ wsX0_trace := by decide +kernel
theorem qX0_trace_m88 : Cond.methodLink RX0 88 Lib.MathLoose.min_long.x ∈ wsX0_trace := by decide +kernel
theorem qX0_trace_ms88 : Cond.static Lib.MathLoose.min_long.x ∈ wsX0_trace := by decide +kernel
theorem qX0_trace_iMath : Cond.initialized "java/lang/Math" ∈ wsX0_trace := by decide +kernel
theorem qX0_trace_mc88 : Cond.code Lib.MathLoose.min_long.x Lib.MathLoose.min_long.code 4 (some .long) ∈ wsX0_trace := by decide +kernel
set_option maxHeartbeats 4000000 in
set_option maxRecDepth 100000 in
theorem wjn_X0_trace_28 {l : Launch} {D : va_G} {cI cB cJ cZ : ClassId} {ad : Nat → Nat} {ws : va_W} {z : Nat} {g_size : Int32} {g_lengths : Nat → Int32} {g_symbols : Nat → Int32} {h_prices : Nat → Int64} (E : ws[1]? = some (ad 1, .inr (2, [.ref (ad 2), .ref (ad 3), .ref (ad 4), .ref (ad 5), .ref (ad 6), .ref (ad 7), .int g_size])) ∧ ws[3]? = some (ad 3, .inl (cI, 20, .inl g_lengths)) ∧ ws[4]? = some (ad 4, .inl (cI, 100, .inl g_symbols)) ∧ ws[17]? = some (ad 17, .inr (0, [.ref (ad 1), .ref (ad 9), .ref (ad 18), .ref (ad 19), .ref (ad 20), .ref (ad 21)])) ∧ ws[18]? = some (ad 18, .inl (cJ, 4046, .inr (.inl h_prices)))) {o : (Nat → Int64)} {k3 : (Int32) → (Int32) → (Int32) → (Int32) → (Nat → Int64) → Option ((Nat → Int64))} (hk3 : ∀ (x1 : Int32) (x2 : Int32) (x3 : Int32) (x4 : Int32) (h_traced : Nat → Int64), k3 x1 x2 x3 x4 h_traced = some o → KW l xX0_trace D (kT cI cB cJ cZ) ws z (kQv D (kT cI cB cJ cZ) [(21, (ad 21, .inl (cJ, 102, .inr (.inl o))))] ws z) 3 [(0, .ref (ad 17)), (1, .int x1), (2, .int x2), (3, .int x3), (4, .int x4)] [] [(21, (ad 21, .inl (cJ, 102, .inr (.inl h_traced))))]) : ∀ (x1 : Int32) (x2 : Int32) (x3 : Int32) (x4 : Int32) (s1 : Int32) (s2 : Int64) (h_traced : Nat → Int64), jn_X0_trace_28 g_lengths g_symbols h_prices k3 x1 x2 x3 x4 s1 s2 h_traced = some o → KW l xX0_trace D (kT cI cB cJ cZ) ws z (kQv D (kT cI cB cJ cZ) [(21, (ad 21, .inl (cJ, 102, .inr (.inl o))))] ws z) 28 [(0, .ref (ad 17)), (1, .int x1), (2, .int x2), (3, .int x3), (4, .int x4)] [.long s2, .int s1, .ref (ad 21)] [(21, (ad 21, .inl (cJ, 102, .inr (.inl h_traced))))] := by
  intro x1 x2 x3 x4 s1 s2 h_traced h
  unfold jn_X0_trace_28 at h
  refine k_last (L' := fun f => [(21, (ad 21, .inl (cJ, 102, .inr (.inl f))))]) 21 2 rfl rfl rfl dX0_trace_28 h (fun _ => rfl) (fun h_traced_2 h => ?_)
  refine k_iinc (i := 4) (lv' := fun x => [(4, .int x), (0, .ref (ad 17)), (1, .int x1), (2, .int x2), (3, .int x3)]) dX0_trace_29 4 rfl (Nat.le_of_ble_eq_true rfl) (fun _ => rfl) h (fun x4_3 h => ?_)
  refine k_goto 3 dX0_trace_32 (by decide) ?_
  refine k_sub [1, 2, 3, 4, 0] rfl ?_
  exact hk3 _ _ _ _ _ h
set_option maxHeartbeats 4000000 in
set_option maxRecDepth 100000 in
theorem wlp_X0_trace_3 {l : Launch} {D : va_G} {cI cB cJ cZ : ClassId} {ad : Nat → Nat} {ws : va_W} {z : Nat} {g_size : Int32} {g_lengths : Nat → Int32} {g_symbols : Nat → Int32} {h_prices : Nat → Int64} (E : ws[1]? = some (ad 1, .inr (2, [.ref (ad 2), .ref (ad 3), .ref (ad 4), .ref (ad 5), .ref (ad 6), .ref (ad 7), .int g_size])) ∧ ws[3]? = some (ad 3, .inl (cI, 20, .inl g_lengths)) ∧ ws[4]? = some (ad 4, .inl (cI, 100, .inl g_symbols)) ∧ ws[17]? = some (ad 17, .inr (0, [.ref (ad 1), .ref (ad 9), .ref (ad 18), .ref (ad 19), .ref (ad 20), .ref (ad 21)])) ∧ ws[18]? = some (ad 18, .inl (cJ, 4046, .inr (.inl h_prices)))) {o : (Nat → Int64)} {k35 : (Int32) → (Int32) → (Int32) → (Nat → Int64) → Option ((Nat → Int64))} (hk35 : ∀ (x1 : Int32) (x2 : Int32) (x3 : Int32) (h_traced : Nat → Int64), k35 x1 x2 x3 h_traced = some o → KW l xX0_trace D (kT cI cB cJ cZ) ws z (kQv D (kT cI cB cJ cZ) [(21, (ad 21, .inl (cJ, 102, .inr (.inl o))))] ws z) 35 [(0, .ref (ad 17)), (1, .int x1), (2, .int x2), (3, .int x3)] [] [(21, (ad 21, .inl (cJ, 102, .inr (.inl h_traced))))]) : ∀ (n : Nat) (x1 : Int32) (x2 : Int32) (x3 : Int32) (x4 : Int32) (h_traced : Nat → Int64), lp_X0_trace_3 g_lengths g_symbols h_prices k35 n x1 x2 x3 x4 h_traced = some o → KW l xX0_trace D (kT cI cB cJ cZ) ws z (kQv D (kT cI cB cJ cZ) [(21, (ad 21, .inl (cJ, 102, .inr (.inl o))))] ws z) 3 [(0, .ref (ad 17)), (1, .int x1), (2, .int x2), (3, .int x3), (4, .int x4)] [] [(21, (ad 21, .inl (cJ, 102, .inr (.inl h_traced))))] := by
  intro n
  induction n with
  | zero => intro x1 x2 x3 x4 h_traced h; exact absurd h (by simp [lp_X0_trace_3])
  | succ n hk3 =>
    intro x1 x2 x3 x4 h_traced h
    unfold lp_X0_trace_3 at h
    refine k_iload dX0_trace_3 4 rfl ?_
    refine k_iload_n dX0_trace_5 3 rfl rfl ?_
    refine k_icmp_gt 35 dX0_trace_6 (by decide) h (fun h => ?_) (fun h => ?_)
    · skip
      refine k_sub [0, 1, 2, 3] rfl ?_
      exact hk35 _ _ _ _ h
    · skip
      refine k_aload_n dX0_trace_9 0 rfl rfl ?_
      refine k_get 17 5 E.2.2.2.1 rfl qX0_trace_wX0 (by decide) qX0_trace_f22 rfl dX0_trace_10 ?_
      refine k_iload dX0_trace_13 4 rfl ?_
      refine k_iload dX0_trace_15 4 rfl ?_
      refine k_iload_n dX0_trace_17 2 rfl rfl ?_
      refine k_icmp_ne 25 dX0_trace_18 (by decide) h (fun h => ?_) (fun h => ?_)
      · skip
        refine k_lconst (v := 0) dX0_trace_21 (by decide) ?_
        refine k_goto 28 dX0_trace_22 (by decide) ?_
        refine k_sub [0, 1, 2, 3, 4] rfl ?_
        exact wjn_X0_trace_28 (cI := cI) (cB := cB) (cJ := cJ) (cZ := cZ) (ad := ad) E hk3 _ _ _ _ _ _ _ h
      · skip
        refine k_ldc2 (v := 1152921504606846976) dX0_trace_25 qX0_trace_k65 ?_
        refine k_sub [0, 1, 2, 3, 4] rfl ?_
        exact wjn_X0_trace_28 (cI := cI) (cB := cB) (cJ := cJ) (cZ := cZ) (ad := ad) E hk3 _ _ _ _ _ _ _ h
set_option maxHeartbeats 4000000 in
set_option maxRecDepth 100000 in
theorem wlp_X0_trace_88 {l : Launch} {D : va_G} {cI cB cJ cZ : ClassId} {ad : Nat → Nat} {ws : va_W} {z : Nat} {g_size : Int32} {g_lengths : Nat → Int32} {g_symbols : Nat → Int32} {h_prices : Nat → Int64} (E : ws[1]? = some (ad 1, .inr (2, [.ref (ad 2), .ref (ad 3), .ref (ad 4), .ref (ad 5), .ref (ad 6), .ref (ad 7), .int g_size])) ∧ ws[3]? = some (ad 3, .inl (cI, 20, .inl g_lengths)) ∧ ws[4]? = some (ad 4, .inl (cI, 100, .inl g_symbols)) ∧ ws[17]? = some (ad 17, .inr (0, [.ref (ad 1), .ref (ad 9), .ref (ad 18), .ref (ad 19), .ref (ad 20), .ref (ad 21)])) ∧ ws[18]? = some (ad 18, .inl (cJ, 4046, .inr (.inl h_prices)))) {o : (Nat → Int64)} {k133 : (Int32) → (Int32) → (Int32) → (Int32) → (Int32) → (Int32) → (Int32) → (Int64) → (Nat → Int64) → Option ((Nat → Int64))} (hk133 : ∀ (x1 : Int32) (x2 : Int32) (x3 : Int32) (x4 : Int32) (x5 : Int32) (x6 : Int32) (x7 : Int32) (x8 : Int64) (h_traced : Nat → Int64), k133 x1 x2 x3 x4 x5 x6 x7 x8 h_traced = some o → KW l xX0_trace D (kT cI cB cJ cZ) ws z (kQv D (kT cI cB cJ cZ) [(21, (ad 21, .inl (cJ, 102, .inr (.inl o))))] ws z) 133 [(0, .ref (ad 17)), (1, .int x1), (2, .int x2), (3, .int x3), (4, .int x4), (5, .int x5), (6, .int x6), (7, .int x7), (8, .long x8)] [] [(21, (ad 21, .inl (cJ, 102, .inr (.inl h_traced))))]) : ∀ (n : Nat) (x1 : Int32) (x2 : Int32) (x3 : Int32) (x4 : Int32) (x5 : Int32) (x6 : Int32) (x7 : Int32) (x8 : Int64) (x10 : Int32) (h_traced : Nat → Int64), lp_X0_trace_88 g_lengths g_symbols h_prices k133 n x1 x2 x3 x4 x5 x6 x7 x8 x10 h_traced = some o → KW l xX0_trace D (kT cI cB cJ cZ) ws z (kQv D (kT cI cB cJ cZ) [(21, (ad 21, .inl (cJ, 102, .inr (.inl o))))] ws z) 88 [(0, .ref (ad 17)), (1, .int x1), (2, .int x2), (3, .int x3), (4, .int x4), (5, .int x5), (6, .int x6), (7, .int x7), (8, .long x8), (10, .int x10)] [] [(21, (ad 21, .inl (cJ, 102, .inr (.inl h_traced))))] := by
  intro n
  induction n with
  | zero => intro x1 x2 x3 x4 x5 x6 x7 x8 x10 h_traced h; exact absurd h (by simp [lp_X0_trace_88])
  | succ n hk88 =>
    intro x1 x2 x3 x4 x5 x6 x7 x8 x10 h_traced h
    unfold lp_X0_trace_88 at h
    refine k_iload dX0_trace_88 9 rfl ?_
    refine k_iload dX0_trace_90 7 rfl ?_
    refine k_icmp_gt 133 dX0_trace_92 (by decide) h (fun h => ?_) (fun h => ?_)
    · skip
      refine k_sub [0, 1, 2, 3, 4, 5, 6, 7, 8] rfl ?_
      exact hk133 _ _ _ _ _ _ _ _ _ h
    · skip
      refine k_lload dX0_trace_95 8 rfl ?_
      refine k_aload_n dX0_trace_97 0 rfl rfl ?_
      refine k_get 17 5 E.2.2.2.1 rfl qX0_trace_wX0 (by decide) qX0_trace_f22 rfl dX0_trace_98 ?_
      refine k_iload dX0_trace_101 6 rfl ?_
      refine k_iload dX0_trace_103 9 rfl ?_
      refine k_iadd dX0_trace_105 ?_
      refine k_lald 21 2 rfl rfl dX0_trace_106 h (fun v12 h => ?_)
      refine k_aload_n dX0_trace_107 0 rfl rfl ?_
      refine k_get 17 2 E.2.2.2.1 rfl qX0_trace_wX0 (by decide) qX0_trace_f11 rfl dX0_trace_108 ?_
      refine k_iload dX0_trace_111 5 rfl ?_
      refine k_iload dX0_trace_113 9 rfl ?_
      refine k_iload dX0_trace_115 7 rfl ?_
      obtain ⟨r13, hr13, h⟩ := Option.bind_eq_some_iff.mp h
      refine k_calliS (As := [.int x5, .int x10, .int x7]) (st := [.ref (ad 18), .long v12, .long x8]) (Lc := []) (L' := [(21, (ad 21, .inl (cJ, 102, .inr (.inl h_traced))))]) (r := r13) gX0_trace_X0_spot rfl rfl rfl hySX0_spot ⟨Nat.le_of_ble_eq_true rfl, Nat.le_of_ble_eq_true rfl⟩ rfl rfl (Nat.le_of_ble_eq_true rfl) dX0_trace_117 (fun w z hw => c_X0_spot (cI := cI) (cB := cB) (cJ := cJ) (cZ := cZ) (ad := ad) w z trivial  hr13) rfl rfl ?_
      refine k_lald 18 2 E.2.2.2.2 rfl dX0_trace_120 h (fun v14 h => ?_)
      refine k_ladd dX0_trace_121 ?_
      refine k_mminL qX0_trace_m88 qX0_trace_ms88 qX0_trace_iMath qX0_trace_mc88 (Nat.le_of_ble_eq_true rfl) (Nat.le_of_ble_eq_true rfl) dX0_trace_122 ?_
      refine k_topl h (fun v15 h => ?_)
      refine k_lstore (i := 8) (lv' := fun x => [(8, .long x), (0, .ref (ad 17)), (1, .int x1), (2, .int x2), (3, .int x3), (4, .int x4), (5, .int x5), (6, .int x6), (7, .int x7), (10, .int x10)]) dX0_trace_125 (Nat.le_of_ble_eq_true rfl) (fun _ => rfl) h (fun x8_16 h => ?_)
      refine k_iinc (i := 10) (lv' := fun x => [(10, .int x), (8, .long x8_16), (0, .ref (ad 17)), (1, .int x1), (2, .int x2), (3, .int x3), (4, .int x4), (5, .int x5), (6, .int x6), (7, .int x7)]) dX0_trace_127 9 rfl (Nat.le_of_ble_eq_true rfl) (fun _ => rfl) h (fun x10_17 h => ?_)
      refine k_goto 88 dX0_trace_130 (by decide) ?_
      refine k_sub [2, 3, 4, 5, 6, 7, 8, 9, 1, 0] rfl ?_
      exact hk88 _ _ _ _ _ _ _ _ _ _ h
set_option maxHeartbeats 4000000 in
set_option maxRecDepth 100000 in
theorem wlp_X0_trace_74 {l : Launch} {D : va_G} {cI cB cJ cZ : ClassId} {ad : Nat → Nat} {ws : va_W} {z : Nat} {g_size : Int32} {g_lengths : Nat → Int32} {g_symbols : Nat → Int32} {h_prices : Nat → Int64} (E : ws[1]? = some (ad 1, .inr (2, [.ref (ad 2), .ref (ad 3), .ref (ad 4), .ref (ad 5), .ref (ad 6), .ref (ad 7), .int g_size])) ∧ ws[3]? = some (ad 3, .inl (cI, 20, .inl g_lengths)) ∧ ws[4]? = some (ad 4, .inl (cI, 100, .inl g_symbols)) ∧ ws[17]? = some (ad 17, .inr (0, [.ref (ad 1), .ref (ad 9), .ref (ad 18), .ref (ad 19), .ref (ad 20), .ref (ad 21)])) ∧ ws[18]? = some (ad 18, .inl (cJ, 4046, .inr (.inl h_prices)))) {o : (Nat → Int64)} {k154 : (Int32) → (Int32) → (Int32) → (Int32) → (Nat → Int64) → Option ((Nat → Int64))} (hk154 : ∀ (x1 : Int32) (x2 : Int32) (x3 : Int32) (x4 : Int32) (h_traced : Nat → Int64), k154 x1 x2 x3 x4 h_traced = some o → KW l xX0_trace D (kT cI cB cJ cZ) ws z (kQv D (kT cI cB cJ cZ) [(21, (ad 21, .inl (cJ, 102, .inr (.inl o))))] ws z) 154 [(0, .ref (ad 17)), (1, .int x1), (2, .int x2), (3, .int x3), (4, .int x4)] [] [(21, (ad 21, .inl (cJ, 102, .inr (.inl h_traced))))]) : ∀ (n : Nat) (x1 : Int32) (x2 : Int32) (x3 : Int32) (x4 : Int32) (x5 : Int32) (x6 : Int32) (x7 : Int32) (h_traced : Nat → Int64), lp_X0_trace_74 g_lengths g_symbols h_prices k154 n x1 x2 x3 x4 x5 x6 x7 h_traced = some o → KW l xX0_trace D (kT cI cB cJ cZ) ws z (kQv D (kT cI cB cJ cZ) [(21, (ad 21, .inl (cJ, 102, .inr (.inl o))))] ws z) 74 [(0, .ref (ad 17)), (1, .int x1), (2, .int x2), (3, .int x3), (4, .int x4), (5, .int x5), (6, .int x6), (7, .int x7)] [] [(21, (ad 21, .inl (cJ, 102, .inr (.inl h_traced))))] := by
  intro n
  induction n with
  | zero => intro x1 x2 x3 x4 x5 x6 x7 h_traced h; exact absurd h (by simp [lp_X0_trace_74])
  | succ n hk74 =>
    intro x1 x2 x3 x4 x5 x6 x7 h_traced h
    unfold lp_X0_trace_74 at h
    refine k_iload dX0_trace_74 7 rfl ?_
    refine k_iload_n dX0_trace_76 3 rfl rfl ?_
    refine k_icmp_gt 154 dX0_trace_77 (by decide) h (fun h => ?_) (fun h => ?_)
    · skip
      refine k_sub [0, 1, 2, 3, 4] rfl ?_
      exact hk154 _ _ _ _ _ h
    · skip
      refine k_ldc2 (v := 1152921504606846976) dX0_trace_80 qX0_trace_k65 ?_
      refine k_lstore (i := 8) (lv' := fun x => [(8, .long x), (0, .ref (ad 17)), (1, .int x1), (2, .int x2), (3, .int x3), (4, .int x4), (5, .int x5), (6, .int x6), (7, .int x7)]) dX0_trace_83 (Nat.le_of_ble_eq_true rfl) (fun _ => rfl) h (fun x8_10 h => ?_)
      refine k_iload_n dX0_trace_85 3 rfl rfl ?_
      refine k_istore (i := 10) (lv' := fun x => [(10, .int x), (8, .long x8_10), (0, .ref (ad 17)), (1, .int x1), (2, .int x2), (3, .int x3), (4, .int x4), (5, .int x5), (6, .int x6), (7, .int x7)]) dX0_trace_86 (Nat.le_of_ble_eq_true rfl) (fun _ => rfl) h (fun x10_11 h => ?_)
      refine k_sub [2, 3, 4, 5, 6, 7, 8, 9, 1, 0] rfl ?_
      refine wlp_X0_trace_88 (cI := cI) (cB := cB) (cJ := cJ) (cZ := cZ) (ad := ad) E ?_ FU _ _ _ _ _ _ _ _ _ _ h
      · intro x1 x2 x3 x4 x5 x6 x7 x8 h_traced h
        refine k_aload_n dX0_trace_133 0 rfl rfl ?_
        refine k_get 17 5 E.2.2.2.1 rfl qX0_trace_wX0 (by decide) qX0_trace_f22 rfl dX0_trace_134 ?_
        refine k_iload dX0_trace_137 6 rfl ?_
        refine k_bipush (v := 17) dX0_trace_139 (by decide) ?_
        refine k_iadd dX0_trace_141 ?_
        refine k_iload dX0_trace_142 7 rfl ?_
        refine k_iadd dX0_trace_144 ?_
        refine k_lload dX0_trace_145 8 rfl ?_
        refine k_last (L' := fun f => [(21, (ad 21, .inl (cJ, 102, .inr (.inl f))))]) 21 2 rfl rfl rfl dX0_trace_147 h (fun _ => rfl) (fun h_traced_18 h => ?_)
        refine k_iinc (i := 7) (lv' := fun x => [(7, .int x), (0, .ref (ad 17)), (1, .int x1), (2, .int x2), (3, .int x3), (4, .int x4), (5, .int x5), (6, .int x6), (8, .long x8)]) dX0_trace_148 7 rfl (Nat.le_of_ble_eq_true rfl) (fun _ => rfl) h (fun x7_19 h => ?_)
        refine k_goto 74 dX0_trace_151 (by decide) ?_
        refine k_sub [1, 2, 3, 4, 5, 6, 7, 0] rfl ?_
        exact hk74 _ _ _ _ _ _ _ _ h
set_option maxHeartbeats 4000000 in
set_option maxRecDepth 100000 in
theorem wlp_X0_trace_38 {l : Launch} {D : va_G} {cI cB cJ cZ : ClassId} {ad : Nat → Nat} {ws : va_W} {z : Nat} {g_size : Int32} {g_lengths : Nat → Int32} {g_symbols : Nat → Int32} {h_prices : Nat → Int64} (E : ws[1]? = some (ad 1, .inr (2, [.ref (ad 2), .ref (ad 3), .ref (ad 4), .ref (ad 5), .ref (ad 6), .ref (ad 7), .int g_size])) ∧ ws[3]? = some (ad 3, .inl (cI, 20, .inl g_lengths)) ∧ ws[4]? = some (ad 4, .inl (cI, 100, .inl g_symbols)) ∧ ws[17]? = some (ad 17, .inr (0, [.ref (ad 1), .ref (ad 9), .ref (ad 18), .ref (ad 19), .ref (ad 20), .ref (ad 21)])) ∧ ws[18]? = some (ad 18, .inl (cJ, 4046, .inr (.inl h_prices)))) {o : (Nat → Int64)} {k160 : (Nat → Int64) → Option ((Nat → Int64))} (hk160 : ∀ (h_traced : Nat → Int64), k160 h_traced = some o → KW l xX0_trace D (kT cI cB cJ cZ) ws z (kQv D (kT cI cB cJ cZ) [(21, (ad 21, .inl (cJ, 102, .inr (.inl o))))] ws z) 160 [] [] [(21, (ad 21, .inl (cJ, 102, .inr (.inl h_traced))))]) : ∀ (n : Nat) (x1 : Int32) (x2 : Int32) (x3 : Int32) (x4 : Int32) (h_traced : Nat → Int64), lp_X0_trace_38 g_lengths g_symbols h_prices k160 n x1 x2 x3 x4 h_traced = some o → KW l xX0_trace D (kT cI cB cJ cZ) ws z (kQv D (kT cI cB cJ cZ) [(21, (ad 21, .inl (cJ, 102, .inr (.inl o))))] ws z) 38 [(0, .ref (ad 17)), (1, .int x1), (2, .int x2), (3, .int x3), (4, .int x4)] [] [(21, (ad 21, .inl (cJ, 102, .inr (.inl h_traced))))] := by
  intro n
  induction n with
  | zero => intro x1 x2 x3 x4 h_traced h; exact absurd h (by simp [lp_X0_trace_38])
  | succ n hk38 =>
    intro x1 x2 x3 x4 h_traced h
    unfold lp_X0_trace_38 at h
    refine k_iload dX0_trace_38 4 rfl ?_
    refine k_aload_n dX0_trace_40 0 rfl rfl ?_
    refine k_get 17 0 E.2.2.2.1 rfl qX0_trace_wX0 (by decide) qX0_trace_f25 rfl dX0_trace_41 ?_
    refine k_getN 1 1 E.1 rfl qX0_trace_wX2 (by decide) (host := "KindParser") (by decide +kernel) rfl dX0_trace_44 ?_
    refine k_iload_n dX0_trace_47 1 rfl rfl ?_
    refine k_iald 3 0 E.2.1 rfl dX0_trace_48 h (fun v5 h => ?_)
    refine k_icmp_ge 160 dX0_trace_49 (by decide) h (fun h => ?_) (fun h => ?_)
    · skip
      refine k_sub [] rfl ?_
      exact hk160 _ h
    · skip
      refine k_aload_n dX0_trace_52 0 rfl rfl ?_
      refine k_get 17 0 E.2.2.2.1 rfl qX0_trace_wX0 (by decide) qX0_trace_f25 rfl dX0_trace_53 ?_
      refine k_iload_n dX0_trace_56 1 rfl rfl ?_
      refine k_iload dX0_trace_57 4 rfl ?_
      obtain ⟨r6, hr6, h⟩ := Option.bind_eq_some_iff.mp h
      refine k_calliV (As := [.int x1, .int x4]) (st := []) (Lc := []) (L' := [(21, (ad 21, .inl (cJ, 102, .inr (.inl h_traced))))]) (r := r6) gX0_trace_X2_symbolOf rfl rfl rfl hyVX2_symbolOf ⟨Nat.le_of_ble_eq_true rfl, Nat.le_of_ble_eq_true rfl⟩ rfl rfl (Nat.le_of_ble_eq_true rfl) 1 E.1 rfl dX0_trace_59 (fun w z hw => c_X2_symbolOf (cI := cI) (cB := cB) (cJ := cJ) (cZ := cZ) (ad := ad) w z ⟨((hw 1).trans E.1), ((hw 4).trans E.2.2.1)⟩  hr6) rfl rfl ?_
      refine k_istore (i := 5) (lv' := fun x => [(5, .int x), (0, .ref (ad 17)), (1, .int x1), (2, .int x2), (3, .int x3), (4, .int x4)]) dX0_trace_62 (Nat.le_of_ble_eq_true rfl) (fun _ => rfl) h (fun x5_7 h => ?_)
      refine k_iload dX0_trace_64 5 rfl ?_
      refine k_bipush (v := 17) dX0_trace_66 (by decide) ?_
      refine k_imul dX0_trace_68 ?_
      refine k_istore (i := 6) (lv' := fun x => [(6, .int x), (5, .int x5_7), (0, .ref (ad 17)), (1, .int x1), (2, .int x2), (3, .int x3), (4, .int x4)]) dX0_trace_69 (Nat.le_of_ble_eq_true rfl) (fun _ => rfl) h (fun x6_8 h => ?_)
      refine k_iload_n dX0_trace_71 4 rfl rfl ?_
      refine k_istore (i := 7) (lv' := fun x => [(7, .int x), (6, .int x6_8), (5, .int x5_7), (0, .ref (ad 17)), (1, .int x1), (2, .int x2), (3, .int x3), (4, .int x4)]) dX0_trace_72 (Nat.le_of_ble_eq_true rfl) (fun _ => rfl) h (fun x7_9 h => ?_)
      refine k_sub [3, 4, 5, 6, 7, 2, 1, 0] rfl ?_
      refine wlp_X0_trace_74 (cI := cI) (cB := cB) (cJ := cJ) (cZ := cZ) (ad := ad) E ?_ FU _ _ _ _ _ _ _ _ h
      · intro x1 x2 x3 x4 h_traced h
        refine k_iinc (i := 4) (lv' := fun x => [(4, .int x), (0, .ref (ad 17)), (1, .int x1), (2, .int x2), (3, .int x3)]) dX0_trace_154 4 rfl (Nat.le_of_ble_eq_true rfl) (fun _ => rfl) h (fun x4_20 h => ?_)
        refine k_goto 38 dX0_trace_157 (by decide) ?_
        refine k_sub [1, 2, 3, 4, 0] rfl ?_
        exact hk38 _ _ _ _ _ h
set_option maxHeartbeats 4000000 in
set_option maxRecDepth 100000 in
/-- KindParser$Chart.trace -/
theorem c_X0_trace {l : Launch} {D : va_G} {cI cB cJ cZ : ClassId} {ad : Nat → Nat} (ws : va_W) (z : Nat) {g_size : Int32} {g_lengths : Nat → Int32} {g_symbols : Nat → Int32} {h_prices : Nat → Int64} {h_traced : Nat → Int64} (E : ws[1]? = some (ad 1, .inr (2, [.ref (ad 2), .ref (ad 3), .ref (ad 4), .ref (ad 5), .ref (ad 6), .ref (ad 7), .int g_size])) ∧ ws[3]? = some (ad 3, .inl (cI, 20, .inl g_lengths)) ∧ ws[4]? = some (ad 4, .inl (cI, 100, .inl g_symbols)) ∧ ws[17]? = some (ad 17, .inr (0, [.ref (ad 1), .ref (ad 9), .ref (ad 18), .ref (ad 19), .ref (ad 20), .ref (ad 21)])) ∧ ws[18]? = some (ad 18, .inl (cJ, 4046, .inr (.inl h_prices)))) (e21 : ws[21]? = some (ad 21, .inl (cJ, 102, .inr (.inl h_traced)))) {a1 : Int32} {a2 : Int32} {a3 : Int32} {o : (Nat → Int64)} (h : f_X0_trace a1 a2 a3 g_lengths g_symbols h_prices h_traced = some o) : Met l yX0_trace wsX0_trace rmX0_trace (kPc D (kT cI cB cJ cZ) [.ref (ad 17), .int a1, .int a2, .int a3] ws z) (kQv D (kT cI cB cJ cZ) [(21, (ad 21, .inl (cJ, 102, .inr (.inl o))))] ws z) 0 0 (va_A ws z) := by
  refine KW.met (rm := rmX0_trace) (lv := [(0, .ref (ad 17)), (1, .int a1), (2, .int a2), (3, .int a3)]) (L := [(21, (ad 21, .inl (cJ, 102, .inr (.inl h_traced))))]) rfl (by decide) (Nat.le_of_ble_eq_true rfl) rfl (by intro q hq; simp only [List.mem_cons, List.not_mem_nil, or_false] at hq; rcases hq with rfl <;> assumption) ?_
  unfold f_X0_trace at h
  show KW l xX0_trace D (kT cI cB cJ cZ) ws z (kQv D (kT cI cB cJ cZ) [(21, (ad 21, .inl (cJ, 102, .inr (.inl o))))] ws z) 0 [(0, .ref (ad 17)), (1, .int a1), (2, .int a2), (3, .int a3)] [] [(21, (ad 21, .inl (cJ, 102, .inr (.inl h_traced))))]
  refine k_iload_n dX0_trace_0 2 rfl rfl ?_
  refine k_istore (i := 4) (lv' := fun x => [(4, .int x), (0, .ref (ad 17)), (1, .int a1), (2, .int a2), (3, .int a3)]) dX0_trace_1 (Nat.le_of_ble_eq_true rfl) (fun _ => rfl) h (fun x4_1 h => ?_)
  refine k_sub [1, 2, 3, 4, 0] rfl ?_
  refine wlp_X0_trace_3 (cI := cI) (cB := cB) (cJ := cJ) (cZ := cZ) (ad := ad) E ?_ FU _ _ _ _ _ h
  · intro x1 x2 x3 h_traced h
    refine k_iconst (v := 0) dX0_trace_35 (by decide) ?_
    refine k_istore (i := 4) (lv' := fun x => [(4, .int x), (0, .ref (ad 17)), (1, .int x1), (2, .int x2), (3, .int x3)]) dX0_trace_36 (Nat.le_of_ble_eq_true rfl) (fun _ => rfl) h (fun x4_4 h => ?_)
    refine k_sub [1, 2, 3, 4, 0] rfl ?_
    refine wlp_X0_trace_38 (cI := cI) (cB := cB) (cJ := cJ) (cZ := cZ) (ad := ad) E ?_ FU _ _ _ _ _ h
    · intro h_traced h
      obtain rfl := Option.some.inj h
      exact k_vret rfl dX0_trace_160
abbrev rmX0_split : Room := { frames := 2, cells := 0, slots := 0, locals := 53 }
abbrev xX0_split : KX := (rmX0_split, cX0_split, 12, none, RX0, wsX0_split)
theorem hySX0_split : yX0_split.cls ≠ "java/lang/invoke/MethodHandle" ∧ yX0_split.cls ≠ "java/lang/invoke/VarHandle" ∧ (parseMethodDescriptor yX0_split.desc).map (fun d => d.parameters.length) = some 4 := by decide +kernel
theorem hyVX0_split : yX0_split.cls = RX0 ∧ yX0_split.cls ≠ "java/lang/invoke/MethodHandle" ∧ yX0_split.cls ≠ "java/lang/invoke/VarHandle" ∧ (parseMethodDescriptor yX0_split.desc).map (fun d => d.parameters.length) = some 4 := ⟨rfl, hySX0_split⟩
theorem qX0_split_wX0 : ∀ w ∈ u_ws RX0 TX0 6, w ∈ wsX0_split := by decide +kernel
theorem qX0_split_f25 : Cond.fieldLink RX0 25 "KindParser$Chart" "grammar" "LKindParser$Grammar;" ∈ wsX0_split := by decide +kernel
theorem qX0_split_wX2 : ∀ w ∈ u_ws RX2 TX2 7, w ∈ wsX0_split := by decide +kernel
theorem qX0_split_f22 : Cond.fieldLink RX0 22 "KindParser$Chart" "traced" "[J" ∈ wsX0_split := by decide +kernel
theorem qX0_split_f11 : Cond.fieldLink RX0 11 "KindParser$Chart" "prices" "[J" ∈ wsX0_split := by decide +kernel
set_option maxHeartbeats 4000000 in
set_option maxRecDepth 100000 in
theorem wlp_X0_split_66 {l : Launch} {D : va_G} {cI cB cJ cZ : ClassId} {ad : Nat → Nat} {ws : va_W} {z : Nat} {g_size : Int32} {g_lengths : Nat → Int32} {g_symbols : Nat → Int32} {h_prices : Nat → Int64} (E : ws[1]? = some (ad 1, .inr (2, [.ref (ad 2), .ref (ad 3), .ref (ad 4), .ref (ad 5), .ref (ad 6), .ref (ad 7), .int g_size])) ∧ ws[3]? = some (ad 3, .inl (cI, 20, .inl g_lengths)) ∧ ws[4]? = some (ad 4, .inl (cI, 100, .inl g_symbols)) ∧ ws[17]? = some (ad 17, .inr (0, [.ref (ad 1), .ref (ad 9), .ref (ad 18), .ref (ad 19), .ref (ad 20), .ref (ad 21)])) ∧ ws[18]? = some (ad 18, .inl (cJ, 4046, .inr (.inl h_prices)))) {o : (Nat → Int64) × (Nat → Int32)} {k109 : (Int32) → (Int32) → (Int32) → (Int32) → (Nat → Int64) → (Nat → Int32) → Option ((Nat → Int64) × (Nat → Int32))} (hk109 : ∀ (x1 : Int32) (x2 : Int32) (x6 : Int32) (x11 : Int32) (h_traced : Nat → Int64) (t_begins : Nat → Int32), k109 x1 x2 x6 x11 h_traced t_begins = some o → KW l xX0_split D (kT cI cB cJ cZ) ws z (kQv D (kT cI cB cJ cZ) [(21, (ad 21, .inl (cJ, 102, .inr (.inl o.1)))), (26, (ad 26, .inl (cI, 5, .inl o.2)))] ws z) 109 [(0, .ref (ad 17)), (1, .int x1), (2, .int x2), (4, .ref (ad 26)), (6, .int x6), (11, .int x11)] [] [(21, (ad 21, .inl (cJ, 102, .inr (.inl h_traced)))), (26, (ad 26, .inl (cI, 5, .inl t_begins)))]) : ∀ (n : Nat) (x1 : Int32) (x2 : Int32) (x5 : Int32) (x6 : Int32) (x7 : Int32) (x8 : Int32) (x9 : Int64) (x11 : Int32) (h_traced : Nat → Int64) (t_begins : Nat → Int32), lp_X0_split_66 g_lengths g_symbols h_prices k109 n x1 x2 x5 x6 x7 x8 x9 x11 h_traced t_begins = some o → KW l xX0_split D (kT cI cB cJ cZ) ws z (kQv D (kT cI cB cJ cZ) [(21, (ad 21, .inl (cJ, 102, .inr (.inl o.1)))), (26, (ad 26, .inl (cI, 5, .inl o.2)))] ws z) 66 [(0, .ref (ad 17)), (1, .int x1), (2, .int x2), (4, .ref (ad 26)), (5, .int x5), (6, .int x6), (7, .int x7), (8, .int x8), (9, .long x9), (11, .int x11)] [] [(21, (ad 21, .inl (cJ, 102, .inr (.inl h_traced)))), (26, (ad 26, .inl (cI, 5, .inl t_begins)))] := by
  intro n
  induction n with
  | zero => intro x1 x2 x5 x6 x7 x8 x9 x11 h_traced t_begins h; exact absurd h (by simp [lp_X0_split_66])
  | succ n hk66 =>
    intro x1 x2 x5 x6 x7 x8 x9 x11 h_traced t_begins h
    unfold lp_X0_split_66 at h
    refine k_iload dX0_split_66 9 rfl ?_
    refine k_iload_n dX0_split_68 2 rfl rfl ?_
    refine k_icmp_le 109 dX0_split_69 (by decide) h (fun h => ?_) (fun h => ?_)
    · skip
      refine k_sub [0, 1, 2, 3, 5, 9] rfl ?_
      exact hk109 _ _ _ _ _ _ h
    · skip
      refine k_aload_n dX0_split_72 0 rfl rfl ?_
      refine k_get 17 5 E.2.2.2.1 rfl qX0_split_wX0 (by decide) qX0_split_f22 rfl dX0_split_73 ?_
      refine k_iload dX0_split_76 7 rfl ?_
      refine k_iload dX0_split_78 9 rfl ?_
      refine k_iadd dX0_split_80 ?_
      refine k_lald 21 2 rfl rfl dX0_split_81 h (fun v11 h => ?_)
      refine k_aload_n dX0_split_82 0 rfl rfl ?_
      refine k_get 17 2 E.2.2.2.1 rfl qX0_split_wX0 (by decide) qX0_split_f11 rfl dX0_split_83 ?_
      refine k_iload dX0_split_86 6 rfl ?_
      refine k_iload dX0_split_88 9 rfl ?_
      refine k_iload dX0_split_90 4 rfl ?_
      obtain ⟨r12, hr12, h⟩ := Option.bind_eq_some_iff.mp h
      refine k_calliS (As := [.int x7, .int x11, .int x5]) (st := [.ref (ad 18), .long v11]) (Lc := []) (L' := [(21, (ad 21, .inl (cJ, 102, .inr (.inl h_traced)))), (26, (ad 26, .inl (cI, 5, .inl t_begins)))]) (r := r12) gX0_split_X0_spot rfl rfl rfl hySX0_spot ⟨Nat.le_of_ble_eq_true rfl, Nat.le_of_ble_eq_true rfl⟩ rfl rfl (Nat.le_of_ble_eq_true rfl) dX0_split_92 (fun w z hw => c_X0_spot (cI := cI) (cB := cB) (cJ := cJ) (cZ := cZ) (ad := ad) w z trivial  hr12) rfl rfl ?_
      refine k_lald 18 2 E.2.2.2.2 rfl dX0_split_95 h (fun v13 h => ?_)
      refine k_ladd dX0_split_96 ?_
      refine k_lload dX0_split_97 8 rfl ?_
      refine k_lcmp dX0_split_99 ?_
      refine k_if_eq 109 dX0_split_100 (by decide) h (fun h => ?_) (fun h => ?_)
      · skip
        refine k_sub [0, 1, 2, 3, 5, 9] rfl ?_
        exact hk109 _ _ _ _ _ _ h
      · skip
        refine k_iinc (i := 11) (lv' := fun x => [(11, .int x), (0, .ref (ad 17)), (1, .int x1), (2, .int x2), (4, .ref (ad 26)), (5, .int x5), (6, .int x6), (7, .int x7), (8, .int x8), (9, .long x9)]) dX0_split_103 9 rfl (Nat.le_of_ble_eq_true rfl) (fun _ => rfl) h (fun x11_14 h => ?_)
        refine k_goto 66 dX0_split_106 (by decide) ?_
        refine k_sub [1, 2, 3, 4, 5, 6, 7, 8, 9, 0] rfl ?_
        exact hk66 _ _ _ _ _ _ _ _ _ _ h
set_option maxHeartbeats 4000000 in
set_option maxRecDepth 100000 in
theorem wjn_X0_split_109 {l : Launch} {D : va_G} {cI cB cJ cZ : ClassId} {ad : Nat → Nat} {ws : va_W} {z : Nat} {g_size : Int32} {g_lengths : Nat → Int32} {g_symbols : Nat → Int32} {h_prices : Nat → Int64} (E : ws[1]? = some (ad 1, .inr (2, [.ref (ad 2), .ref (ad 3), .ref (ad 4), .ref (ad 5), .ref (ad 6), .ref (ad 7), .int g_size])) ∧ ws[3]? = some (ad 3, .inl (cI, 20, .inl g_lengths)) ∧ ws[4]? = some (ad 4, .inl (cI, 100, .inl g_symbols)) ∧ ws[17]? = some (ad 17, .inr (0, [.ref (ad 1), .ref (ad 9), .ref (ad 18), .ref (ad 19), .ref (ad 20), .ref (ad 21)])) ∧ ws[18]? = some (ad 18, .inl (cJ, 4046, .inr (.inl h_prices)))) {o : (Nat → Int64) × (Nat → Int32)} {k23 : (Int32) → (Int32) → (Int32) → (Int32) → (Nat → Int64) → (Nat → Int32) → Option ((Nat → Int64) × (Nat → Int32))} (hk23 : ∀ (x1 : Int32) (x2 : Int32) (x5 : Int32) (x6 : Int32) (h_traced : Nat → Int64) (t_begins : Nat → Int32), k23 x1 x2 x5 x6 h_traced t_begins = some o → KW l xX0_split D (kT cI cB cJ cZ) ws z (kQv D (kT cI cB cJ cZ) [(21, (ad 21, .inl (cJ, 102, .inr (.inl o.1)))), (26, (ad 26, .inl (cI, 5, .inl o.2)))] ws z) 23 [(0, .ref (ad 17)), (1, .int x1), (2, .int x2), (4, .ref (ad 26)), (5, .int x5), (6, .int x6)] [] [(21, (ad 21, .inl (cJ, 102, .inr (.inl h_traced)))), (26, (ad 26, .inl (cI, 5, .inl t_begins)))]) : ∀ (x1 : Int32) (x2 : Int32) (x6 : Int32) (x11 : Int32) (h_traced : Nat → Int64) (t_begins : Nat → Int32), jn_X0_split_109 g_lengths g_symbols h_prices k23 x1 x2 x6 x11 h_traced t_begins = some o → KW l xX0_split D (kT cI cB cJ cZ) ws z (kQv D (kT cI cB cJ cZ) [(21, (ad 21, .inl (cJ, 102, .inr (.inl o.1)))), (26, (ad 26, .inl (cI, 5, .inl o.2)))] ws z) 109 [(0, .ref (ad 17)), (1, .int x1), (2, .int x2), (4, .ref (ad 26)), (6, .int x6), (11, .int x11)] [] [(21, (ad 21, .inl (cJ, 102, .inr (.inl h_traced)))), (26, (ad 26, .inl (cI, 5, .inl t_begins)))] := by
  intro x1 x2 x6 x11 h_traced t_begins h
  unfold jn_X0_split_109 at h
  refine k_aload dX0_split_109 3 rfl ?_
  refine k_iload dX0_split_111 4 rfl ?_
  refine k_iload dX0_split_113 5 rfl ?_
  refine k_iast (L' := fun f => [(21, (ad 21, .inl (cJ, 102, .inr (.inl h_traced)))), (26, (ad 26, .inl (cI, 5, .inl f)))]) 26 0 rfl rfl rfl dX0_split_115 h (fun _ => rfl) (fun t_begins_15 h => ?_)
  refine k_iload dX0_split_116 5 rfl ?_
  refine k_istore (i := 5) (lv' := fun x => [(5, .int x), (0, .ref (ad 17)), (1, .int x1), (2, .int x2), (4, .ref (ad 26)), (6, .int x6), (11, .int x11)]) dX0_split_118 (Nat.le_of_ble_eq_true rfl) (fun _ => rfl) h (fun x5_16 h => ?_)
  refine k_iinc (i := 6) (lv' := fun x => [(6, .int x), (5, .int x5_16), (0, .ref (ad 17)), (1, .int x1), (2, .int x2), (4, .ref (ad 26)), (11, .int x11)]) dX0_split_120 5 rfl (Nat.le_of_ble_eq_true rfl) (fun _ => rfl) h (fun x6_17 h => ?_)
  refine k_goto 23 dX0_split_123 (by decide) ?_
  refine k_sub [2, 3, 4, 5, 1, 0] rfl ?_
  exact hk23 _ _ _ _ _ _ h
set_option maxHeartbeats 4000000 in
set_option maxRecDepth 100000 in
theorem wlp_X0_split_23 {l : Launch} {D : va_G} {cI cB cJ cZ : ClassId} {ad : Nat → Nat} {ws : va_W} {z : Nat} {g_size : Int32} {g_lengths : Nat → Int32} {g_symbols : Nat → Int32} {h_prices : Nat → Int64} (E : ws[1]? = some (ad 1, .inr (2, [.ref (ad 2), .ref (ad 3), .ref (ad 4), .ref (ad 5), .ref (ad 6), .ref (ad 7), .int g_size])) ∧ ws[3]? = some (ad 3, .inl (cI, 20, .inl g_lengths)) ∧ ws[4]? = some (ad 4, .inl (cI, 100, .inl g_symbols)) ∧ ws[17]? = some (ad 17, .inr (0, [.ref (ad 1), .ref (ad 9), .ref (ad 18), .ref (ad 19), .ref (ad 20), .ref (ad 21)])) ∧ ws[18]? = some (ad 18, .inl (cJ, 4046, .inr (.inl h_prices)))) {o : (Nat → Int64) × (Nat → Int32)} {k126 : (Nat → Int64) → (Nat → Int32) → Option ((Nat → Int64) × (Nat → Int32))} (hk126 : ∀ (h_traced : Nat → Int64) (t_begins : Nat → Int32), k126 h_traced t_begins = some o → KW l xX0_split D (kT cI cB cJ cZ) ws z (kQv D (kT cI cB cJ cZ) [(21, (ad 21, .inl (cJ, 102, .inr (.inl o.1)))), (26, (ad 26, .inl (cI, 5, .inl o.2)))] ws z) 126 [] [] [(21, (ad 21, .inl (cJ, 102, .inr (.inl h_traced)))), (26, (ad 26, .inl (cI, 5, .inl t_begins)))]) : ∀ (n : Nat) (x1 : Int32) (x2 : Int32) (x5 : Int32) (x6 : Int32) (h_traced : Nat → Int64) (t_begins : Nat → Int32), lp_X0_split_23 g_lengths g_symbols h_prices k126 n x1 x2 x5 x6 h_traced t_begins = some o → KW l xX0_split D (kT cI cB cJ cZ) ws z (kQv D (kT cI cB cJ cZ) [(21, (ad 21, .inl (cJ, 102, .inr (.inl o.1)))), (26, (ad 26, .inl (cI, 5, .inl o.2)))] ws z) 23 [(0, .ref (ad 17)), (1, .int x1), (2, .int x2), (4, .ref (ad 26)), (5, .int x5), (6, .int x6)] [] [(21, (ad 21, .inl (cJ, 102, .inr (.inl h_traced)))), (26, (ad 26, .inl (cI, 5, .inl t_begins)))] := by
  intro n
  induction n with
  | zero => intro x1 x2 x5 x6 h_traced t_begins h; exact absurd h (by simp [lp_X0_split_23])
  | succ n hk23 =>
    intro x1 x2 x5 x6 h_traced t_begins h
    unfold lp_X0_split_23 at h
    refine k_iload dX0_split_23 5 rfl ?_
    refine k_if_lt 126 dX0_split_25 (by decide) h (fun h => ?_) (fun h => ?_)
    · skip
      refine k_sub [] rfl ?_
      exact hk126 _ _ h
    · skip
      refine k_aload_n dX0_split_28 0 rfl rfl ?_
      refine k_get 17 0 E.2.2.2.1 rfl qX0_split_wX0 (by decide) qX0_split_f25 rfl dX0_split_29 ?_
      refine k_iload_n dX0_split_32 1 rfl rfl ?_
      refine k_iload dX0_split_33 5 rfl ?_
      obtain ⟨r5, hr5, h⟩ := Option.bind_eq_some_iff.mp h
      refine k_calliV (As := [.int x1, .int x6]) (st := []) (Lc := []) (L' := [(21, (ad 21, .inl (cJ, 102, .inr (.inl h_traced)))), (26, (ad 26, .inl (cI, 5, .inl t_begins)))]) (r := r5) gX0_split_X2_symbolOf rfl rfl rfl hyVX2_symbolOf ⟨Nat.le_of_ble_eq_true rfl, Nat.le_of_ble_eq_true rfl⟩ rfl rfl (Nat.le_of_ble_eq_true rfl) 1 E.1 rfl dX0_split_35 (fun w z hw => c_X2_symbolOf (cI := cI) (cB := cB) (cJ := cJ) (cZ := cZ) (ad := ad) w z ⟨((hw 1).trans E.1), ((hw 4).trans E.2.2.1)⟩  hr5) rfl rfl ?_
      refine k_istore (i := 7) (lv' := fun x => [(7, .int x), (0, .ref (ad 17)), (1, .int x1), (2, .int x2), (4, .ref (ad 26)), (5, .int x5), (6, .int x6)]) dX0_split_38 (Nat.le_of_ble_eq_true rfl) (fun _ => rfl) h (fun x7_6 h => ?_)
      refine k_iload dX0_split_40 6 rfl ?_
      refine k_bipush (v := 17) dX0_split_42 (by decide) ?_
      refine k_imul dX0_split_44 ?_
      refine k_istore (i := 8) (lv' := fun x => [(8, .int x), (7, .int x7_6), (0, .ref (ad 17)), (1, .int x1), (2, .int x2), (4, .ref (ad 26)), (5, .int x5), (6, .int x6)]) dX0_split_45 (Nat.le_of_ble_eq_true rfl) (fun _ => rfl) h (fun x8_7 h => ?_)
      refine k_aload_n dX0_split_47 2 rfl rfl ?_
      refine k_get 17 5 E.2.2.2.1 rfl qX0_split_wX0 (by decide) qX0_split_f22 rfl dX0_split_48 ?_
      refine k_iload dX0_split_51 0 rfl ?_
      refine k_bipush (v := 17) dX0_split_53 (by decide) ?_
      refine k_iadd dX0_split_55 ?_
      refine k_iload dX0_split_56 6 rfl ?_
      refine k_iadd dX0_split_58 ?_
      refine k_lald 21 2 rfl rfl dX0_split_59 h (fun v8 h => ?_)
      refine k_lstore (i := 9) (lv' := fun x => [(9, .long x), (8, .int x8_7), (7, .int x7_6), (0, .ref (ad 17)), (1, .int x1), (2, .int x2), (4, .ref (ad 26)), (5, .int x5), (6, .int x6)]) dX0_split_60 (Nat.le_of_ble_eq_true rfl) (fun _ => rfl) h (fun x9_9 h => ?_)
      refine k_iload dX0_split_62 7 rfl ?_
      refine k_istore (i := 11) (lv' := fun x => [(11, .int x), (9, .long x9_9), (8, .int x8_7), (7, .int x7_6), (0, .ref (ad 17)), (1, .int x1), (2, .int x2), (4, .ref (ad 26)), (5, .int x5), (6, .int x6)]) dX0_split_64 (Nat.le_of_ble_eq_true rfl) (fun _ => rfl) h (fun x11_10 h => ?_)
      refine k_sub [4, 5, 6, 7, 8, 9, 3, 2, 1, 0] rfl ?_
      refine wlp_X0_split_66 (cI := cI) (cB := cB) (cJ := cJ) (cZ := cZ) (ad := ad) E ?_ FU _ _ _ _ _ _ _ _ _ _ h
      · intro x1 x2 x6 x11 h_traced t_begins h
        refine k_sub [0, 1, 2, 3, 4, 5] rfl ?_
        exact wjn_X0_split_109 (cI := cI) (cB := cB) (cJ := cJ) (cZ := cZ) (ad := ad) E hk23 _ _ _ _ _ _ h
set_option maxHeartbeats 4000000 in
set_option maxRecDepth 100000 in
/-- KindParser$Chart.split -/
theorem c_X0_split {l : Launch} {D : va_G} {cI cB cJ cZ : ClassId} {ad : Nat → Nat} (ws : va_W) (z : Nat) {g_size : Int32} {g_lengths : Nat → Int32} {g_symbols : Nat → Int32} {h_prices : Nat → Int64} {h_traced : Nat → Int64} {t_begins : Nat → Int32} (E : ws[1]? = some (ad 1, .inr (2, [.ref (ad 2), .ref (ad 3), .ref (ad 4), .ref (ad 5), .ref (ad 6), .ref (ad 7), .int g_size])) ∧ ws[3]? = some (ad 3, .inl (cI, 20, .inl g_lengths)) ∧ ws[4]? = some (ad 4, .inl (cI, 100, .inl g_symbols)) ∧ ws[17]? = some (ad 17, .inr (0, [.ref (ad 1), .ref (ad 9), .ref (ad 18), .ref (ad 19), .ref (ad 20), .ref (ad 21)])) ∧ ws[18]? = some (ad 18, .inl (cJ, 4046, .inr (.inl h_prices)))) (e21 : ws[21]? = some (ad 21, .inl (cJ, 102, .inr (.inl h_traced)))) (e26 : ws[26]? = some (ad 26, .inl (cI, 5, .inl t_begins))) {a1 : Int32} {a2 : Int32} {a3 : Int32} {o : (Nat → Int64) × (Nat → Int32)} (h : f_X0_split a1 a2 a3 g_lengths g_symbols h_prices h_traced t_begins = some o) : Met l yX0_split wsX0_split rmX0_split (kPc D (kT cI cB cJ cZ) [.ref (ad 17), .int a1, .int a2, .int a3, .ref (ad 26)] ws z) (kQv D (kT cI cB cJ cZ) [(21, (ad 21, .inl (cJ, 102, .inr (.inl o.1)))), (26, (ad 26, .inl (cI, 5, .inl o.2)))] ws z) 0 0 (va_A ws z) := by
  refine KW.met (rm := rmX0_split) (lv := [(0, .ref (ad 17)), (1, .int a1), (2, .int a2), (3, .int a3), (4, .ref (ad 26))]) (L := [(21, (ad 21, .inl (cJ, 102, .inr (.inl h_traced)))), (26, (ad 26, .inl (cI, 5, .inl t_begins)))]) rfl (by decide) (Nat.le_of_ble_eq_true rfl) rfl (by intro q hq; simp only [List.mem_cons, List.not_mem_nil, or_false] at hq; rcases hq with rfl | rfl <;> assumption) ?_
  unfold f_X0_split at h
  show KW l xX0_split D (kT cI cB cJ cZ) ws z (kQv D (kT cI cB cJ cZ) [(21, (ad 21, .inl (cJ, 102, .inr (.inl o.1)))), (26, (ad 26, .inl (cI, 5, .inl o.2)))] ws z) 0 [(0, .ref (ad 17)), (1, .int a1), (2, .int a2), (3, .int a3), (4, .ref (ad 26))] [] [(21, (ad 21, .inl (cJ, 102, .inr (.inl h_traced)))), (26, (ad 26, .inl (cI, 5, .inl t_begins)))]
  refine k_aload_n dX0_split_0 0 rfl rfl ?_
  refine k_iload_n dX0_split_1 1 rfl rfl ?_
  refine k_iload_n dX0_split_2 2 rfl rfl ?_
  refine k_iload_n dX0_split_3 3 rfl rfl ?_
  obtain ⟨r1, hr1, h⟩ := Option.bind_eq_some_iff.mp h
  refine k_callvV (As := [.int a1, .int a2, .int a3]) (st := []) (Lc := [(21, (ad 21, .inl (cJ, 102, .inr (.inl r1))))]) (L' := [(21, (ad 21, .inl (cJ, 102, .inr (.inl r1)))), (26, (ad 26, .inl (cI, 5, .inl t_begins)))]) gX0_split_X0_trace rfl rfl rfl hyVX0_trace ⟨Nat.le_of_ble_eq_true rfl, Nat.le_of_ble_eq_true rfl⟩ rfl rfl (Nat.le_of_ble_eq_true rfl) 17 E.2.2.2.1 rfl dX0_split_4 (fun w z hw => c_X0_trace (cI := cI) (cB := cB) (cJ := cJ) (cZ := cZ) (ad := ad) w z ⟨((hw 1).trans E.1), ((hw 3).trans E.2.1), ((hw 4).trans E.2.2.1), ((hw 17).trans E.2.2.2.1), ((hw 18).trans E.2.2.2.2)⟩ (hw 21) hr1) rfl rfl ?_
  refine k_iload_n dX0_split_7 3 rfl rfl ?_
  refine k_istore (i := 5) (lv' := fun x => [(5, .int x), (0, .ref (ad 17)), (1, .int a1), (2, .int a2), (3, .int a3), (4, .ref (ad 26))]) dX0_split_8 (Nat.le_of_ble_eq_true rfl) (fun _ => rfl) h (fun x5_2 h => ?_)
  refine k_aload_n dX0_split_10 1 rfl rfl ?_
  refine k_get 17 0 E.2.2.2.1 rfl qX0_split_wX0 (by decide) qX0_split_f25 rfl dX0_split_11 ?_
  refine k_getN 1 1 E.1 rfl qX0_split_wX2 (by decide) (host := "KindParser") (by decide +kernel) rfl dX0_split_14 ?_
  refine k_iload_n dX0_split_17 2 rfl rfl ?_
  refine k_iald 3 0 E.2.1 rfl dX0_split_18 h (fun v3 h => ?_)
  refine k_iconst (v := 1) dX0_split_19 (by decide) ?_
  refine k_isub dX0_split_20 ?_
  refine k_istore (i := 6) (lv' := fun x => [(6, .int x), (5, .int x5_2), (0, .ref (ad 17)), (1, .int a1), (2, .int a2), (3, .int a3), (4, .ref (ad 26))]) dX0_split_21 (Nat.le_of_ble_eq_true rfl) (fun _ => rfl) h (fun x6_4 h => ?_)
  refine k_sub [2, 3, 4, 6, 1, 0] rfl ?_
  refine wlp_X0_split_23 (cI := cI) (cB := cB) (cJ := cJ) (cZ := cZ) (ad := ad) E ?_ FU _ _ _ _ _ _ h
  · intro h_traced t_begins h
    obtain rfl := Option.some.inj h
    exact k_vret rfl dX0_split_126
