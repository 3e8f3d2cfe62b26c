abbrev rmX5_isKind : Room := { frames := 0, cells := 0, slots := 0, locals := 0 }
abbrev xX5_isKind : KX := (rmX5_isKind, cX5_isKind, 1, some .boolean, RX5, wsX5_isKind)
theorem hySX5_isKind : yX5_isKind.cls ≠ "java/lang/invoke/MethodHandle" ∧ yX5_isKind.cls ≠ "java/lang/invoke/VarHandle" ∧ (parseMethodDescriptor yX5_isKind.desc).map (fun d => d.parameters.length) = some 1 := by decide +kernel
set_option maxHeartbeats 4000000 in
set_option maxRecDepth 100000 in
theorem wjn_X5_isKind_17 {l : Launch} {D : va_G} {cI cB cJ cZ : ClassId} {ad : Nat → Nat} {ws : va_W} {z : Nat}  (E : True) {o : Int32}   : ∀ (s0 : Int32), jn_X5_isKind_17  s0 = some o → KW l xX5_isKind D (kT cI cB cJ cZ) ws z (kQi D (kT cI cB cJ cZ) o [] ws z) 17 [] [.int s0] [] := by
  intro s0 h
  unfold jn_X5_isKind_17 at h
  obtain ⟨hz, h⟩ := zc_some h
  obtain rfl := Option.some.inj h
  exact k_zret rfl hz dX5_isKind_17
set_option maxHeartbeats 4000000 in
set_option maxRecDepth 100000 in
theorem wjn_X5_isKind_16 {l : Launch} {D : va_G} {cI cB cJ cZ : ClassId} {ad : Nat → Nat} {ws : va_W} {z : Nat}  (E : True) {o : Int32}   : jn_X5_isKind_16  = some o → KW l xX5_isKind D (kT cI cB cJ cZ) ws z (kQi D (kT cI cB cJ cZ) o [] ws z) 16 [] [] [] := by
  intro h
  unfold jn_X5_isKind_16 at h
  refine k_iconst (v := 0) dX5_isKind_16 (by decide) ?_
  refine k_sub [] rfl ?_
  exact wjn_X5_isKind_17 E  _ h
set_option maxHeartbeats 4000000 in
set_option maxRecDepth 100000 in
/-- KindParser.isKind -/
theorem c_X5_isKind {l : Launch} {D : va_G} {cI cB cJ cZ : ClassId} {ad : Nat → Nat} (ws : va_W) (z : Nat)  (E : True)  {a0 : Int32} {o : Int32} (h : f_X5_isKind a0 = some o) : Met l yX5_isKind wsX5_isKind rmX5_isKind (kPc D (kT cI cB cJ cZ) [.int a0] ws z) (kQi D (kT cI cB cJ cZ) o [] ws z) 0 0 (va_A ws z) := by
  refine KW.met (rm := rmX5_isKind) (lv := [(0, .int a0)]) (L := []) rfl (by decide) (Nat.le_of_ble_eq_true rfl) rfl (by intro q hq; simp only [List.mem_cons, List.not_mem_nil, or_false] at hq; exact hq.elim) ?_
  unfold f_X5_isKind at h
  show KW l xX5_isKind D (kT cI cB cJ cZ) ws z (kQi D (kT cI cB cJ cZ) o [] ws z) 0 [(0, .int a0)] [] []
  refine k_iload_n dX5_isKind_0 0 rfl rfl ?_
  refine k_bipush (v := 9) dX5_isKind_1 (by decide) ?_
  refine k_icmp_lt 16 dX5_isKind_3 (by decide) h (fun h => ?_) (fun h => ?_)
  · skip
    refine k_sub [] rfl ?_
    exact wjn_X5_isKind_16 E   h
  · skip
    refine k_iload_n dX5_isKind_6 0 rfl rfl ?_
    refine k_bipush (v := 14) dX5_isKind_7 (by decide) ?_
    refine k_icmp_gt 16 dX5_isKind_9 (by decide) h (fun h => ?_) (fun h => ?_)
    · skip
      refine k_sub [] rfl ?_
      exact wjn_X5_isKind_16 E   h
    · skip
      refine k_iconst (v := 1) dX5_isKind_12 (by decide) ?_
      refine k_goto 17 dX5_isKind_13 (by decide) ?_
      refine k_sub [] rfl ?_
      exact wjn_X5_isKind_17 E  _ h
abbrev rmX0_spot : Room := { frames := 0, cells := 0, slots := 0, locals := 0 }
abbrev xX0_spot : KX := (rmX0_spot, cX0_spot, 3, some .int, RX0, wsX0_spot)
theorem hySX0_spot : yX0_spot.cls ≠ "java/lang/invoke/MethodHandle" ∧ yX0_spot.cls ≠ "java/lang/invoke/VarHandle" ∧ (parseMethodDescriptor yX0_spot.desc).map (fun d => d.parameters.length) = some 3 := by decide +kernel
set_option maxHeartbeats 4000000 in
set_option maxRecDepth 100000 in
/-- KindParser$Chart.spot -/
theorem c_X0_spot {l : Launch} {D : va_G} {cI cB cJ cZ : ClassId} {ad : Nat → Nat} (ws : va_W) (z : Nat)  (E : True)  {a0 : Int32} {a1 : Int32} {a2 : Int32} {o : Int32} (h : f_X0_spot a0 a1 a2 = some o) : Met l yX0_spot wsX0_spot rmX0_spot (kPc D (kT cI cB cJ cZ) [.int a0, .int a1, .int a2] ws z) (kQi D (kT cI cB cJ cZ) o [] ws z) 0 0 (va_A ws z) := by
  refine KW.met (rm := rmX0_spot) (lv := [(0, .int a0), (1, .int a1), (2, .int a2)]) (L := []) rfl (by decide) (Nat.le_of_ble_eq_true rfl) rfl (by intro q hq; simp only [List.mem_cons, List.not_mem_nil, or_false] at hq; exact hq.elim) ?_
  unfold f_X0_spot at h
  show KW l xX0_spot D (kT cI cB cJ cZ) ws z (kQi D (kT cI cB cJ cZ) o [] ws z) 0 [(0, .int a0), (1, .int a1), (2, .int a2)] [] []
  refine k_iload_n dX0_spot_0 0 rfl rfl ?_
  refine k_iconst (v := 1) dX0_spot_1 (by decide) ?_
  refine k_isub dX0_spot_2 ?_
  refine k_bipush (v := 17) dX0_spot_3 (by decide) ?_
  refine k_imul dX0_spot_5 ?_
  refine k_iload_n dX0_spot_6 1 rfl rfl ?_
  refine k_iadd dX0_spot_7 ?_
  refine k_bipush (v := 17) dX0_spot_8 (by decide) ?_
  refine k_imul dX0_spot_10 ?_
  refine k_iload_n dX0_spot_11 2 rfl rfl ?_
  refine k_iadd dX0_spot_12 ?_
  obtain rfl := Option.some.inj h
  exact k_iret rfl dX0_spot_13
abbrev rmX0_leastInside : Room := { frames := 1, cells := 0, slots := 0, locals := 23 }
abbrev xX0_leastInside : KX := (rmX0_leastInside, cX0_leastInside, 9, some .long, RX0, wsX0_leastInside)
theorem hySX0_leastInside : yX0_leastInside.cls ≠ "java/lang/invoke/MethodHandle" ∧ yX0_leastInside.cls ≠ "java/lang/invoke/VarHandle" ∧ (parseMethodDescriptor yX0_leastInside.desc).map (fun d => d.parameters.length) = some 4 := by decide +kernel
theorem hyVX0_leastInside : yX0_leastInside.cls = RX0 ∧ yX0_leastInside.cls ≠ "java/lang/invoke/MethodHandle" ∧ yX0_leastInside.cls ≠ "java/lang/invoke/VarHandle" ∧ (parseMethodDescriptor yX0_leastInside.desc).map (fun d => d.parameters.length) = some 4 := ⟨rfl, hySX0_leastInside⟩
theorem qX0_leastInside_k65 : Cond.constantLong RX0 65 1152921504606846976 ∈ wsX0_leastInside := by decide +kernel
theorem qX0_leastInside_wX0 : ∀ w ∈ u_ws RX0 TX0 6, w ∈ wsX0_leastInside := by decide +kernel
theorem qX0_leastInside_f19 : Cond.fieldLink RX0 19 "KindParser$Chart" "begun" "[J" ∈ wsX0_leastInside := by decide +kernel
theorem qX0_leastInside_f11 : Cond.fieldLink RX0 11 "KindParser$Chart" "prices" "[J" ∈ wsX0_leastInside := by decide +kernel
theorem qX0_leastInside_m88 : Cond.methodLink RX0 88 Lib.MathLoose.min_long.x ∈ wsX0_leastInside := by decide +kernel
theorem qX0_leastInside_ms88 : Cond.static Lib.MathLoose.min_long.x ∈ wsX0_leastInside := by decide +kernel
theorem qX0_leastInside_iMath : Cond.initialized "java/lang/Math" ∈ wsX0_leastInside := by decide +kernel
theorem qX0_leastInside_mc88 : Cond.code Lib.MathLoose.min_long.x Lib.MathLoose.min_long.code 4 (some .long) ∈ wsX0_leastInside := by decide +kernel
set_option maxHeartbeats 4000000 in
set_option maxRecDepth 100000 in
theorem wlp_X0_leastInside_19 {l : Launch} {D : va_G} {cI cB cJ cZ : ClassId} {ad : Nat → Nat} {ws : va_W} {z : Nat} {h_prices : Nat → Int64} {h_begun : Nat → Int64} (E : ws[17]? = some (ad 17, .inr (0, [.ref (ad 1), .ref (ad 9), .ref (ad 18), .ref (ad 19), .ref (ad 20), .ref (ad 21)])) ∧ ws[18]? = some (ad 18, .inl (cJ, 4046, .inr (.inl h_prices))) ∧ ws[20]? = some (ad 20, .inl (cJ, 2040, .inr (.inl h_begun)))) {o : Int64} {k59 : (Int64) → Option (Int64)} (hk59 : ∀ (x5 : Int64), k59 x5 = some o → KW l xX0_leastInside D (kT cI cB cJ cZ) ws z (kQl D (kT cI cB cJ cZ) o [] ws z) 59 [(5, .long x5)] [] []) : ∀ (n : Nat) (x1 : Int32) (x4 : Int32) (x5 : Int64) (x7 : Int32) (x8 : Int32), lp_X0_leastInside_19 h_prices h_begun k59 n x1 x4 x5 x7 x8 = some o → KW l xX0_leastInside D (kT cI cB cJ cZ) ws z (kQl D (kT cI cB cJ cZ) o [] ws z) 19 [(0, .ref (ad 17)), (1, .int x1), (4, .int x4), (5, .long x5), (7, .int x7), (8, .int x8)] [] [] := by
  intro n
  induction n with
  | zero => intro x1 x4 x5 x7 x8 h; exact absurd h (by simp [lp_X0_leastInside_19])
  | succ n hk19 =>
    intro x1 x4 x5 x7 x8 h
    unfold lp_X0_leastInside_19 at h
    refine k_iload dX0_leastInside_19 5 rfl ?_
    refine k_iload dX0_leastInside_21 2 rfl ?_
    refine k_icmp_ge 59 dX0_leastInside_23 (by decide) h (fun h => ?_) (fun h => ?_)
    · skip
      refine k_sub [3] rfl ?_
      exact hk59 _ h
    · skip
      refine k_iinc (i := 7) (lv' := fun x => [(7, .int x), (0, .ref (ad 17)), (1, .int x1), (4, .int x4), (5, .long x5), (8, .int x8)]) dX0_leastInside_26 4 rfl (Nat.le_of_ble_eq_true rfl) (fun _ => rfl) h (fun x7_5 h => ?_)
      refine k_lload dX0_leastInside_29 4 rfl ?_
      refine k_aload_n dX0_leastInside_31 1 rfl rfl ?_
      refine k_get 17 4 E.1 rfl qX0_leastInside_wX0 (by decide) qX0_leastInside_f19 rfl dX0_leastInside_32 ?_
      refine k_iload_n dX0_leastInside_35 2 rfl rfl ?_
      refine k_iload dX0_leastInside_36 5 rfl ?_
      refine k_iadd dX0_leastInside_38 ?_
      refine k_lald 20 2 E.2.2 rfl dX0_leastInside_39 h (fun v6 h => ?_)
      refine k_aload_n dX0_leastInside_40 1 rfl rfl ?_
      refine k_get 17 2 E.1 rfl qX0_leastInside_wX0 (by decide) qX0_leastInside_f11 rfl dX0_leastInside_41 ?_
      refine k_iload dX0_leastInside_44 0 rfl ?_
      refine k_lald 18 2 E.2.1 rfl dX0_leastInside_46 h (fun v7 h => ?_)
      refine k_ladd dX0_leastInside_47 ?_
      refine k_mminL qX0_leastInside_m88 qX0_leastInside_ms88 qX0_leastInside_iMath qX0_leastInside_mc88 (Nat.le_of_ble_eq_true rfl) (Nat.le_of_ble_eq_true rfl) dX0_leastInside_48 ?_
      refine k_topl h (fun v8 h => ?_)
      refine k_lstore (i := 5) (lv' := fun x => [(5, .long x), (7, .int x7_5), (0, .ref (ad 17)), (1, .int x1), (4, .int x4), (8, .int x8)]) dX0_leastInside_51 (Nat.le_of_ble_eq_true rfl) (fun _ => rfl) h (fun x5_9 h => ?_)
      refine k_iinc (i := 8) (lv' := fun x => [(8, .int x), (5, .long x5_9), (7, .int x7_5), (0, .ref (ad 17)), (1, .int x1), (4, .int x4)]) dX0_leastInside_53 5 rfl (Nat.le_of_ble_eq_true rfl) (fun _ => rfl) h (fun x8_10 h => ?_)
      refine k_goto 19 dX0_leastInside_56 (by decide) ?_
      refine k_sub [3, 4, 5, 1, 2, 0] rfl ?_
      exact hk19 _ _ _ _ _ h
set_option maxHeartbeats 4000000 in
set_option maxRecDepth 100000 in
/-- KindParser$Chart.leastInside -/
theorem c_X0_leastInside {l : Launch} {D : va_G} {cI cB cJ cZ : ClassId} {ad : Nat → Nat} (ws : va_W) (z : Nat) {h_prices : Nat → Int64} {h_begun : Nat → Int64} (E : ws[17]? = some (ad 17, .inr (0, [.ref (ad 1), .ref (ad 9), .ref (ad 18), .ref (ad 19), .ref (ad 20), .ref (ad 21)])) ∧ ws[18]? = some (ad 18, .inl (cJ, 4046, .inr (.inl h_prices))) ∧ ws[20]? = some (ad 20, .inl (cJ, 2040, .inr (.inl h_begun))))  {a1 : Int32} {a2 : Int32} {a3 : Int32} {a4 : Int32} {o : Int64} (h : f_X0_leastInside a1 a2 a3 a4 h_prices h_begun = some o) : Met l yX0_leastInside wsX0_leastInside rmX0_leastInside (kPc D (kT cI cB cJ cZ) [.ref (ad 17), .int a1, .int a2, .int a3, .int a4] ws z) (kQl D (kT cI cB cJ cZ) o [] ws z) 0 0 (va_A ws z) := by
  refine KW.met (rm := rmX0_leastInside) (lv := [(0, .ref (ad 17)), (1, .int a1), (2, .int a2), (3, .int a3), (4, .int a4)]) (L := []) rfl (by decide) (Nat.le_of_ble_eq_true rfl) rfl (by intro q hq; simp only [List.mem_cons, List.not_mem_nil, or_false] at hq; exact hq.elim) ?_
  unfold f_X0_leastInside at h
  show KW l xX0_leastInside D (kT cI cB cJ cZ) ws z (kQl D (kT cI cB cJ cZ) o [] ws z) 0 [(0, .ref (ad 17)), (1, .int a1), (2, .int a2), (3, .int a3), (4, .int a4)] [] []
  refine k_ldc2 (v := 1152921504606846976) dX0_leastInside_0 qX0_leastInside_k65 ?_
  refine k_lstore (i := 5) (lv' := fun x => [(5, .long x), (0, .ref (ad 17)), (1, .int a1), (2, .int a2), (3, .int a3), (4, .int a4)]) dX0_leastInside_3 (Nat.le_of_ble_eq_true rfl) (fun _ => rfl) h (fun x5_1 h => ?_)
  refine k_iload_n dX0_leastInside_5 3 rfl rfl ?_
  refine k_iload_n dX0_leastInside_6 4 rfl rfl ?_
  refine k_iload dX0_leastInside_7 5 rfl ?_
  obtain ⟨r2, hr2, h⟩ := Option.bind_eq_some_iff.mp h
  refine k_calliS (As := [.int a2, .int a3, .int a4]) (st := []) (Lc := []) (L' := []) (r := r2) gX0_leastInside_X0_spot rfl rfl rfl hySX0_spot ⟨Nat.le_of_ble_eq_true rfl, Nat.le_of_ble_eq_true rfl⟩ rfl rfl (Nat.le_of_ble_eq_true rfl) dX0_leastInside_9 (fun w z hw => c_X0_spot w z trivial  hr2) rfl rfl ?_
  refine k_istore (i := 7) (lv' := fun x => [(7, .int x), (5, .long x5_1), (0, .ref (ad 17)), (1, .int a1), (2, .int a2), (3, .int a3), (4, .int a4)]) dX0_leastInside_12 (Nat.le_of_ble_eq_true rfl) (fun _ => rfl) h (fun x7_3 h => ?_)
  refine k_iload_n dX0_leastInside_14 5 rfl rfl ?_
  refine k_iconst (v := 1) dX0_leastInside_15 (by decide) ?_
  refine k_iadd dX0_leastInside_16 ?_
  refine k_istore (i := 8) (lv' := fun x => [(8, .int x), (7, .int x7_3), (5, .long x5_1), (0, .ref (ad 17)), (1, .int a1), (2, .int a2), (3, .int a3), (4, .int a4)]) dX0_leastInside_17 (Nat.le_of_ble_eq_true rfl) (fun _ => rfl) h (fun x8_4 h => ?_)
  refine k_sub [3, 4, 7, 2, 1, 0] rfl ?_
  refine wlp_X0_leastInside_19 E ?_ FU _ _ _ _ _ h
  · intro x5 h
    refine k_lload dX0_leastInside_59 0 rfl ?_
    obtain rfl := Option.some.inj h
    exact k_lret rfl dX0_leastInside_61
abbrev rmX2_hasGround : Room := { frames := 1, cells := 0, slots := 0, locals := 20 }
abbrev xX2_hasGround : KX := (rmX2_hasGround, cX2_hasGround, 2, some .boolean, RX2, wsX2_hasGround)
theorem hySX2_hasGround : yX2_hasGround.cls ≠ "java/lang/invoke/MethodHandle" ∧ yX2_hasGround.cls ≠ "java/lang/invoke/VarHandle" ∧ (parseMethodDescriptor yX2_hasGround.desc).map (fun d => d.parameters.length) = some 1 := by decide +kernel
theorem hyVX2_hasGround : yX2_hasGround.cls = RX2 ∧ yX2_hasGround.cls ≠ "java/lang/invoke/MethodHandle" ∧ yX2_hasGround.cls ≠ "java/lang/invoke/VarHandle" ∧ (parseMethodDescriptor yX2_hasGround.desc).map (fun d => d.parameters.length) = some 1 := ⟨rfl, hySX2_hasGround⟩
theorem qX2_hasGround_iX5 : Cond.initialized RX5 ∈ wsX2_hasGround := by decide +kernel
theorem qX2_hasGround_sX5_isKind : Cond.static yX5_isKind ∈ wsX2_hasGround := by decide +kernel
theorem qX2_hasGround_wX2 : ∀ w ∈ u_ws RX2 TX2 7, w ∈ wsX2_hasGround := by decide +kernel
theorem qX2_hasGround_f28 : Cond.fieldLink RX2 28 "KindParser$Grammar" "ground" "[Z" ∈ wsX2_hasGround := by decide +kernel
set_option maxHeartbeats 4000000 in
set_option maxRecDepth 100000 in
theorem wjn_X2_hasGround_24 {l : Launch} {D : va_G} {cI cB cJ cZ : ClassId} {ad : Nat → Nat} {ws : va_W} {z : Nat} {g_size : Int32} {g_ground : Nat → Int32} (E : ws[1]? = some (ad 1, .inr (2, [.ref (ad 2), .ref (ad 3), .ref (ad 4), .ref (ad 5), .ref (ad 6), .ref (ad 7), .int g_size])) ∧ ws[7]? = some (ad 7, .inl (cZ, 6, .inl g_ground))) {o : Int32}   : ∀ (s0 : Int32), jn_X2_hasGround_24 g_ground s0 = some o → KW l xX2_hasGround D (kT cI cB cJ cZ) ws z (kQi D (kT cI cB cJ cZ) o [] ws z) 24 [] [.int s0] [] := by
  intro s0 h
  unfold jn_X2_hasGround_24 at h
  obtain ⟨hz, h⟩ := zc_some h
  obtain rfl := Option.some.inj h
  exact k_zret rfl hz dX2_hasGround_24
set_option maxHeartbeats 4000000 in
set_option maxRecDepth 100000 in
theorem wjn_X2_hasGround_23 {l : Launch} {D : va_G} {cI cB cJ cZ : ClassId} {ad : Nat → Nat} {ws : va_W} {z : Nat} {g_size : Int32} {g_ground : Nat → Int32} (E : ws[1]? = some (ad 1, .inr (2, [.ref (ad 2), .ref (ad 3), .ref (ad 4), .ref (ad 5), .ref (ad 6), .ref (ad 7), .int g_size])) ∧ ws[7]? = some (ad 7, .inl (cZ, 6, .inl g_ground))) {o : Int32}   : jn_X2_hasGround_23 g_ground = some o → KW l xX2_hasGround D (kT cI cB cJ cZ) ws z (kQi D (kT cI cB cJ cZ) o [] ws z) 23 [] [] [] := by
  intro h
  unfold jn_X2_hasGround_23 at h
  refine k_iconst (v := 0) dX2_hasGround_23 (by decide) ?_
  refine k_sub [] rfl ?_
  exact wjn_X2_hasGround_24 E  _ h
set_option maxHeartbeats 4000000 in
set_option maxRecDepth 100000 in
/-- KindParser$Grammar.hasGround -/
theorem c_X2_hasGround {l : Launch} {D : va_G} {cI cB cJ cZ : ClassId} {ad : Nat → Nat} (ws : va_W) (z : Nat) {g_size : Int32} {g_ground : Nat → Int32} (E : ws[1]? = some (ad 1, .inr (2, [.ref (ad 2), .ref (ad 3), .ref (ad 4), .ref (ad 5), .ref (ad 6), .ref (ad 7), .int g_size])) ∧ ws[7]? = some (ad 7, .inl (cZ, 6, .inl g_ground)))  {a1 : Int32} {o : Int32} (h : f_X2_hasGround a1 g_ground = some o) : Met l yX2_hasGround wsX2_hasGround rmX2_hasGround (kPc D (kT cI cB cJ cZ) [.ref (ad 1), .int a1] ws z) (kQi D (kT cI cB cJ cZ) o [] ws z) 0 0 (va_A ws z) := by
  refine KW.met (rm := rmX2_hasGround) (lv := [(0, .ref (ad 1)), (1, .int a1)]) (L := []) rfl (by decide) (Nat.le_of_ble_eq_true rfl) rfl (by intro q hq; simp only [List.mem_cons, List.not_mem_nil, or_false] at hq; exact hq.elim) ?_
  unfold f_X2_hasGround at h
  show KW l xX2_hasGround D (kT cI cB cJ cZ) ws z (kQi D (kT cI cB cJ cZ) o [] ws z) 0 [(0, .ref (ad 1)), (1, .int a1)] [] []
  refine k_iload_n dX2_hasGround_0 1 rfl rfl ?_
  obtain ⟨r1, hr1, h⟩ := Option.bind_eq_some_iff.mp h
  refine k_calliSN (As := [.int a1]) (st := []) (Lc := []) (L' := []) (r := r1) (host := "KindParser") gX2_hasGround_X5_isKind_n43 (by decide +kernel) qX2_hasGround_iX5 qX2_hasGround_sX5_isKind rfl rfl rfl hySX5_isKind ⟨Nat.le_of_ble_eq_true rfl, Nat.le_of_ble_eq_true rfl⟩ rfl rfl (Nat.le_of_ble_eq_true rfl) dX2_hasGround_1 (fun w z hw => c_X5_isKind w z trivial  hr1) rfl rfl ?_
  refine k_if_eq 23 dX2_hasGround_4 (by decide) h (fun h => ?_) (fun h => ?_)
  · skip
    refine k_sub [] rfl ?_
    exact wjn_X2_hasGround_23 E   h
  · skip
    refine k_aload_n dX2_hasGround_7 0 rfl rfl ?_
    refine k_get 1 5 E.1 rfl qX2_hasGround_wX2 (by decide) qX2_hasGround_f28 rfl dX2_hasGround_8 ?_
    refine k_iload_n dX2_hasGround_11 1 rfl rfl ?_
    refine k_bipush (v := 9) dX2_hasGround_12 (by decide) ?_
    refine k_isub dX2_hasGround_14 ?_
    refine k_zald 7 3 E.2 rfl dX2_hasGround_15 h (fun v3 h => ?_)
    refine k_if_eq 23 dX2_hasGround_16 (by decide) h (fun h => ?_) (fun h => ?_)
    · skip
      refine k_sub [] rfl ?_
      exact wjn_X2_hasGround_23 E   h
    · skip
      refine k_iconst (v := 1) dX2_hasGround_19 (by decide) ?_
      refine k_goto 24 dX2_hasGround_20 (by decide) ?_
      refine k_sub [] rfl ?_
      exact wjn_X2_hasGround_24 E  _ h
abbrev rmX1_closing : Room := { frames := 0, cells := 0, slots := 0, locals := 0 }
abbrev xX1_closing : KX := (rmX1_closing, cX1_closing, 3, some .int, RX1, wsX1_closing)
theorem hySX1_closing : yX1_closing.cls ≠ "java/lang/invoke/MethodHandle" ∧ yX1_closing.cls ≠ "java/lang/invoke/VarHandle" ∧ (parseMethodDescriptor yX1_closing.desc).map (fun d => d.parameters.length) = some 1 := by decide +kernel
theorem hyVX1_closing : yX1_closing.cls = RX1 ∧ yX1_closing.cls ≠ "java/lang/invoke/MethodHandle" ∧ yX1_closing.cls ≠ "java/lang/invoke/VarHandle" ∧ (parseMethodDescriptor yX1_closing.desc).map (fun d => d.parameters.length) = some 1 := ⟨rfl, hySX1_closing⟩
theorem qX1_closing_wX1 : ∀ w ∈ u_ws RX1 TX1 10, w ∈ wsX1_closing := by decide +kernel
theorem qX1_closing_f15 : Cond.fieldLink RX1 15 "KindParser$Cut" "length" "I" ∈ wsX1_closing := by decide +kernel
theorem qX1_closing_f9 : Cond.fieldLink RX1 9 "KindParser$Cut" "text" "[B" ∈ wsX1_closing := by decide +kernel
set_option maxHeartbeats 4000000 in
set_option maxRecDepth 100000 in
theorem wlp_X1_closing_4 {l : Launch} {D : va_G} {cI cB cJ cZ : ClassId} {ad : Nat → Nat} {ws : va_W} {z : Nat} {c_length : Int32} {c_size : Int32} {c_comments : Int32} {c_text : Nat → Int32} (E : ws[9]? = some (ad 9, .inr (1, [.ref (ad 10), .int c_length, .ref (ad 11), .ref (ad 12), .ref (ad 13), .ref (ad 14), .ref (ad 15), .ref (ad 16), .int c_size, .int c_comments])) ∧ ws[10]? = some (ad 10, .inl (cB, 80, .inl c_text))) {o : Int32} {k31 : Option (Int32)} (hk31 : k31 = some o → KW l xX1_closing D (kT cI cB cJ cZ) ws z (kQi D (kT cI cB cJ cZ) o [] ws z) 31 [] [] []) : ∀ (n : Nat) (x2 : Int32), lp_X1_closing_4 c_length c_text k31 n x2 = some o → KW l xX1_closing D (kT cI cB cJ cZ) ws z (kQi D (kT cI cB cJ cZ) o [] ws z) 4 [(0, .ref (ad 9)), (2, .int x2)] [] [] := by
  intro n
  induction n with
  | zero => intro x2 h; exact absurd h (by simp [lp_X1_closing_4])
  | succ n hk4 =>
    intro x2 h
    unfold lp_X1_closing_4 at h
    refine k_iload_n dX1_closing_4 1 rfl rfl ?_
    refine k_aload_n dX1_closing_5 0 rfl rfl ?_
    refine k_get 9 1 E.1 rfl qX1_closing_wX1 (by decide) qX1_closing_f15 rfl dX1_closing_6 ?_
    refine k_icmp_ge 31 dX1_closing_9 (by decide) h (fun h => ?_) (fun h => ?_)
    · skip
      refine k_sub [] rfl ?_
      exact hk31  h
    · skip
      refine k_aload_n dX1_closing_12 0 rfl rfl ?_
      refine k_get 9 0 E.1 rfl qX1_closing_wX1 (by decide) qX1_closing_f9 rfl dX1_closing_13 ?_
      refine k_iload_n dX1_closing_16 1 rfl rfl ?_
      refine k_bald 10 1 E.2 rfl dX1_closing_17 h (fun v2 h => ?_)
      refine k_bipush (v := 125) dX1_closing_18 (by decide) ?_
      refine k_icmp_ne 25 dX1_closing_20 (by decide) h (fun h => ?_) (fun h => ?_)
      · skip
        refine k_iload_n dX1_closing_23 1 rfl rfl ?_
        obtain rfl := Option.some.inj h
        exact k_iret rfl dX1_closing_24
      · skip
        refine k_iinc (i := 2) (lv' := fun x => [(2, .int x), (0, .ref (ad 9))]) dX1_closing_25 1 rfl (Nat.le_of_ble_eq_true rfl) (fun _ => rfl) h (fun x2_3 h => ?_)
        refine k_goto 4 dX1_closing_28 (by decide) ?_
        refine k_sub [1, 0] rfl ?_
        exact hk4 _ h
set_option maxHeartbeats 4000000 in
set_option maxRecDepth 100000 in
/-- KindParser$Cut.closing -/
theorem c_X1_closing {l : Launch} {D : va_G} {cI cB cJ cZ : ClassId} {ad : Nat → Nat} (ws : va_W) (z : Nat) {c_length : Int32} {c_size : Int32} {c_comments : Int32} {c_text : Nat → Int32} (E : ws[9]? = some (ad 9, .inr (1, [.ref (ad 10), .int c_length, .ref (ad 11), .ref (ad 12), .ref (ad 13), .ref (ad 14), .ref (ad 15), .ref (ad 16), .int c_size, .int c_comments])) ∧ ws[10]? = some (ad 10, .inl (cB, 80, .inl c_text)))  {a1 : Int32} {o : Int32} (h : f_X1_closing a1 c_length c_text = some o) : Met l yX1_closing wsX1_closing rmX1_closing (kPc D (kT cI cB cJ cZ) [.ref (ad 9), .int a1] ws z) (kQi D (kT cI cB cJ cZ) o [] ws z) 0 0 (va_A ws z) := by
  refine KW.met (rm := rmX1_closing) (lv := [(0, .ref (ad 9)), (1, .int a1)]) (L := []) rfl (by decide) (Nat.le_of_ble_eq_true rfl) rfl (by intro q hq; simp only [List.mem_cons, List.not_mem_nil, or_false] at hq; exact hq.elim) ?_
  unfold f_X1_closing at h
  show KW l xX1_closing D (kT cI cB cJ cZ) ws z (kQi D (kT cI cB cJ cZ) o [] ws z) 0 [(0, .ref (ad 9)), (1, .int a1)] [] []
  refine k_iload_n dX1_closing_0 1 rfl rfl ?_
  refine k_iconst (v := 1) dX1_closing_1 (by decide) ?_
  refine k_iadd dX1_closing_2 ?_
  refine k_istore_n (i := 2) (lv' := fun x => [(2, .int x), (0, .ref (ad 9)), (1, .int a1)]) dX1_closing_3 rfl (Nat.le_of_ble_eq_true rfl) (fun _ => rfl) h (fun x2_1 h => ?_)
  refine k_sub [1, 0] rfl ?_
  refine wlp_X1_closing_4 E ?_ FU _ h
  · intro  h
    refine k_iconst (v := (-1)) dX1_closing_31 (by decide) ?_
    obtain rfl := Option.some.inj h
    exact k_iret rfl dX1_closing_32
abbrev rmX4_drop : Room := { frames := 0, cells := 0, slots := 0, locals := 0 }
abbrev xX4_drop : KX := (rmX4_drop, cX4_drop, 1, none, RX4, wsX4_drop)
theorem hySX4_drop : yX4_drop.cls ≠ "java/lang/invoke/MethodHandle" ∧ yX4_drop.cls ≠ "java/lang/invoke/VarHandle" ∧ (parseMethodDescriptor yX4_drop.desc).map (fun d => d.parameters.length) = some 0 := by decide +kernel
theorem hyVX4_drop : yX4_drop.cls = RX4 ∧ yX4_drop.cls ≠ "java/lang/invoke/MethodHandle" ∧ yX4_drop.cls ≠ "java/lang/invoke/VarHandle" ∧ (parseMethodDescriptor yX4_drop.desc).map (fun d => d.parameters.length) = some 0 := ⟨rfl, hySX4_drop⟩
theorem qX4_drop_wX4 : ∀ w ∈ u_ws RX4 TX4 14, w ∈ wsX4_drop := by decide +kernel
theorem qX4_drop_f43 : Cond.fieldLink RX4 43 "KindParser$Tree" "size" "I" ∈ wsX4_drop := by decide +kernel
theorem qX4_drop_f46 : Cond.fieldLink RX4 46 "KindParser$Tree" "skipped" "I" ∈ wsX4_drop := by decide +kernel
set_option maxHeartbeats 4000000 in
set_option maxRecDepth 100000 in
/-- KindParser$Tree.drop -/
theorem c_X4_drop {l : Launch} {D : va_G} {cI cB cJ cZ : ClassId} {ad : Nat → Nat} (ws : va_W) (z : Nat) {t_waiting : Int32} {t_size : Int32} {t_skipped : Int32} (E : True) (e22 : ws[22]? = some (ad 22, .inr (4, [.ref (ad 1), .ref (ad 17), .ref (ad 23), .ref (ad 24), .ref (ad 25), .ref (ad 26), .ref (ad 27), .ref (ad 28), .ref (ad 29), .ref (ad 30), .ref (ad 31), .int t_waiting, .int t_size, .int t_skipped])))  {o : (Int32) × (Int32)} (h : f_X4_drop t_size t_skipped = some o) : Met l yX4_drop wsX4_drop rmX4_drop (kPc D (kT cI cB cJ cZ) [.ref (ad 22)] ws z) (kQv D (kT cI cB cJ cZ) [(22, (ad 22, .inr (4, [.ref (ad 1), .ref (ad 17), .ref (ad 23), .ref (ad 24), .ref (ad 25), .ref (ad 26), .ref (ad 27), .ref (ad 28), .ref (ad 29), .ref (ad 30), .ref (ad 31), .int t_waiting, .int o.1, .int o.2])))] ws z) 0 0 (va_A ws z) := by
  refine KW.met (rm := rmX4_drop) (lv := [(0, .ref (ad 22))]) (L := [(22, (ad 22, .inr (4, [.ref (ad 1), .ref (ad 17), .ref (ad 23), .ref (ad 24), .ref (ad 25), .ref (ad 26), .ref (ad 27), .ref (ad 28), .ref (ad 29), .ref (ad 30), .ref (ad 31), .int t_waiting, .int t_size, .int t_skipped])))]) rfl (by decide) (Nat.le_of_ble_eq_true rfl) rfl (by intro q hq; simp only [List.mem_cons, List.not_mem_nil, or_false] at hq; rcases hq with rfl <;> assumption) ?_
  unfold f_X4_drop at h
  show KW l xX4_drop D (kT cI cB cJ cZ) ws z (kQv D (kT cI cB cJ cZ) [(22, (ad 22, .inr (4, [.ref (ad 1), .ref (ad 17), .ref (ad 23), .ref (ad 24), .ref (ad 25), .ref (ad 26), .ref (ad 27), .ref (ad 28), .ref (ad 29), .ref (ad 30), .ref (ad 31), .int t_waiting, .int o.1, .int o.2])))] ws z) 0 [(0, .ref (ad 22))] [] [(22, (ad 22, .inr (4, [.ref (ad 1), .ref (ad 17), .ref (ad 23), .ref (ad 24), .ref (ad 25), .ref (ad 26), .ref (ad 27), .ref (ad 28), .ref (ad 29), .ref (ad 30), .ref (ad 31), .int t_waiting, .int t_size, .int t_skipped])))]
  refine k_aload_n dX4_drop_0 0 rfl rfl ?_
  refine k_iconst (v := 0) dX4_drop_1 (by decide) ?_
  refine k_put (L' := [(22, (ad 22, .inr (4, [.ref (ad 1), .ref (ad 17), .ref (ad 23), .ref (ad 24), .ref (ad 25), .ref (ad 26), .ref (ad 27), .ref (ad 28), .ref (ad 29), .ref (ad 30), .ref (ad 31), .int t_waiting, .int 0, .int t_skipped])))]) 22 12 rfl rfl qX4_drop_wX4 (by decide) tyX4 tyX4_ok nmX4 rfl qX4_drop_f43 rfl (tyX4_ok 12 (by decide)) rfl rfl (by decide) dX4_drop_2 rfl ?_
  refine k_aload_n dX4_drop_5 0 rfl rfl ?_
  refine k_iconst (v := 0) dX4_drop_6 (by decide) ?_
  refine k_put (L' := [(22, (ad 22, .inr (4, [.ref (ad 1), .ref (ad 17), .ref (ad 23), .ref (ad 24), .ref (ad 25), .ref (ad 26), .ref (ad 27), .ref (ad 28), .ref (ad 29), .ref (ad 30), .ref (ad 31), .int t_waiting, .int 0, .int 0])))]) 22 13 rfl rfl qX4_drop_wX4 (by decide) tyX4 tyX4_ok nmX4 rfl qX4_drop_f46 rfl (tyX4_ok 13 (by decide)) rfl rfl (by decide) dX4_drop_7 rfl ?_
  obtain rfl := Option.some.inj h
  exact k_vret rfl dX4_drop_10
abbrev rmX3_put : Room := { frames := 0, cells := 0, slots := 0, locals := 0 }
abbrev xX3_put : KX := (rmX3_put, cX3_put, 2, none, RX3, wsX3_put)
theorem hySX3_put : yX3_put.cls ≠ "java/lang/invoke/MethodHandle" ∧ yX3_put.cls ≠ "java/lang/invoke/VarHandle" ∧ (parseMethodDescriptor yX3_put.desc).map (fun d => d.parameters.length) = some 1 := by decide +kernel
theorem hyVX3_put : yX3_put.cls = RX3 ∧ yX3_put.cls ≠ "java/lang/invoke/MethodHandle" ∧ yX3_put.cls ≠ "java/lang/invoke/VarHandle" ∧ (parseMethodDescriptor yX3_put.desc).map (fun d => d.parameters.length) = some 1 := ⟨rfl, hySX3_put⟩
theorem qX3_put_wX3 : ∀ w ∈ u_ws RX3 TX3 9, w ∈ wsX3_put := by decide +kernel
theorem qX3_put_f26 : Cond.fieldLink RX3 26 "KindParser$Page" "size" "I" ∈ wsX3_put := by decide +kernel
theorem qX3_put_f11 : Cond.fieldLink RX3 11 "KindParser$Page" "sheet" "[B" ∈ wsX3_put := by decide +kernel
theorem qX3_put_f30 : Cond.fieldLink RX3 30 "KindParser$Page" "column" "I" ∈ wsX3_put := by decide +kernel
set_option maxHeartbeats 4000000 in
set_option maxRecDepth 100000 in
theorem wjn_X3_put_41 {l : Launch} {D : va_G} {cI cB cJ cZ : ClassId} {ad : Nat → Nat} {ws : va_W} {z : Nat} {p_size : Int32} {p_column : Int32} {p_sheet : Nat → Int32} (E : True) {o : (Int32) × (Int32) × (Nat → Int32)}   : ∀ (p_size : Int32) (p_column : Int32) (p_sheet : Nat → Int32), jn_X3_put_41  p_size p_column p_sheet = some o → KW l xX3_put D (kT cI cB cJ cZ) ws z (kQv D (kT cI cB cJ cZ) [(32, (ad 32, .inr (3, [.ref (ad 1), .ref (ad 9), .ref (ad 22), .ref (ad 33), .ref (ad 34), .ref (ad 35), .ref (ad 36), .int o.1, .int o.2.1]))), (33, (ad 33, .inl (cB, 1300, .inl o.2.2)))] ws z) 41 [] [] [(32, (ad 32, .inr (3, [.ref (ad 1), .ref (ad 9), .ref (ad 22), .ref (ad 33), .ref (ad 34), .ref (ad 35), .ref (ad 36), .int p_size, .int p_column]))), (33, (ad 33, .inl (cB, 1300, .inl p_sheet)))] := by
  intro p_size p_column p_sheet h
  unfold jn_X3_put_41 at h
  obtain rfl := Option.some.inj h
  exact k_vret rfl dX3_put_41
set_option maxHeartbeats 4000000 in
set_option maxRecDepth 100000 in
/-- KindParser$Page.put -/
theorem c_X3_put {l : Launch} {D : va_G} {cI cB cJ cZ : ClassId} {ad : Nat → Nat} (ws : va_W) (z : Nat) {p_size : Int32} {p_column : Int32} {p_sheet : Nat → Int32} (E : True) (e32 : ws[32]? = some (ad 32, .inr (3, [.ref (ad 1), .ref (ad 9), .ref (ad 22), .ref (ad 33), .ref (ad 34), .ref (ad 35), .ref (ad 36), .int p_size, .int p_column]))) (e33 : ws[33]? = some (ad 33, .inl (cB, 1300, .inl p_sheet))) {a1 : Int32} {o : (Int32) × (Int32) × (Nat → Int32)} (h : f_X3_put a1 p_size p_column p_sheet = some o) : Met l yX3_put wsX3_put rmX3_put (kPc D (kT cI cB cJ cZ) [.ref (ad 32), .int a1] ws z) (kQv D (kT cI cB cJ cZ) [(32, (ad 32, .inr (3, [.ref (ad 1), .ref (ad 9), .ref (ad 22), .ref (ad 33), .ref (ad 34), .ref (ad 35), .ref (ad 36), .int o.1, .int o.2.1]))), (33, (ad 33, .inl (cB, 1300, .inl o.2.2)))] ws z) 0 0 (va_A ws z) := by
  refine KW.met (rm := rmX3_put) (lv := [(0, .ref (ad 32)), (1, .int a1)]) (L := [(32, (ad 32, .inr (3, [.ref (ad 1), .ref (ad 9), .ref (ad 22), .ref (ad 33), .ref (ad 34), .ref (ad 35), .ref (ad 36), .int p_size, .int p_column]))), (33, (ad 33, .inl (cB, 1300, .inl p_sheet)))]) rfl (by decide) (Nat.le_of_ble_eq_true rfl) rfl (by intro q hq; simp only [List.mem_cons, List.not_mem_nil, or_false] at hq; rcases hq with rfl | rfl <;> assumption) ?_
  unfold f_X3_put at h
  show KW l xX3_put D (kT cI cB cJ cZ) ws z (kQv D (kT cI cB cJ cZ) [(32, (ad 32, .inr (3, [.ref (ad 1), .ref (ad 9), .ref (ad 22), .ref (ad 33), .ref (ad 34), .ref (ad 35), .ref (ad 36), .int o.1, .int o.2.1]))), (33, (ad 33, .inl (cB, 1300, .inl o.2.2)))] ws z) 0 [(0, .ref (ad 32)), (1, .int a1)] [] [(32, (ad 32, .inr (3, [.ref (ad 1), .ref (ad 9), .ref (ad 22), .ref (ad 33), .ref (ad 34), .ref (ad 35), .ref (ad 36), .int p_size, .int p_column]))), (33, (ad 33, .inl (cB, 1300, .inl p_sheet)))]
  refine k_aload_n dX3_put_0 0 rfl rfl ?_
  refine k_get 32 7 rfl rfl qX3_put_wX3 (by decide) qX3_put_f26 rfl dX3_put_1 ?_
  refine k_sipush (v := 1300) dX3_put_4 (by decide) ?_
  refine k_icmp_ge 41 dX3_put_7 (by decide) h (fun h => ?_) (fun h => ?_)
  · skip
    refine k_sub [] rfl ?_
    exact wjn_X3_put_41 E  _ _ _ h
  · skip
    refine k_aload_n dX3_put_10 0 rfl rfl ?_
    refine k_get 32 3 rfl rfl qX3_put_wX3 (by decide) qX3_put_f11 rfl dX3_put_11 ?_
    refine k_aload_n dX3_put_14 0 rfl rfl ?_
    refine k_get 32 7 rfl rfl qX3_put_wX3 (by decide) qX3_put_f26 rfl dX3_put_15 ?_
    refine k_iload_n dX3_put_18 1 rfl rfl ?_
    refine k_i2b dX3_put_19 ?_
    refine k_bast (L' := fun f => [(32, (ad 32, .inr (3, [.ref (ad 1), .ref (ad 9), .ref (ad 22), .ref (ad 33), .ref (ad 34), .ref (ad 35), .ref (ad 36), .int p_size, .int p_column]))), (33, (ad 33, .inl (cB, 1300, .inl f)))]) 33 1 rfl rfl rfl dX3_put_20 h (fun _ => rfl) (fun p_sheet_1 h => ?_)
    refine k_aload_n dX3_put_21 0 rfl rfl ?_
    refine k_dup dX3_put_22 rfl ?_
    refine k_get 32 7 rfl rfl qX3_put_wX3 (by decide) qX3_put_f26 rfl dX3_put_23 ?_
    refine k_iconst (v := 1) dX3_put_26 (by decide) ?_
    refine k_iadd dX3_put_27 ?_
    refine k_put (L' := [(32, (ad 32, .inr (3, [.ref (ad 1), .ref (ad 9), .ref (ad 22), .ref (ad 33), .ref (ad 34), .ref (ad 35), .ref (ad 36), .int (p_size + 1), .int p_column]))), (33, (ad 33, .inl (cB, 1300, .inl p_sheet_1)))]) 32 7 rfl rfl qX3_put_wX3 (by decide) tyX3 tyX3_ok nmX3 rfl qX3_put_f26 rfl (tyX3_ok 7 (by decide)) rfl rfl (by decide) dX3_put_28 rfl ?_
    refine k_aload_n dX3_put_31 0 rfl rfl ?_
    refine k_dup dX3_put_32 rfl ?_
    refine k_get 32 8 rfl rfl qX3_put_wX3 (by decide) qX3_put_f30 rfl dX3_put_33 ?_
    refine k_iconst (v := 1) dX3_put_36 (by decide) ?_
    refine k_iadd dX3_put_37 ?_
    refine k_put (L' := [(32, (ad 32, .inr (3, [.ref (ad 1), .ref (ad 9), .ref (ad 22), .ref (ad 33), .ref (ad 34), .ref (ad 35), .ref (ad 36), .int (p_size + 1), .int (p_column + 1)]))), (33, (ad 33, .inl (cB, 1300, .inl p_sheet_1)))]) 32 8 rfl rfl qX3_put_wX3 (by decide) tyX3 tyX3_ok nmX3 rfl qX3_put_f30 rfl (tyX3_ok 8 (by decide)) rfl rfl (by decide) dX3_put_38 rfl ?_
    refine k_sub [] rfl ?_
    exact wjn_X3_put_41 E  _ _ _ h
