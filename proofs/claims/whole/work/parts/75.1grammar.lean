abbrev rmX2_hasGround : Room := { frames := 1, cells := 0, slots := 0, locals := 20 }
abbrev xX2_hasGround : KX := (rmX2_hasGround, cX2_hasGround, 2, some .boolean, RX2, wsX2_hasGround)
theorem hySX2_hasGround : yX2_hasGround.cls ≠ "java/lang/invoke/MethodHandle" ∧ yX2_hasGround.cls ≠ "java/lang/invoke/VarHandle" ∧ (parseMethodDescriptor yX2_hasGround.desc).map (fun d => d.parameters.length) = some 1 := by decide +kernel
theorem hyVX2_hasGround : yX2_hasGround.cls = RX2 ∧ yX2_hasGround.cls ≠ "java/lang/invoke/MethodHandle" ∧ yX2_hasGround.cls ≠ "java/lang/invoke/VarHandle" ∧ (parseMethodDescriptor yX2_hasGround.desc).map (fun d => d.parameters.length) = some 1 := ⟨rfl, hySX2_hasGround⟩
theorem qX2_hasGround_iX5 : Cond.initialized RX5 ∈ wsX2_hasGround := by decide +kernel
theorem qX2_hasGround_sX5_isKind : Cond.static yX5_isKind ∈ wsX2_hasGround := by decide +kernel
theorem qX2_hasGround_wX2 : ∀ w ∈ u_ws RX2 TX2 7, w ∈ wsX2_hasGround := by decide +kernel
theorem qX2_hasGround_f28 : Cond.fieldLink RX2 28 "KindParser$Grammar" "ground" "[Z" ∈ wsX2_hasGround := by decide +kernel
set_option maxHeartbeats 4000000 in
set_option maxRecDepth 100000 in
theorem wjn_X2_hasGround_24 {l : Launch} {D : va_G} {cI cB cJ cZ : ClassId} {ad : Nat → Nat} {ws : va_W} {z : Nat} {g_size : Int32} {g_ground : Nat → Int32} (E : ws[1]? = some (ad 1, .inr (2, [.ref (ad 2), .ref (ad 3), .ref (ad 4), .ref (ad 5), .ref (ad 6), .ref (ad 7), .int g_size])) ∧ ws[7]? = some (ad 7, .inl (cZ, 6, .inl g_ground))) {o : Int32}   : ∀ (s0 : Int32), jn_X2_hasGround_24 g_ground s0 = some o → KW l xX2_hasGround D (kT cI cB cJ cZ) ws z (kQi D (kT cI cB cJ cZ) o [] ws z) 24 [] [.int s0] [] := by
  intro s0 h
  unfold jn_X2_hasGround_24 at h
  obtain ⟨hz, h⟩ := zc_some h
  obtain rfl := Option.some.inj h
  exact k_zret rfl hz dX2_hasGround_24
set_option maxHeartbeats 4000000 in
set_option maxRecDepth 100000 in
theorem wjn_X2_hasGround_23 {l : Launch} {D : va_G} {cI cB cJ cZ : ClassId} {ad : Nat → Nat} {ws : va_W} {z : Nat} {g_size : Int32} {g_ground : Nat → Int32} (E : ws[1]? = some (ad 1, .inr (2, [.ref (ad 2), .ref (ad 3), .ref (ad 4), .ref (ad 5), .ref (ad 6), .ref (ad 7), .int g_size])) ∧ ws[7]? = some (ad 7, .inl (cZ, 6, .inl g_ground))) {o : Int32}   : jn_X2_hasGround_23 g_ground = some o → KW l xX2_hasGround D (kT cI cB cJ cZ) ws z (kQi D (kT cI cB cJ cZ) o [] ws z) 23 [] [] [] := by
  intro h
  unfold jn_X2_hasGround_23 at h
  refine k_iconst (v := 0) dX2_hasGround_23 (by decide) ?_
  refine k_sub [] rfl ?_
  exact wjn_X2_hasGround_24 (cI := cI) (cB := cB) (cJ := cJ) (cZ := cZ) (ad := ad) E  _ h
set_option maxHeartbeats 4000000 in
set_option maxRecDepth 100000 in
/-- KindParser$Grammar.hasGround -/
theorem c_X2_hasGround {l : Launch} {D : va_G} {cI cB cJ cZ : ClassId} {ad : Nat → Nat} (ws : va_W) (z : Nat) {g_size : Int32} {g_ground : Nat → Int32} (E : ws[1]? = some (ad 1, .inr (2, [.ref (ad 2), .ref (ad 3), .ref (ad 4), .ref (ad 5), .ref (ad 6), .ref (ad 7), .int g_size])) ∧ ws[7]? = some (ad 7, .inl (cZ, 6, .inl g_ground)))  {a1 : Int32} {o : Int32} (h : f_X2_hasGround a1 g_ground = some o) : Met l yX2_hasGround wsX2_hasGround rmX2_hasGround (kPc D (kT cI cB cJ cZ) [.ref (ad 1), .int a1] ws z) (kQi D (kT cI cB cJ cZ) o [] ws z) 0 0 (va_A ws z) := by
  refine KW.met (rm := rmX2_hasGround) (lv := [(0, .ref (ad 1)), (1, .int a1)]) (L := []) rfl (by decide) (Nat.le_of_ble_eq_true rfl) rfl (fun q hq => by cases hq) ?_
  unfold f_X2_hasGround at h
  show KW l xX2_hasGround D (kT cI cB cJ cZ) ws z (kQi D (kT cI cB cJ cZ) o [] ws z) 0 [(0, .ref (ad 1)), (1, .int a1)] [] []
  refine k_iload_n dX2_hasGround_0 1 rfl rfl ?_
  obtain ⟨r1, hr1, h⟩ := Option.bind_eq_some_iff.mp h
  refine k_calliSN (As := [.int a1]) (st := []) (Lc := []) (L' := []) (r := r1) (host := "KindParser") gX2_hasGround_X5_isKind_n43 (by decide +kernel) qX2_hasGround_iX5 qX2_hasGround_sX5_isKind rfl rfl rfl hySX5_isKind ⟨Nat.le_of_ble_eq_true rfl, Nat.le_of_ble_eq_true rfl⟩ rfl rfl (Nat.le_of_ble_eq_true rfl) dX2_hasGround_1 (fun w z hw => c_X5_isKind (cI := cI) (cB := cB) (cJ := cJ) (cZ := cZ) (ad := ad) w z trivial  hr1) rfl rfl ?_
  refine k_if_eq 23 dX2_hasGround_4 (by decide) h (fun h => ?_) (fun h => ?_)
  · skip
    refine k_sub [] rfl ?_
    exact wjn_X2_hasGround_23 (cI := cI) (cB := cB) (cJ := cJ) (cZ := cZ) (ad := ad) E   h
  · skip
    refine k_aload_n dX2_hasGround_7 0 rfl rfl ?_
    refine k_get 1 5 E.1 rfl qX2_hasGround_wX2 (by decide) qX2_hasGround_f28 rfl dX2_hasGround_8 ?_
    refine k_iload_n dX2_hasGround_11 1 rfl rfl ?_
    refine k_bipush (v := 9) dX2_hasGround_12 (by decide) ?_
    refine k_isub dX2_hasGround_14 ?_
    refine k_zald 7 3 E.2 rfl dX2_hasGround_15 h (fun v3 h => ?_)
    refine k_if_eq 23 dX2_hasGround_16 (by decide) h (fun h => ?_) (fun h => ?_)
    · skip
      refine k_sub [] rfl ?_
      exact wjn_X2_hasGround_23 (cI := cI) (cB := cB) (cJ := cJ) (cZ := cZ) (ad := ad) E   h
    · skip
      refine k_iconst (v := 1) dX2_hasGround_19 (by decide) ?_
      refine k_goto 24 dX2_hasGround_20 (by decide) ?_
      refine k_sub [] rfl ?_
      exact wjn_X2_hasGround_24 (cI := cI) (cB := cB) (cJ := cJ) (cZ := cZ) (ad := ad) E  _ h
abbrev rmX2_symbolOf : Room := { frames := 0, cells := 0, slots := 0, locals := 0 }
abbrev xX2_symbolOf : KX := (rmX2_symbolOf, cX2_symbolOf, 3, some .int, RX2, wsX2_symbolOf)
theorem hySX2_symbolOf : yX2_symbolOf.cls ≠ "java/lang/invoke/MethodHandle" ∧ yX2_symbolOf.cls ≠ "java/lang/invoke/VarHandle" ∧ (parseMethodDescriptor yX2_symbolOf.desc).map (fun d => d.parameters.length) = some 2 := by decide +kernel
theorem hyVX2_symbolOf : yX2_symbolOf.cls = RX2 ∧ yX2_symbolOf.cls ≠ "java/lang/invoke/MethodHandle" ∧ yX2_symbolOf.cls ≠ "java/lang/invoke/VarHandle" ∧ (parseMethodDescriptor yX2_symbolOf.desc).map (fun d => d.parameters.length) = some 2 := ⟨rfl, hySX2_symbolOf⟩
theorem qX2_symbolOf_wX2 : ∀ w ∈ u_ws RX2 TX2 7, w ∈ wsX2_symbolOf := by decide +kernel
theorem qX2_symbolOf_f18 : Cond.fieldLink RX2 18 "KindParser$Grammar" "symbols" "[I" ∈ wsX2_symbolOf := by decide +kernel
set_option maxHeartbeats 4000000 in
set_option maxRecDepth 100000 in
/-- KindParser$Grammar.symbolOf -/
theorem c_X2_symbolOf {l : Launch} {D : va_G} {cI cB cJ cZ : ClassId} {ad : Nat → Nat} (ws : va_W) (z : Nat) {g_size : Int32} {g_symbols : Nat → Int32} (E : ws[1]? = some (ad 1, .inr (2, [.ref (ad 2), .ref (ad 3), .ref (ad 4), .ref (ad 5), .ref (ad 6), .ref (ad 7), .int g_size])) ∧ ws[4]? = some (ad 4, .inl (cI, 100, .inl g_symbols)))  {a1 : Int32} {a2 : Int32} {o : Int32} (h : f_X2_symbolOf a1 a2 g_symbols = some o) : Met l yX2_symbolOf wsX2_symbolOf rmX2_symbolOf (kPc D (kT cI cB cJ cZ) [.ref (ad 1), .int a1, .int a2] ws z) (kQi D (kT cI cB cJ cZ) o [] ws z) 0 0 (va_A ws z) := by
  refine KW.met (rm := rmX2_symbolOf) (lv := [(0, .ref (ad 1)), (1, .int a1), (2, .int a2)]) (L := []) rfl (by decide) (Nat.le_of_ble_eq_true rfl) rfl (fun q hq => by cases hq) ?_
  unfold f_X2_symbolOf at h
  show KW l xX2_symbolOf D (kT cI cB cJ cZ) ws z (kQi D (kT cI cB cJ cZ) o [] ws z) 0 [(0, .ref (ad 1)), (1, .int a1), (2, .int a2)] [] []
  refine k_aload_n dX2_symbolOf_0 0 rfl rfl ?_
  refine k_get 1 2 E.1 rfl qX2_symbolOf_wX2 (by decide) qX2_symbolOf_f18 rfl dX2_symbolOf_1 ?_
  refine k_iload_n dX2_symbolOf_4 1 rfl rfl ?_
  refine k_iconst (v := 5) dX2_symbolOf_5 (by decide) ?_
  refine k_imul dX2_symbolOf_6 ?_
  refine k_iload_n dX2_symbolOf_7 2 rfl rfl ?_
  refine k_iadd dX2_symbolOf_8 ?_
  refine k_iald 4 0 E.2 rfl dX2_symbolOf_9 h (fun v1 h => ?_)
  obtain rfl := Option.some.inj h
  exact k_iret rfl dX2_symbolOf_10
abbrev rmX2_symbolsIn : Room := { frames := 0, cells := 0, slots := 0, locals := 0 }
abbrev xX2_symbolsIn : KX := (rmX2_symbolsIn, cX2_symbolsIn, 5, some .int, RX2, wsX2_symbolsIn)
theorem hySX2_symbolsIn : yX2_symbolsIn.cls ≠ "java/lang/invoke/MethodHandle" ∧ yX2_symbolsIn.cls ≠ "java/lang/invoke/VarHandle" ∧ (parseMethodDescriptor yX2_symbolsIn.desc).map (fun d => d.parameters.length) = some 1 := by decide +kernel
theorem qX2_symbolsIn_k35 : Cond.constant RX2 35 1048576 ∈ wsX2_symbolsIn := by decide +kernel
set_option maxHeartbeats 4000000 in
set_option maxRecDepth 100000 in
theorem wjn_X2_symbolsIn_10 {l : Launch} {D : va_G} {cI cB cJ cZ : ClassId} {ad : Nat → Nat} {ws : va_W} {z : Nat}  (E : True) {o : Int32}   : jn_X2_symbolsIn_10  = some o → KW l xX2_symbolsIn D (kT cI cB cJ cZ) ws z (kQi D (kT cI cB cJ cZ) o [] ws z) 10 [] [] [] := by
  intro h
  unfold jn_X2_symbolsIn_10 at h
  refine k_iconst (v := (-1)) dX2_symbolsIn_10 (by decide) ?_
  obtain rfl := Option.some.inj h
  exact k_iret rfl dX2_symbolsIn_11
set_option maxHeartbeats 4000000 in
set_option maxRecDepth 100000 in
theorem wjn_X2_symbolsIn_46 {l : Launch} {D : va_G} {cI cB cJ cZ : ClassId} {ad : Nat → Nat} {ws : va_W} {z : Nat}  (E : True) {o : Int32}   : jn_X2_symbolsIn_46  = some o → KW l xX2_symbolsIn D (kT cI cB cJ cZ) ws z (kQi D (kT cI cB cJ cZ) o [] ws z) 46 [] [] [] := by
  intro h
  unfold jn_X2_symbolsIn_46 at h
  refine k_iconst (v := (-1)) dX2_symbolsIn_46 (by decide) ?_
  obtain rfl := Option.some.inj h
  exact k_iret rfl dX2_symbolsIn_47
set_option maxHeartbeats 4000000 in
set_option maxRecDepth 100000 in
theorem wlp_X2_symbolsIn_18 {l : Launch} {D : va_G} {cI cB cJ cZ : ClassId} {ad : Nat → Nat} {ws : va_W} {z : Nat}  (E : True) {o : Int32} {k61 : (Int32) → Option (Int32)} (hk61 : ∀ (x1 : Int32), k61 x1 = some o → KW l xX2_symbolsIn D (kT cI cB cJ cZ) ws z (kQi D (kT cI cB cJ cZ) o [] ws z) 61 [(1, .int x1)] [] []) : ∀ (n : Nat) (x1 : Int32) (x2 : Int32) (x3 : Int32), lp_X2_symbolsIn_18  k61 n x1 x2 x3 = some o → KW l xX2_symbolsIn D (kT cI cB cJ cZ) ws z (kQi D (kT cI cB cJ cZ) o [] ws z) 18 [(1, .int x1), (2, .int x2), (3, .int x3)] [] [] := by
  intro n
  induction n with
  | zero => intro x1 x2 x3 h; exact absurd h (by simp [lp_X2_symbolsIn_18])
  | succ n hk18 =>
    intro x1 x2 x3 h
    unfold lp_X2_symbolsIn_18 at h
    refine k_iload_n dX2_symbolsIn_18 2 rfl rfl ?_
    refine k_iconst (v := 5) dX2_symbolsIn_19 (by decide) ?_
    refine k_icmp_ge 61 dX2_symbolsIn_20 (by decide) h (fun h => ?_) (fun h => ?_)
    · skip
      refine k_sub [0] rfl ?_
      exact hk61 _ h
    · skip
      refine k_iload_n dX2_symbolsIn_23 1 rfl rfl ?_
      refine k_if_le 61 dX2_symbolsIn_24 (by decide) h (fun h => ?_) (fun h => ?_)
      · skip
        refine k_sub [0] rfl ?_
        exact hk61 _ h
      · skip
        refine k_iload_n dX2_symbolsIn_27 1 rfl rfl ?_
        refine k_bipush (v := 15) dX2_symbolsIn_28 (by decide) ?_
        refine k_iand dX2_symbolsIn_30 ?_
        refine k_istore (i := 4) (lv' := fun x => [(4, .int x), (1, .int x1), (2, .int x2), (3, .int x3)]) dX2_symbolsIn_31 (Nat.le_of_ble_eq_true rfl) (fun _ => rfl) h (fun x4_4 h => ?_)
        refine k_iload dX2_symbolsIn_33 0 rfl ?_
        refine k_iconst (v := 1) dX2_symbolsIn_35 (by decide) ?_
        refine k_icmp_lt 46 dX2_symbolsIn_36 (by decide) h (fun h => ?_) (fun h => ?_)
        · skip
          refine k_sub [] rfl ?_
          exact wjn_X2_symbolsIn_46 (cI := cI) (cB := cB) (cJ := cJ) (cZ := cZ) (ad := ad) E   h
        · skip
          refine k_iload dX2_symbolsIn_39 0 rfl ?_
          refine k_bipush (v := 14) dX2_symbolsIn_41 (by decide) ?_
          refine k_icmp_le 48 dX2_symbolsIn_43 (by decide) h (fun h => ?_) (fun h => ?_)
          · skip
            refine k_iinc (i := 1) (lv' := fun x => [(1, .int x), (4, .int x4_4), (2, .int x2), (3, .int x3)]) dX2_symbolsIn_48 1 rfl (Nat.le_of_ble_eq_true rfl) (fun _ => rfl) h (fun x1_5 h => ?_)
            refine k_iload_n dX2_symbolsIn_51 2 rfl rfl ?_
            refine k_iconst (v := 4) dX2_symbolsIn_52 (by decide) ?_
            refine k_ishr dX2_symbolsIn_53 ?_
            refine k_istore_n (i := 2) (lv' := fun x => [(2, .int x), (1, .int x1_5), (4, .int x4_4), (3, .int x3)]) dX2_symbolsIn_54 rfl (Nat.le_of_ble_eq_true rfl) (fun _ => rfl) h (fun x2_6 h => ?_)
            refine k_iinc (i := 3) (lv' := fun x => [(3, .int x), (2, .int x2_6), (1, .int x1_5), (4, .int x4_4)]) dX2_symbolsIn_55 3 rfl (Nat.le_of_ble_eq_true rfl) (fun _ => rfl) h (fun x3_7 h => ?_)
            refine k_goto 18 dX2_symbolsIn_58 (by decide) ?_
            refine k_sub [2, 1, 0] rfl ?_
            exact hk18 _ _ _ h
          · skip
            refine k_sub [] rfl ?_
            exact wjn_X2_symbolsIn_46 (cI := cI) (cB := cB) (cJ := cJ) (cZ := cZ) (ad := ad) E   h
set_option maxHeartbeats 4000000 in
set_option maxRecDepth 100000 in
theorem wjn_X2_symbolsIn_61 {l : Launch} {D : va_G} {cI cB cJ cZ : ClassId} {ad : Nat → Nat} {ws : va_W} {z : Nat}  (E : True) {o : Int32}   : ∀ (x1 : Int32), jn_X2_symbolsIn_61  x1 = some o → KW l xX2_symbolsIn D (kT cI cB cJ cZ) ws z (kQi D (kT cI cB cJ cZ) o [] ws z) 61 [(1, .int x1)] [] [] := by
  intro x1 h
  unfold jn_X2_symbolsIn_61 at h
  refine k_iload_n dX2_symbolsIn_61 0 rfl rfl ?_
  obtain rfl := Option.some.inj h
  exact k_iret rfl dX2_symbolsIn_62
set_option maxHeartbeats 4000000 in
set_option maxRecDepth 100000 in
/-- KindParser$Grammar.symbolsIn -/
theorem c_X2_symbolsIn {l : Launch} {D : va_G} {cI cB cJ cZ : ClassId} {ad : Nat → Nat} (ws : va_W) (z : Nat)  (E : True)  {a0 : Int32} {o : Int32} (h : f_X2_symbolsIn a0 = some o) : Met l yX2_symbolsIn wsX2_symbolsIn rmX2_symbolsIn (kPc D (kT cI cB cJ cZ) [.int a0] ws z) (kQi D (kT cI cB cJ cZ) o [] ws z) 0 0 (va_A ws z) := by
  refine KW.met (rm := rmX2_symbolsIn) (lv := [(0, .int a0)]) (L := []) rfl (by decide) (Nat.le_of_ble_eq_true rfl) rfl (fun q hq => by cases hq) ?_
  unfold f_X2_symbolsIn at h
  show KW l xX2_symbolsIn D (kT cI cB cJ cZ) ws z (kQi D (kT cI cB cJ cZ) o [] ws z) 0 [(0, .int a0)] [] []
  refine k_iload_n dX2_symbolsIn_0 0 rfl rfl ?_
  refine k_if_lt 10 dX2_symbolsIn_1 (by decide) h (fun h => ?_) (fun h => ?_)
  · skip
    refine k_sub [] rfl ?_
    exact wjn_X2_symbolsIn_10 (cI := cI) (cB := cB) (cJ := cJ) (cZ := cZ) (ad := ad) E   h
  · skip
    refine k_iload_n dX2_symbolsIn_4 0 rfl rfl ?_
    refine k_ldc (v := 1048576) dX2_symbolsIn_5 qX2_symbolsIn_k35 ?_
    refine k_icmp_lt 12 dX2_symbolsIn_7 (by decide) h (fun h => ?_) (fun h => ?_)
    · skip
      refine k_iconst (v := 0) dX2_symbolsIn_12 (by decide) ?_
      refine k_istore_n (i := 1) (lv' := fun x => [(1, .int x), (0, .int a0)]) dX2_symbolsIn_13 rfl (Nat.le_of_ble_eq_true rfl) (fun _ => rfl) h (fun x1_1 h => ?_)
      refine k_iload_n dX2_symbolsIn_14 1 rfl rfl ?_
      refine k_istore_n (i := 2) (lv' := fun x => [(2, .int x), (1, .int x1_1), (0, .int a0)]) dX2_symbolsIn_15 rfl (Nat.le_of_ble_eq_true rfl) (fun _ => rfl) h (fun x2_2 h => ?_)
      refine k_iconst (v := 0) dX2_symbolsIn_16 (by decide) ?_
      refine k_istore_n (i := 3) (lv' := fun x => [(3, .int x), (2, .int x2_2), (1, .int x1_1), (0, .int a0)]) dX2_symbolsIn_17 rfl (Nat.le_of_ble_eq_true rfl) (fun _ => rfl) h (fun x3_3 h => ?_)
      refine k_sub [2, 1, 0] rfl ?_
      refine wlp_X2_symbolsIn_18 (cI := cI) (cB := cB) (cJ := cJ) (cZ := cZ) (ad := ad) E ?_ FU _ _ _ h
      · intro x1 h
        refine k_sub [0] rfl ?_
        exact wjn_X2_symbolsIn_61 (cI := cI) (cB := cB) (cJ := cJ) (cZ := cZ) (ad := ad) E  _ h
    · skip
      refine k_sub [] rfl ?_
      exact wjn_X2_symbolsIn_10 (cI := cI) (cB := cB) (cJ := cJ) (cZ := cZ) (ad := ad) E   h
abbrev rmX2_hintsFit : Room := { frames := 0, cells := 0, slots := 0, locals := 0 }
abbrev xX2_hintsFit : KX := (rmX2_hintsFit, cX2_hintsFit, 4, some .boolean, RX2, wsX2_hintsFit)
theorem hySX2_hintsFit : yX2_hintsFit.cls ≠ "java/lang/invoke/MethodHandle" ∧ yX2_hintsFit.cls ≠ "java/lang/invoke/VarHandle" ∧ (parseMethodDescriptor yX2_hintsFit.desc).map (fun d => d.parameters.length) = some 2 := by decide +kernel
set_option maxHeartbeats 4000000 in
set_option maxRecDepth 100000 in
theorem wlp_X2_hintsFit_10 {l : Launch} {D : va_G} {cI cB cJ cZ : ClassId} {ad : Nat → Nat} {ws : va_W} {z : Nat}  (E : True) {o : Int32} {k34 : (Int32) → Option (Int32)} (hk34 : ∀ (x2 : Int32), k34 x2 = some o → KW l xX2_hintsFit D (kT cI cB cJ cZ) ws z (kQi D (kT cI cB cJ cZ) o [] ws z) 34 [(2, .int x2)] [] []) : ∀ (n : Nat) (x1 : Int32) (x2 : Int32) (x3 : Int32), lp_X2_hintsFit_10  k34 n x1 x2 x3 = some o → KW l xX2_hintsFit D (kT cI cB cJ cZ) ws z (kQi D (kT cI cB cJ cZ) o [] ws z) 10 [(1, .int x1), (2, .int x2), (3, .int x3)] [] [] := by
  intro n
  induction n with
  | zero => intro x1 x2 x3 h; exact absurd h (by simp [lp_X2_hintsFit_10])
  | succ n hk10 =>
    intro x1 x2 x3 h
    unfold lp_X2_hintsFit_10 at h
    refine k_iload_n dX2_hintsFit_10 2 rfl rfl ?_
    refine k_iload_n dX2_hintsFit_11 0 rfl rfl ?_
    refine k_icmp_ge 34 dX2_hintsFit_12 (by decide) h (fun h => ?_) (fun h => ?_)
    · skip
      refine k_sub [1] rfl ?_
      exact hk34 _ h
    · skip
      refine k_iload_n dX2_hintsFit_15 1 rfl rfl ?_
      refine k_iconst (v := 3) dX2_hintsFit_16 (by decide) ?_
      refine k_iand dX2_hintsFit_17 ?_
      refine k_iconst (v := 3) dX2_hintsFit_18 (by decide) ?_
      refine k_icmp_ne 24 dX2_hintsFit_19 (by decide) h (fun h => ?_) (fun h => ?_)
      · skip
        refine k_iconst (v := 0) dX2_hintsFit_22 (by decide) ?_
        obtain ⟨hz, h⟩ := zc_some h
        obtain rfl := Option.some.inj h
        exact k_zret rfl hz dX2_hintsFit_23
      · skip
        refine k_iload_n dX2_hintsFit_24 1 rfl rfl ?_
        refine k_iconst (v := 2) dX2_hintsFit_25 (by decide) ?_
        refine k_ishr dX2_hintsFit_26 ?_
        refine k_istore_n (i := 2) (lv' := fun x => [(2, .int x), (1, .int x1), (3, .int x3)]) dX2_hintsFit_27 rfl (Nat.le_of_ble_eq_true rfl) (fun _ => rfl) h (fun x2_4 h => ?_)
        refine k_iinc (i := 3) (lv' := fun x => [(3, .int x), (2, .int x2_4), (1, .int x1)]) dX2_hintsFit_28 2 rfl (Nat.le_of_ble_eq_true rfl) (fun _ => rfl) h (fun x3_5 h => ?_)
        refine k_goto 10 dX2_hintsFit_31 (by decide) ?_
        refine k_sub [2, 1, 0] rfl ?_
        exact hk10 _ _ _ h
set_option maxHeartbeats 4000000 in
set_option maxRecDepth 100000 in
theorem wjn_X2_hintsFit_43 {l : Launch} {D : va_G} {cI cB cJ cZ : ClassId} {ad : Nat → Nat} {ws : va_W} {z : Nat}  (E : True) {o : Int32}   : ∀ (s0 : Int32), jn_X2_hintsFit_43  s0 = some o → KW l xX2_hintsFit D (kT cI cB cJ cZ) ws z (kQi D (kT cI cB cJ cZ) o [] ws z) 43 [] [.int s0] [] := by
  intro s0 h
  unfold jn_X2_hintsFit_43 at h
  obtain ⟨hz, h⟩ := zc_some h
  obtain rfl := Option.some.inj h
  exact k_zret rfl hz dX2_hintsFit_43
set_option maxHeartbeats 4000000 in
set_option maxRecDepth 100000 in
/-- KindParser$Grammar.hintsFit -/
theorem c_X2_hintsFit {l : Launch} {D : va_G} {cI cB cJ cZ : ClassId} {ad : Nat → Nat} (ws : va_W) (z : Nat)  (E : True)  {a0 : Int32} {a1 : Int32} {o : Int32} (h : f_X2_hintsFit a0 a1 = some o) : Met l yX2_hintsFit wsX2_hintsFit rmX2_hintsFit (kPc D (kT cI cB cJ cZ) [.int a0, .int a1] ws z) (kQi D (kT cI cB cJ cZ) o [] ws z) 0 0 (va_A ws z) := by
  refine KW.met (rm := rmX2_hintsFit) (lv := [(0, .int a0), (1, .int a1)]) (L := []) rfl (by decide) (Nat.le_of_ble_eq_true rfl) rfl (fun q hq => by cases hq) ?_
  unfold f_X2_hintsFit at h
  show KW l xX2_hintsFit D (kT cI cB cJ cZ) ws z (kQi D (kT cI cB cJ cZ) o [] ws z) 0 [(0, .int a0), (1, .int a1)] [] []
  refine k_iload_n dX2_hintsFit_0 0 rfl rfl ?_
  refine k_if_ge 6 dX2_hintsFit_1 (by decide) h (fun h => ?_) (fun h => ?_)
  · skip
    refine k_iload_n dX2_hintsFit_6 0 rfl rfl ?_
    refine k_istore_n (i := 2) (lv' := fun x => [(2, .int x), (0, .int a0), (1, .int a1)]) dX2_hintsFit_7 rfl (Nat.le_of_ble_eq_true rfl) (fun _ => rfl) h (fun x2_1 h => ?_)
    refine k_iconst (v := 1) dX2_hintsFit_8 (by decide) ?_
    refine k_istore_n (i := 3) (lv' := fun x => [(3, .int x), (2, .int x2_1), (0, .int a0), (1, .int a1)]) dX2_hintsFit_9 rfl (Nat.le_of_ble_eq_true rfl) (fun _ => rfl) h (fun x3_2 h => ?_)
    refine k_sub [3, 1, 0] rfl ?_
    refine wlp_X2_hintsFit_10 (cI := cI) (cB := cB) (cJ := cJ) (cZ := cZ) (ad := ad) E ?_ FU _ _ _ h
    · intro x2 h
      refine k_iload_n dX2_hintsFit_34 0 rfl rfl ?_
      refine k_if_ne 42 dX2_hintsFit_35 (by decide) h (fun h => ?_) (fun h => ?_)
      · skip
        refine k_iconst (v := 1) dX2_hintsFit_38 (by decide) ?_
        refine k_goto 43 dX2_hintsFit_39 (by decide) ?_
        refine k_sub [] rfl ?_
        exact wjn_X2_hintsFit_43 (cI := cI) (cB := cB) (cJ := cJ) (cZ := cZ) (ad := ad) E  _ h
      · skip
        refine k_iconst (v := 0) dX2_hintsFit_42 (by decide) ?_
        refine k_sub [] rfl ?_
        exact wjn_X2_hintsFit_43 (cI := cI) (cB := cB) (cJ := cJ) (cZ := cZ) (ad := ad) E  _ h
  · skip
    refine k_iconst (v := 0) dX2_hintsFit_4 (by decide) ?_
    obtain ⟨hz, h⟩ := zc_some h
    obtain rfl := Option.some.inj h
    exact k_zret rfl hz dX2_hintsFit_5
abbrev rmX2_standsOnGround : Room := { frames := 2, cells := 0, slots := 0, locals := 41 }
abbrev xX2_standsOnGround : KX := (rmX2_standsOnGround, cX2_standsOnGround, 4, some .boolean, RX2, wsX2_standsOnGround)
theorem hySX2_standsOnGround : yX2_standsOnGround.cls ≠ "java/lang/invoke/MethodHandle" ∧ yX2_standsOnGround.cls ≠ "java/lang/invoke/VarHandle" ∧ (parseMethodDescriptor yX2_standsOnGround.desc).map (fun d => d.parameters.length) = some 1 := by decide +kernel
theorem hyVX2_standsOnGround : yX2_standsOnGround.cls = RX2 ∧ yX2_standsOnGround.cls ≠ "java/lang/invoke/MethodHandle" ∧ yX2_standsOnGround.cls ≠ "java/lang/invoke/VarHandle" ∧ (parseMethodDescriptor yX2_standsOnGround.desc).map (fun d => d.parameters.length) = some 1 := ⟨rfl, hySX2_standsOnGround⟩
theorem qX2_standsOnGround_wX2 : ∀ w ∈ u_ws RX2 TX2 7, w ∈ wsX2_standsOnGround := by decide +kernel
theorem qX2_standsOnGround_f15 : Cond.fieldLink RX2 15 "KindParser$Grammar" "lengths" "[I" ∈ wsX2_standsOnGround := by decide +kernel
theorem qX2_standsOnGround_iX5 : Cond.initialized RX5 ∈ wsX2_standsOnGround := by decide +kernel
theorem qX2_standsOnGround_sX5_isKind : Cond.static yX5_isKind ∈ wsX2_standsOnGround := by decide +kernel
set_option maxHeartbeats 4000000 in
set_option maxRecDepth 100000 in
theorem wjn_X2_standsOnGround_36 {l : Launch} {D : va_G} {cI cB cJ cZ : ClassId} {ad : Nat → Nat} {ws : va_W} {z : Nat} {g_size : Int32} {g_lengths : Nat → Int32} {g_symbols : Nat → Int32} {g_ground : Nat → Int32} (E : ws[1]? = some (ad 1, .inr (2, [.ref (ad 2), .ref (ad 3), .ref (ad 4), .ref (ad 5), .ref (ad 6), .ref (ad 7), .int g_size])) ∧ ws[3]? = some (ad 3, .inl (cI, 20, .inl g_lengths)) ∧ ws[4]? = some (ad 4, .inl (cI, 100, .inl g_symbols)) ∧ ws[7]? = some (ad 7, .inl (cZ, 6, .inl g_ground))) {o : Int32} {k2 : (Int32) → (Int32) → Option (Int32)} (hk2 : ∀ (x1 : Int32) (x2 : Int32), k2 x1 x2 = some o → KW l xX2_standsOnGround D (kT cI cB cJ cZ) ws z (kQi D (kT cI cB cJ cZ) o [] ws z) 2 [(0, .ref (ad 1)), (1, .int x1), (2, .int x2)] [] []) : ∀ (x1 : Int32) (x2 : Int32), jn_X2_standsOnGround_36 g_lengths g_symbols g_ground k2 x1 x2 = some o → KW l xX2_standsOnGround D (kT cI cB cJ cZ) ws z (kQi D (kT cI cB cJ cZ) o [] ws z) 36 [(0, .ref (ad 1)), (1, .int x1), (2, .int x2)] [] [] := by
  intro x1 x2 h
  unfold jn_X2_standsOnGround_36 at h
  refine k_iinc (i := 2) (lv' := fun x => [(2, .int x), (0, .ref (ad 1)), (1, .int x1)]) dX2_standsOnGround_36 2 rfl (Nat.le_of_ble_eq_true rfl) (fun _ => rfl) h (fun x2_6 h => ?_)
  refine k_goto 2 dX2_standsOnGround_39 (by decide) ?_
  refine k_sub [1, 2, 0] rfl ?_
  exact hk2 _ _ h
set_option maxHeartbeats 4000000 in
set_option maxRecDepth 100000 in
theorem wlp_X2_standsOnGround_2 {l : Launch} {D : va_G} {cI cB cJ cZ : ClassId} {ad : Nat → Nat} {ws : va_W} {z : Nat} {g_size : Int32} {g_lengths : Nat → Int32} {g_symbols : Nat → Int32} {g_ground : Nat → Int32} (E : ws[1]? = some (ad 1, .inr (2, [.ref (ad 2), .ref (ad 3), .ref (ad 4), .ref (ad 5), .ref (ad 6), .ref (ad 7), .int g_size])) ∧ ws[3]? = some (ad 3, .inl (cI, 20, .inl g_lengths)) ∧ ws[4]? = some (ad 4, .inl (cI, 100, .inl g_symbols)) ∧ ws[7]? = some (ad 7, .inl (cZ, 6, .inl g_ground))) {o : Int32} {k42 : Option (Int32)} (hk42 : k42 = some o → KW l xX2_standsOnGround D (kT cI cB cJ cZ) ws z (kQi D (kT cI cB cJ cZ) o [] ws z) 42 [] [] []) : ∀ (n : Nat) (x1 : Int32) (x2 : Int32), lp_X2_standsOnGround_2 g_lengths g_symbols g_ground k42 n x1 x2 = some o → KW l xX2_standsOnGround D (kT cI cB cJ cZ) ws z (kQi D (kT cI cB cJ cZ) o [] ws z) 2 [(0, .ref (ad 1)), (1, .int x1), (2, .int x2)] [] [] := by
  intro n
  induction n with
  | zero => intro x1 x2 h; exact absurd h (by simp [lp_X2_standsOnGround_2])
  | succ n hk2 =>
    intro x1 x2 h
    unfold lp_X2_standsOnGround_2 at h
    refine k_iload_n dX2_standsOnGround_2 2 rfl rfl ?_
    refine k_aload_n dX2_standsOnGround_3 0 rfl rfl ?_
    refine k_get 1 1 E.1 rfl qX2_standsOnGround_wX2 (by decide) qX2_standsOnGround_f15 rfl dX2_standsOnGround_4 ?_
    refine k_iload_n dX2_standsOnGround_7 1 rfl rfl ?_
    refine k_iald 3 0 E.2.1 rfl dX2_standsOnGround_8 h (fun v2 h => ?_)
    refine k_icmp_ge 42 dX2_standsOnGround_9 (by decide) h (fun h => ?_) (fun h => ?_)
    · skip
      refine k_sub [] rfl ?_
      exact hk42  h
    · skip
      refine k_aload_n dX2_standsOnGround_12 0 rfl rfl ?_
      refine k_iload_n dX2_standsOnGround_13 1 rfl rfl ?_
      refine k_iload_n dX2_standsOnGround_14 2 rfl rfl ?_
      obtain ⟨r3, hr3, h⟩ := Option.bind_eq_some_iff.mp h
      refine k_calliV (As := [.int x1, .int x2]) (st := []) (Lc := []) (L' := []) (r := r3) gX2_standsOnGround_X2_symbolOf rfl rfl rfl hyVX2_symbolOf ⟨Nat.le_of_ble_eq_true rfl, Nat.le_of_ble_eq_true rfl⟩ rfl rfl (Nat.le_of_ble_eq_true rfl) 1 E.1 rfl dX2_standsOnGround_15 (fun w z hw => c_X2_symbolOf (cI := cI) (cB := cB) (cJ := cJ) (cZ := cZ) (ad := ad) w z ⟨((hw 1).trans E.1), ((hw 4).trans E.2.2.1)⟩  hr3) rfl rfl ?_
      refine k_istore_n (i := 3) (lv' := fun x => [(3, .int x), (0, .ref (ad 1)), (1, .int x1), (2, .int x2)]) dX2_standsOnGround_18 rfl (Nat.le_of_ble_eq_true rfl) (fun _ => rfl) h (fun x3_4 h => ?_)
      refine k_iload_n dX2_standsOnGround_19 0 rfl rfl ?_
      obtain ⟨r5, hr5, h⟩ := Option.bind_eq_some_iff.mp h
      refine k_calliSN (As := [.int x3_4]) (st := []) (Lc := []) (L' := []) (r := r5) (host := "KindParser") gX2_standsOnGround_X5_isKind_n43 (by decide +kernel) qX2_standsOnGround_iX5 qX2_standsOnGround_sX5_isKind rfl rfl rfl hySX5_isKind ⟨Nat.le_of_ble_eq_true rfl, Nat.le_of_ble_eq_true rfl⟩ rfl rfl (Nat.le_of_ble_eq_true rfl) dX2_standsOnGround_20 (fun w z hw => c_X5_isKind (cI := cI) (cB := cB) (cJ := cJ) (cZ := cZ) (ad := ad) w z trivial  hr5) rfl rfl ?_
      refine k_if_eq 36 dX2_standsOnGround_23 (by decide) h (fun h => ?_) (fun h => ?_)
      · skip
        refine k_sub [1, 2, 3] rfl ?_
        exact wjn_X2_standsOnGround_36 (cI := cI) (cB := cB) (cJ := cJ) (cZ := cZ) (ad := ad) E hk2 _ _ h
      · skip
        refine k_aload_n dX2_standsOnGround_26 1 rfl rfl ?_
        refine k_iload_n dX2_standsOnGround_27 0 rfl rfl ?_
        obtain ⟨r7, hr7, h⟩ := Option.bind_eq_some_iff.mp h
        refine k_calliV (As := [.int x3_4]) (st := []) (Lc := []) (L' := []) (r := r7) gX2_standsOnGround_X2_hasGround rfl rfl rfl hyVX2_hasGround ⟨Nat.le_of_ble_eq_true rfl, Nat.le_of_ble_eq_true rfl⟩ rfl rfl (Nat.le_of_ble_eq_true rfl) 1 E.1 rfl dX2_standsOnGround_28 (fun w z hw => c_X2_hasGround (cI := cI) (cB := cB) (cJ := cJ) (cZ := cZ) (ad := ad) w z ⟨((hw 1).trans E.1), ((hw 7).trans E.2.2.2)⟩  hr7) rfl rfl ?_
        refine k_if_ne 36 dX2_standsOnGround_31 (by decide) h (fun h => ?_) (fun h => ?_)
        · skip
          refine k_iconst (v := 0) dX2_standsOnGround_34 (by decide) ?_
          obtain ⟨hz, h⟩ := zc_some h
          obtain rfl := Option.some.inj h
          exact k_zret rfl hz dX2_standsOnGround_35
        · skip
          refine k_sub [1, 2, 3] rfl ?_
          exact wjn_X2_standsOnGround_36 (cI := cI) (cB := cB) (cJ := cJ) (cZ := cZ) (ad := ad) E hk2 _ _ h
set_option maxHeartbeats 4000000 in
set_option maxRecDepth 100000 in
/-- KindParser$Grammar.standsOnGround -/
theorem c_X2_standsOnGround {l : Launch} {D : va_G} {cI cB cJ cZ : ClassId} {ad : Nat → Nat} (ws : va_W) (z : Nat) {g_size : Int32} {g_lengths : Nat → Int32} {g_symbols : Nat → Int32} {g_ground : Nat → Int32} (E : ws[1]? = some (ad 1, .inr (2, [.ref (ad 2), .ref (ad 3), .ref (ad 4), .ref (ad 5), .ref (ad 6), .ref (ad 7), .int g_size])) ∧ ws[3]? = some (ad 3, .inl (cI, 20, .inl g_lengths)) ∧ ws[4]? = some (ad 4, .inl (cI, 100, .inl g_symbols)) ∧ ws[7]? = some (ad 7, .inl (cZ, 6, .inl g_ground)))  {a1 : Int32} {o : Int32} (h : f_X2_standsOnGround a1 g_lengths g_symbols g_ground = some o) : Met l yX2_standsOnGround wsX2_standsOnGround rmX2_standsOnGround (kPc D (kT cI cB cJ cZ) [.ref (ad 1), .int a1] ws z) (kQi D (kT cI cB cJ cZ) o [] ws z) 0 0 (va_A ws z) := by
  refine KW.met (rm := rmX2_standsOnGround) (lv := [(0, .ref (ad 1)), (1, .int a1)]) (L := []) rfl (by decide) (Nat.le_of_ble_eq_true rfl) rfl (fun q hq => by cases hq) ?_
  unfold f_X2_standsOnGround at h
  show KW l xX2_standsOnGround D (kT cI cB cJ cZ) ws z (kQi D (kT cI cB cJ cZ) o [] ws z) 0 [(0, .ref (ad 1)), (1, .int a1)] [] []
  refine k_iconst (v := 0) dX2_standsOnGround_0 (by decide) ?_
  refine k_istore_n (i := 2) (lv' := fun x => [(2, .int x), (0, .ref (ad 1)), (1, .int a1)]) dX2_standsOnGround_1 rfl (Nat.le_of_ble_eq_true rfl) (fun _ => rfl) h (fun x2_1 h => ?_)
  refine k_sub [1, 2, 0] rfl ?_
  refine wlp_X2_standsOnGround_2 (cI := cI) (cB := cB) (cJ := cJ) (cZ := cZ) (ad := ad) E ?_ FU _ _ h
  · intro  h
    refine k_iconst (v := 1) dX2_standsOnGround_42 (by decide) ?_
    obtain ⟨hz, h⟩ := zc_some h
    obtain rfl := Option.some.inj h
    exact k_zret rfl hz dX2_standsOnGround_43
abbrev rmX2_findGround : Room := { frames := 3, cells := 0, slots := 0, locals := 64 }
abbrev xX2_findGround : KX := (rmX2_findGround, cX2_findGround, 4, none, RX2, wsX2_findGround)
theorem hySX2_findGround : yX2_findGround.cls ≠ "java/lang/invoke/MethodHandle" ∧ yX2_findGround.cls ≠ "java/lang/invoke/VarHandle" ∧ (parseMethodDescriptor yX2_findGround.desc).map (fun d => d.parameters.length) = some 0 := by decide +kernel
theorem hyVX2_findGround : yX2_findGround.cls = RX2 ∧ yX2_findGround.cls ≠ "java/lang/invoke/MethodHandle" ∧ yX2_findGround.cls ≠ "java/lang/invoke/VarHandle" ∧ (parseMethodDescriptor yX2_findGround.desc).map (fun d => d.parameters.length) = some 0 := ⟨rfl, hySX2_findGround⟩
theorem qX2_findGround_wX2 : ∀ w ∈ u_ws RX2 TX2 7, w ∈ wsX2_findGround := by decide +kernel
theorem qX2_findGround_f31 : Cond.fieldLink RX2 31 "KindParser$Grammar" "size" "I" ∈ wsX2_findGround := by decide +kernel
theorem qX2_findGround_f9 : Cond.fieldLink RX2 9 "KindParser$Grammar" "heads" "[I" ∈ wsX2_findGround := by decide +kernel
theorem qX2_findGround_f28 : Cond.fieldLink RX2 28 "KindParser$Grammar" "ground" "[Z" ∈ wsX2_findGround := by decide +kernel
set_option maxHeartbeats 4000000 in
set_option maxRecDepth 100000 in
theorem wjn_X2_findGround_64 {l : Launch} {D : va_G} {cI cB cJ cZ : ClassId} {ad : Nat → Nat} {ws : va_W} {z : Nat} {g_size : Int32} {g_heads : Nat → Int32} {g_lengths : Nat → Int32} {g_symbols : Nat → Int32} (E : ws[1]? = some (ad 1, .inr (2, [.ref (ad 2), .ref (ad 3), .ref (ad 4), .ref (ad 5), .ref (ad 6), .ref (ad 7), .int g_size])) ∧ ws[2]? = some (ad 2, .inl (cI, 20, .inl g_heads)) ∧ ws[3]? = some (ad 3, .inl (cI, 20, .inl g_lengths)) ∧ ws[4]? = some (ad 4, .inl (cI, 100, .inl g_symbols))) {o : (Nat → Int32)} {k18 : (Int32) → (Int32) → (Int32) → (Nat → Int32) → Option ((Nat → Int32))} (hk18 : ∀ (x1 : Int32) (x2 : Int32) (x3 : Int32) (g_ground : Nat → Int32), k18 x1 x2 x3 g_ground = some o → KW l xX2_findGround D (kT cI cB cJ cZ) ws z (kQv D (kT cI cB cJ cZ) [(7, (ad 7, .inl (cZ, 6, .inl o)))] ws z) 18 [(0, .ref (ad 1)), (1, .int x1), (2, .int x2), (3, .int x3)] [] [(7, (ad 7, .inl (cZ, 6, .inl g_ground)))]) : ∀ (x1 : Int32) (x2 : Int32) (x3 : Int32) (g_ground : Nat → Int32), jn_X2_findGround_64 g_size g_heads g_lengths g_symbols k18 x1 x2 x3 g_ground = some o → KW l xX2_findGround D (kT cI cB cJ cZ) ws z (kQv D (kT cI cB cJ cZ) [(7, (ad 7, .inl (cZ, 6, .inl o)))] ws z) 64 [(0, .ref (ad 1)), (1, .int x1), (2, .int x2), (3, .int x3)] [] [(7, (ad 7, .inl (cZ, 6, .inl g_ground)))] := by
  intro x1 x2 x3 g_ground h
  unfold jn_X2_findGround_64 at h
  refine k_iinc (i := 3) (lv' := fun x => [(3, .int x), (0, .ref (ad 1)), (1, .int x1), (2, .int x2)]) dX2_findGround_64 3 rfl (Nat.le_of_ble_eq_true rfl) (fun _ => rfl) h (fun x3_8 h => ?_)
  refine k_goto 18 dX2_findGround_67 (by decide) ?_
  refine k_sub [1, 2, 3, 0] rfl ?_
  exact hk18 _ _ _ _ h
set_option maxHeartbeats 4000000 in
set_option maxRecDepth 100000 in
theorem wlp_X2_findGround_18 {l : Launch} {D : va_G} {cI cB cJ cZ : ClassId} {ad : Nat → Nat} {ws : va_W} {z : Nat} {g_size : Int32} {g_heads : Nat → Int32} {g_lengths : Nat → Int32} {g_symbols : Nat → Int32} (E : ws[1]? = some (ad 1, .inr (2, [.ref (ad 2), .ref (ad 3), .ref (ad 4), .ref (ad 5), .ref (ad 6), .ref (ad 7), .int g_size])) ∧ ws[2]? = some (ad 2, .inl (cI, 20, .inl g_heads)) ∧ ws[3]? = some (ad 3, .inl (cI, 20, .inl g_lengths)) ∧ ws[4]? = some (ad 4, .inl (cI, 100, .inl g_symbols))) {o : (Nat → Int32)} {k70 : (Int32) → (Int32) → (Nat → Int32) → Option ((Nat → Int32))} (hk70 : ∀ (x1 : Int32) (x2 : Int32) (g_ground : Nat → Int32), k70 x1 x2 g_ground = some o → KW l xX2_findGround D (kT cI cB cJ cZ) ws z (kQv D (kT cI cB cJ cZ) [(7, (ad 7, .inl (cZ, 6, .inl o)))] ws z) 70 [(0, .ref (ad 1)), (1, .int x1), (2, .int x2)] [] [(7, (ad 7, .inl (cZ, 6, .inl g_ground)))]) : ∀ (n : Nat) (x1 : Int32) (x2 : Int32) (x3 : Int32) (g_ground : Nat → Int32), lp_X2_findGround_18 g_size g_heads g_lengths g_symbols k70 n x1 x2 x3 g_ground = some o → KW l xX2_findGround D (kT cI cB cJ cZ) ws z (kQv D (kT cI cB cJ cZ) [(7, (ad 7, .inl (cZ, 6, .inl o)))] ws z) 18 [(0, .ref (ad 1)), (1, .int x1), (2, .int x2), (3, .int x3)] [] [(7, (ad 7, .inl (cZ, 6, .inl g_ground)))] := by
  intro n
  induction n with
  | zero => intro x1 x2 x3 g_ground h; exact absurd h (by simp [lp_X2_findGround_18])
  | succ n hk18 =>
    intro x1 x2 x3 g_ground h
    unfold lp_X2_findGround_18 at h
    refine k_iload_n dX2_findGround_18 3 rfl rfl ?_
    refine k_aload_n dX2_findGround_19 0 rfl rfl ?_
    refine k_get 1 6 E.1 rfl qX2_findGround_wX2 (by decide) qX2_findGround_f31 rfl dX2_findGround_20 ?_
    refine k_icmp_ge 70 dX2_findGround_23 (by decide) h (fun h => ?_) (fun h => ?_)
    · skip
      refine k_sub [0, 1, 2] rfl ?_
      exact hk70 _ _ _ h
    · skip
      refine k_aload_n dX2_findGround_26 0 rfl rfl ?_
      refine k_aload_n dX2_findGround_27 0 rfl rfl ?_
      refine k_get 1 0 E.1 rfl qX2_findGround_wX2 (by decide) qX2_findGround_f9 rfl dX2_findGround_28 ?_
      refine k_iload_n dX2_findGround_31 3 rfl rfl ?_
      refine k_iald 2 0 E.2.1 rfl dX2_findGround_32 h (fun v5 h => ?_)
      obtain ⟨r6, hr6, h⟩ := Option.bind_eq_some_iff.mp h
      refine k_calliV (As := [.int v5]) (st := []) (Lc := []) (L' := [(7, (ad 7, .inl (cZ, 6, .inl g_ground)))]) (r := r6) gX2_findGround_X2_hasGround rfl rfl rfl hyVX2_hasGround ⟨Nat.le_of_ble_eq_true rfl, Nat.le_of_ble_eq_true rfl⟩ rfl rfl (Nat.le_of_ble_eq_true rfl) 1 E.1 rfl dX2_findGround_33 (fun w z hw => c_X2_hasGround (cI := cI) (cB := cB) (cJ := cJ) (cZ := cZ) (ad := ad) w z ⟨((hw 1).trans E.1), (hw 7)⟩  hr6) rfl rfl ?_
      refine k_if_ne 64 dX2_findGround_36 (by decide) h (fun h => ?_) (fun h => ?_)
      · skip
        refine k_aload_n dX2_findGround_39 0 rfl rfl ?_
        refine k_iload_n dX2_findGround_40 3 rfl rfl ?_
        obtain ⟨r7, hr7, h⟩ := Option.bind_eq_some_iff.mp h
        refine k_calliV (As := [.int x3]) (st := []) (Lc := []) (L' := [(7, (ad 7, .inl (cZ, 6, .inl g_ground)))]) (r := r7) gX2_findGround_X2_standsOnGround rfl rfl rfl hyVX2_standsOnGround ⟨Nat.le_of_ble_eq_true rfl, Nat.le_of_ble_eq_true rfl⟩ rfl rfl (Nat.le_of_ble_eq_true rfl) 1 E.1 rfl dX2_findGround_41 (fun w z hw => c_X2_standsOnGround (cI := cI) (cB := cB) (cJ := cJ) (cZ := cZ) (ad := ad) w z ⟨((hw 1).trans E.1), ((hw 3).trans E.2.2.1), ((hw 4).trans E.2.2.2), (hw 7)⟩  hr7) rfl rfl ?_
        refine k_if_eq 64 dX2_findGround_44 (by decide) h (fun h => ?_) (fun h => ?_)
        · skip
          refine k_sub [0, 1, 2, 3] rfl ?_
          exact wjn_X2_findGround_64 (cI := cI) (cB := cB) (cJ := cJ) (cZ := cZ) (ad := ad) E hk18 _ _ _ _ h
        · skip
          refine k_aload_n dX2_findGround_47 0 rfl rfl ?_
          refine k_get 1 5 E.1 rfl qX2_findGround_wX2 (by decide) qX2_findGround_f28 rfl dX2_findGround_48 ?_
          refine k_aload_n dX2_findGround_51 0 rfl rfl ?_
          refine k_get 1 0 E.1 rfl qX2_findGround_wX2 (by decide) qX2_findGround_f9 rfl dX2_findGround_52 ?_
          refine k_iload_n dX2_findGround_55 3 rfl rfl ?_
          refine k_iald 2 0 E.2.1 rfl dX2_findGround_56 h (fun v9 h => ?_)
          refine k_bipush (v := 9) dX2_findGround_57 (by decide) ?_
          refine k_isub dX2_findGround_59 ?_
          refine k_iconst (v := 1) dX2_findGround_60 (by decide) ?_
          refine k_zast (L' := fun f => [(7, (ad 7, .inl (cZ, 6, .inl f)))]) 7 3 rfl rfl rfl dX2_findGround_61 h (fun _ => rfl) (fun g_ground_10 h => ?_)
          refine k_iconst (v := 1) dX2_findGround_62 (by decide) ?_
          refine k_istore_n (i := 1) (lv' := fun x => [(1, .int x), (0, .ref (ad 1)), (2, .int x2), (3, .int x3)]) dX2_findGround_63 rfl (Nat.le_of_ble_eq_true rfl) (fun _ => rfl) h (fun x1_11 h => ?_)
          refine k_sub [1, 0, 2, 3] rfl ?_
          exact wjn_X2_findGround_64 (cI := cI) (cB := cB) (cJ := cJ) (cZ := cZ) (ad := ad) E hk18 _ _ _ _ h
      · skip
        refine k_sub [0, 1, 2, 3] rfl ?_
        exact wjn_X2_findGround_64 (cI := cI) (cB := cB) (cJ := cJ) (cZ := cZ) (ad := ad) E hk18 _ _ _ _ h
set_option maxHeartbeats 4000000 in
set_option maxRecDepth 100000 in
theorem wlp_X2_findGround_4 {l : Launch} {D : va_G} {cI cB cJ cZ : ClassId} {ad : Nat → Nat} {ws : va_W} {z : Nat} {g_size : Int32} {g_heads : Nat → Int32} {g_lengths : Nat → Int32} {g_symbols : Nat → Int32} (E : ws[1]? = some (ad 1, .inr (2, [.ref (ad 2), .ref (ad 3), .ref (ad 4), .ref (ad 5), .ref (ad 6), .ref (ad 7), .int g_size])) ∧ ws[2]? = some (ad 2, .inl (cI, 20, .inl g_heads)) ∧ ws[3]? = some (ad 3, .inl (cI, 20, .inl g_lengths)) ∧ ws[4]? = some (ad 4, .inl (cI, 100, .inl g_symbols))) {o : (Nat → Int32)} {k76 : (Nat → Int32) → Option ((Nat → Int32))} (hk76 : ∀ (g_ground : Nat → Int32), k76 g_ground = some o → KW l xX2_findGround D (kT cI cB cJ cZ) ws z (kQv D (kT cI cB cJ cZ) [(7, (ad 7, .inl (cZ, 6, .inl o)))] ws z) 76 [] [] [(7, (ad 7, .inl (cZ, 6, .inl g_ground)))]) : ∀ (n : Nat) (x1 : Int32) (x2 : Int32) (g_ground : Nat → Int32), lp_X2_findGround_4 g_size g_heads g_lengths g_symbols k76 n x1 x2 g_ground = some o → KW l xX2_findGround D (kT cI cB cJ cZ) ws z (kQv D (kT cI cB cJ cZ) [(7, (ad 7, .inl (cZ, 6, .inl o)))] ws z) 4 [(0, .ref (ad 1)), (1, .int x1), (2, .int x2)] [] [(7, (ad 7, .inl (cZ, 6, .inl g_ground)))] := by
  intro n
  induction n with
  | zero => intro x1 x2 g_ground h; exact absurd h (by simp [lp_X2_findGround_4])
  | succ n hk4 =>
    intro x1 x2 g_ground h
    unfold lp_X2_findGround_4 at h
    refine k_iload_n dX2_findGround_4 2 rfl rfl ?_
    refine k_bipush (v := 6) dX2_findGround_5 (by decide) ?_
    refine k_icmp_ge 76 dX2_findGround_7 (by decide) h (fun h => ?_) (fun h => ?_)
    · skip
      refine k_sub [] rfl ?_
      exact hk76 _ h
    · skip
      refine k_iload_n dX2_findGround_10 1 rfl rfl ?_
      refine k_if_eq 76 dX2_findGround_11 (by decide) h (fun h => ?_) (fun h => ?_)
      · skip
        refine k_sub [] rfl ?_
        exact hk76 _ h
      · skip
        refine k_iconst (v := 0) dX2_findGround_14 (by decide) ?_
        refine k_istore_n (i := 1) (lv' := fun x => [(1, .int x), (0, .ref (ad 1)), (2, .int x2)]) dX2_findGround_15 rfl (Nat.le_of_ble_eq_true rfl) (fun _ => rfl) h (fun x1_3 h => ?_)
        refine k_iconst (v := 0) dX2_findGround_16 (by decide) ?_
        refine k_istore_n (i := 3) (lv' := fun x => [(3, .int x), (1, .int x1_3), (0, .ref (ad 1)), (2, .int x2)]) dX2_findGround_17 rfl (Nat.le_of_ble_eq_true rfl) (fun _ => rfl) h (fun x3_4 h => ?_)
        refine k_sub [2, 1, 3, 0] rfl ?_
        refine wlp_X2_findGround_18 (cI := cI) (cB := cB) (cJ := cJ) (cZ := cZ) (ad := ad) E ?_ FU _ _ _ _ h
        · intro x1 x2 g_ground h
          refine k_iinc (i := 2) (lv' := fun x => [(2, .int x), (0, .ref (ad 1)), (1, .int x1)]) dX2_findGround_70 2 rfl (Nat.le_of_ble_eq_true rfl) (fun _ => rfl) h (fun x2_12 h => ?_)
          refine k_goto 4 dX2_findGround_73 (by decide) ?_
          refine k_sub [1, 2, 0] rfl ?_
          exact hk4 _ _ _ h
set_option maxHeartbeats 4000000 in
set_option maxRecDepth 100000 in
theorem wjn_X2_findGround_76 {l : Launch} {D : va_G} {cI cB cJ cZ : ClassId} {ad : Nat → Nat} {ws : va_W} {z : Nat} {g_size : Int32} {g_heads : Nat → Int32} {g_lengths : Nat → Int32} {g_symbols : Nat → Int32} (E : ws[1]? = some (ad 1, .inr (2, [.ref (ad 2), .ref (ad 3), .ref (ad 4), .ref (ad 5), .ref (ad 6), .ref (ad 7), .int g_size])) ∧ ws[2]? = some (ad 2, .inl (cI, 20, .inl g_heads)) ∧ ws[3]? = some (ad 3, .inl (cI, 20, .inl g_lengths)) ∧ ws[4]? = some (ad 4, .inl (cI, 100, .inl g_symbols))) {o : (Nat → Int32)}   : ∀ (g_ground : Nat → Int32), jn_X2_findGround_76 g_size g_heads g_lengths g_symbols g_ground = some o → KW l xX2_findGround D (kT cI cB cJ cZ) ws z (kQv D (kT cI cB cJ cZ) [(7, (ad 7, .inl (cZ, 6, .inl o)))] ws z) 76 [] [] [(7, (ad 7, .inl (cZ, 6, .inl g_ground)))] := by
  intro g_ground h
  unfold jn_X2_findGround_76 at h
  obtain rfl := Option.some.inj h
  exact k_vret rfl dX2_findGround_76
set_option maxHeartbeats 4000000 in
set_option maxRecDepth 100000 in
/-- KindParser$Grammar.findGround -/
theorem c_X2_findGround {l : Launch} {D : va_G} {cI cB cJ cZ : ClassId} {ad : Nat → Nat} (ws : va_W) (z : Nat) {g_size : Int32} {g_heads : Nat → Int32} {g_lengths : Nat → Int32} {g_symbols : Nat → Int32} {g_ground : Nat → Int32} (E : ws[1]? = some (ad 1, .inr (2, [.ref (ad 2), .ref (ad 3), .ref (ad 4), .ref (ad 5), .ref (ad 6), .ref (ad 7), .int g_size])) ∧ ws[2]? = some (ad 2, .inl (cI, 20, .inl g_heads)) ∧ ws[3]? = some (ad 3, .inl (cI, 20, .inl g_lengths)) ∧ ws[4]? = some (ad 4, .inl (cI, 100, .inl g_symbols))) (e7 : ws[7]? = some (ad 7, .inl (cZ, 6, .inl g_ground)))  {o : (Nat → Int32)} (h : f_X2_findGround g_size g_heads g_lengths g_symbols g_ground = some o) : Met l yX2_findGround wsX2_findGround rmX2_findGround (kPc D (kT cI cB cJ cZ) [.ref (ad 1)] ws z) (kQv D (kT cI cB cJ cZ) [(7, (ad 7, .inl (cZ, 6, .inl o)))] ws z) 0 0 (va_A ws z) := by
  refine KW.met (rm := rmX2_findGround) (lv := [(0, .ref (ad 1))]) (L := [(7, (ad 7, .inl (cZ, 6, .inl g_ground)))]) rfl (by decide) (Nat.le_of_ble_eq_true rfl) rfl (by intro q hq; simp only [List.mem_cons, List.not_mem_nil, or_false] at hq; rcases hq with rfl <;> assumption) ?_
  unfold f_X2_findGround at h
  show KW l xX2_findGround D (kT cI cB cJ cZ) ws z (kQv D (kT cI cB cJ cZ) [(7, (ad 7, .inl (cZ, 6, .inl o)))] ws z) 0 [(0, .ref (ad 1))] [] [(7, (ad 7, .inl (cZ, 6, .inl g_ground)))]
  refine k_iconst (v := 1) dX2_findGround_0 (by decide) ?_
  refine k_istore_n (i := 1) (lv' := fun x => [(1, .int x), (0, .ref (ad 1))]) dX2_findGround_1 rfl (Nat.le_of_ble_eq_true rfl) (fun _ => rfl) h (fun x1_1 h => ?_)
  refine k_iconst (v := 0) dX2_findGround_2 (by decide) ?_
  refine k_istore_n (i := 2) (lv' := fun x => [(2, .int x), (1, .int x1_1), (0, .ref (ad 1))]) dX2_findGround_3 rfl (Nat.le_of_ble_eq_true rfl) (fun _ => rfl) h (fun x2_2 h => ?_)
  refine k_sub [2, 1, 0] rfl ?_
  refine wlp_X2_findGround_4 (cI := cI) (cB := cB) (cJ := cJ) (cZ := cZ) (ad := ad) E ?_ FU _ _ _ h
  · intro g_ground h
    refine k_sub [] rfl ?_
    exact wjn_X2_findGround_76 (cI := cI) (cB := cB) (cJ := cJ) (cZ := cZ) (ad := ad) E  _ h
abbrev rmX2_add : Room := { frames := 4, cells := 0, slots := 0, locals := 87 }
abbrev xX2_add : KX := (rmX2_add, cX2_add, 9, some .int, RX2, wsX2_add)
theorem hySX2_add : yX2_add.cls ≠ "java/lang/invoke/MethodHandle" ∧ yX2_add.cls ≠ "java/lang/invoke/VarHandle" ∧ (parseMethodDescriptor yX2_add.desc).map (fun d => d.parameters.length) = some 4 := by decide +kernel
theorem hyVX2_add : yX2_add.cls = RX2 ∧ yX2_add.cls ≠ "java/lang/invoke/MethodHandle" ∧ yX2_add.cls ≠ "java/lang/invoke/VarHandle" ∧ (parseMethodDescriptor yX2_add.desc).map (fun d => d.parameters.length) = some 4 := ⟨rfl, hySX2_add⟩
theorem qX2_add_wX2 : ∀ w ∈ u_ws RX2 TX2 7, w ∈ wsX2_add := by decide +kernel
theorem qX2_add_f31 : Cond.fieldLink RX2 31 "KindParser$Grammar" "size" "I" ∈ wsX2_add := by decide +kernel
theorem qX2_add_f9 : Cond.fieldLink RX2 9 "KindParser$Grammar" "heads" "[I" ∈ wsX2_add := by decide +kernel
theorem qX2_add_f15 : Cond.fieldLink RX2 15 "KindParser$Grammar" "lengths" "[I" ∈ wsX2_add := by decide +kernel
theorem qX2_add_f24 : Cond.fieldLink RX2 24 "KindParser$Grammar" "ins" "[Z" ∈ wsX2_add := by decide +kernel
theorem qX2_add_f18 : Cond.fieldLink RX2 18 "KindParser$Grammar" "symbols" "[I" ∈ wsX2_add := by decide +kernel
theorem qX2_add_f21 : Cond.fieldLink RX2 21 "KindParser$Grammar" "hints" "[I" ∈ wsX2_add := by decide +kernel
set_option maxHeartbeats 4000000 in
set_option maxRecDepth 100000 in
theorem wjn_X2_add_25 {l : Launch} {D : va_G} {cI cB cJ cZ : ClassId} {ad : Nat → Nat} {ws : va_W} {z : Nat}  (E : True) {o : Int32 × (Int32) × (Nat → Int32) × (Nat → Int32) × (Nat → Int32) × (Nat → Int32) × (Nat → Int32) × (Nat → Int32)}   : ∀ (g_size : Int32) (g_heads : Nat → Int32) (g_lengths : Nat → Int32) (g_symbols : Nat → Int32) (g_hints : Nat → Int32) (g_ins : Nat → Int32) (g_ground : Nat → Int32), jn_X2_add_25  g_size g_heads g_lengths g_symbols g_hints g_ins g_ground = some o → KW l xX2_add D (kT cI cB cJ cZ) ws z (kQi D (kT cI cB cJ cZ) o.1 [(1, (ad 1, .inr (2, [.ref (ad 2), .ref (ad 3), .ref (ad 4), .ref (ad 5), .ref (ad 6), .ref (ad 7), .int o.2.1]))), (2, (ad 2, .inl (cI, 20, .inl o.2.2.1))), (3, (ad 3, .inl (cI, 20, .inl o.2.2.2.1))), (4, (ad 4, .inl (cI, 100, .inl o.2.2.2.2.1))), (5, (ad 5, .inl (cI, 100, .inl o.2.2.2.2.2.1))), (6, (ad 6, .inl (cZ, 20, .inl o.2.2.2.2.2.2.1))), (7, (ad 7, .inl (cZ, 6, .inl o.2.2.2.2.2.2.2)))] ws z) 25 [] [] [(1, (ad 1, .inr (2, [.ref (ad 2), .ref (ad 3), .ref (ad 4), .ref (ad 5), .ref (ad 6), .ref (ad 7), .int g_size]))), (2, (ad 2, .inl (cI, 20, .inl g_heads))), (3, (ad 3, .inl (cI, 20, .inl g_lengths))), (4, (ad 4, .inl (cI, 100, .inl g_symbols))), (5, (ad 5, .inl (cI, 100, .inl g_hints))), (6, (ad 6, .inl (cZ, 20, .inl g_ins))), (7, (ad 7, .inl (cZ, 6, .inl g_ground)))] := by
  intro g_size g_heads g_lengths g_symbols g_hints g_ins g_ground h
  unfold jn_X2_add_25 at h
  refine k_iconst (v := (-1)) dX2_add_25 (by decide) ?_
  obtain rfl := Option.some.inj h
  exact k_iret rfl dX2_add_26
set_option maxHeartbeats 4000000 in
set_option maxRecDepth 100000 in
theorem wlp_X2_add_56 {l : Launch} {D : va_G} {cI cB cJ cZ : ClassId} {ad : Nat → Nat} {ws : va_W} {z : Nat}  (E : True) {o : Int32 × (Int32) × (Nat → Int32) × (Nat → Int32) × (Nat → Int32) × (Nat → Int32) × (Nat → Int32) × (Nat → Int32)} {k119 : (Int32) → (Int32) → (Nat → Int32) → (Nat → Int32) → (Nat → Int32) → (Nat → Int32) → (Nat → Int32) → (Nat → Int32) → Option (Int32 × (Int32) × (Nat → Int32) × (Nat → Int32) × (Nat → Int32) × (Nat → Int32) × (Nat → Int32) × (Nat → Int32))} (hk119 : ∀ (x5 : Int32) (g_size : Int32) (g_heads : Nat → Int32) (g_lengths : Nat → Int32) (g_symbols : Nat → Int32) (g_hints : Nat → Int32) (g_ins : Nat → Int32) (g_ground : Nat → Int32), k119 x5 g_size g_heads g_lengths g_symbols g_hints g_ins g_ground = some o → KW l xX2_add D (kT cI cB cJ cZ) ws z (kQi D (kT cI cB cJ cZ) o.1 [(1, (ad 1, .inr (2, [.ref (ad 2), .ref (ad 3), .ref (ad 4), .ref (ad 5), .ref (ad 6), .ref (ad 7), .int o.2.1]))), (2, (ad 2, .inl (cI, 20, .inl o.2.2.1))), (3, (ad 3, .inl (cI, 20, .inl o.2.2.2.1))), (4, (ad 4, .inl (cI, 100, .inl o.2.2.2.2.1))), (5, (ad 5, .inl (cI, 100, .inl o.2.2.2.2.2.1))), (6, (ad 6, .inl (cZ, 20, .inl o.2.2.2.2.2.2.1))), (7, (ad 7, .inl (cZ, 6, .inl o.2.2.2.2.2.2.2)))] ws z) 119 [(0, .ref (ad 1)), (5, .int x5)] [] [(1, (ad 1, .inr (2, [.ref (ad 2), .ref (ad 3), .ref (ad 4), .ref (ad 5), .ref (ad 6), .ref (ad 7), .int g_size]))), (2, (ad 2, .inl (cI, 20, .inl g_heads))), (3, (ad 3, .inl (cI, 20, .inl g_lengths))), (4, (ad 4, .inl (cI, 100, .inl g_symbols))), (5, (ad 5, .inl (cI, 100, .inl g_hints))), (6, (ad 6, .inl (cZ, 20, .inl g_ins))), (7, (ad 7, .inl (cZ, 6, .inl g_ground)))]) : ∀ (n : Nat) (x2 : Int32) (x3 : Int32) (x5 : Int32) (x6 : Int32) (x7 : Int32) (g_size : Int32) (g_heads : Nat → Int32) (g_lengths : Nat → Int32) (g_symbols : Nat → Int32) (g_hints : Nat → Int32) (g_ins : Nat → Int32) (g_ground : Nat → Int32), lp_X2_add_56  k119 n x2 x3 x5 x6 x7 g_size g_heads g_lengths g_symbols g_hints g_ins g_ground = some o → KW l xX2_add D (kT cI cB cJ cZ) ws z (kQi D (kT cI cB cJ cZ) o.1 [(1, (ad 1, .inr (2, [.ref (ad 2), .ref (ad 3), .ref (ad 4), .ref (ad 5), .ref (ad 6), .ref (ad 7), .int o.2.1]))), (2, (ad 2, .inl (cI, 20, .inl o.2.2.1))), (3, (ad 3, .inl (cI, 20, .inl o.2.2.2.1))), (4, (ad 4, .inl (cI, 100, .inl o.2.2.2.2.1))), (5, (ad 5, .inl (cI, 100, .inl o.2.2.2.2.2.1))), (6, (ad 6, .inl (cZ, 20, .inl o.2.2.2.2.2.2.1))), (7, (ad 7, .inl (cZ, 6, .inl o.2.2.2.2.2.2.2)))] ws z) 56 [(0, .ref (ad 1)), (2, .int x2), (3, .int x3), (5, .int x5), (6, .int x6), (7, .int x7)] [] [(1, (ad 1, .inr (2, [.ref (ad 2), .ref (ad 3), .ref (ad 4), .ref (ad 5), .ref (ad 6), .ref (ad 7), .int g_size]))), (2, (ad 2, .inl (cI, 20, .inl g_heads))), (3, (ad 3, .inl (cI, 20, .inl g_lengths))), (4, (ad 4, .inl (cI, 100, .inl g_symbols))), (5, (ad 5, .inl (cI, 100, .inl g_hints))), (6, (ad 6, .inl (cZ, 20, .inl g_ins))), (7, (ad 7, .inl (cZ, 6, .inl g_ground)))] := by
  intro n
  induction n with
  | zero => intro x2 x3 x5 x6 x7 g_size g_heads g_lengths g_symbols g_hints g_ins g_ground h; exact absurd h (by simp [lp_X2_add_56])
  | succ n hk56 =>
    intro x2 x3 x5 x6 x7 g_size g_heads g_lengths g_symbols g_hints g_ins g_ground h
    unfold lp_X2_add_56 at h
    refine k_iload dX2_add_56 5 rfl ?_
    refine k_iload dX2_add_58 4 rfl ?_
    refine k_icmp_ge 119 dX2_add_60 (by decide) h (fun h => ?_) (fun h => ?_)
    · skip
      refine k_sub [0, 3] rfl ?_
      exact hk119 _ _ _ _ _ _ _ _ h
    · skip
      refine k_iload dX2_add_63 4 rfl ?_
      refine k_iconst (v := 1) dX2_add_65 (by decide) ?_
      refine k_isub dX2_add_66 ?_
      refine k_iload dX2_add_67 5 rfl ?_
      refine k_isub dX2_add_69 ?_
      refine k_istore (i := 8) (lv' := fun x => [(8, .int x), (0, .ref (ad 1)), (2, .int x2), (3, .int x3), (5, .int x5), (6, .int x6), (7, .int x7)]) dX2_add_70 (Nat.le_of_ble_eq_true rfl) (fun _ => rfl) h (fun x8_8 h => ?_)
      refine k_aload_n dX2_add_72 1 rfl rfl ?_
      refine k_get 1 2 rfl rfl qX2_add_wX2 (by decide) qX2_add_f18 rfl dX2_add_73 ?_
      refine k_iload dX2_add_76 4 rfl ?_
      refine k_iconst (v := 5) dX2_add_78 (by decide) ?_
      refine k_imul dX2_add_79 ?_
      refine k_iload dX2_add_80 6 rfl ?_
      refine k_iadd dX2_add_82 ?_
      refine k_iload_n dX2_add_83 2 rfl rfl ?_
      refine k_iconst (v := 4) dX2_add_84 (by decide) ?_
      refine k_iload dX2_add_85 0 rfl ?_
      refine k_imul dX2_add_87 ?_
      refine k_ishr dX2_add_88 ?_
      refine k_bipush (v := 15) dX2_add_89 (by decide) ?_
      refine k_iand dX2_add_91 ?_
      refine k_iast (L' := fun f => [(1, (ad 1, .inr (2, [.ref (ad 2), .ref (ad 3), .ref (ad 4), .ref (ad 5), .ref (ad 6), .ref (ad 7), .int g_size]))), (2, (ad 2, .inl (cI, 20, .inl g_heads))), (3, (ad 3, .inl (cI, 20, .inl g_lengths))), (4, (ad 4, .inl (cI, 100, .inl f))), (5, (ad 5, .inl (cI, 100, .inl g_hints))), (6, (ad 6, .inl (cZ, 20, .inl g_ins))), (7, (ad 7, .inl (cZ, 6, .inl g_ground)))]) 4 0 rfl rfl rfl dX2_add_92 h (fun _ => rfl) (fun g_symbols_9 h => ?_)
      refine k_aload_n dX2_add_93 1 rfl rfl ?_
      refine k_get 1 3 rfl rfl qX2_add_wX2 (by decide) qX2_add_f21 rfl dX2_add_94 ?_
      refine k_iload dX2_add_97 4 rfl ?_
      refine k_iconst (v := 5) dX2_add_99 (by decide) ?_
      refine k_imul dX2_add_100 ?_
      refine k_iload dX2_add_101 6 rfl ?_
      refine k_iadd dX2_add_103 ?_
      refine k_iload_n dX2_add_104 3 rfl rfl ?_
      refine k_iconst (v := 2) dX2_add_105 (by decide) ?_
      refine k_iload dX2_add_106 0 rfl ?_
      refine k_imul dX2_add_108 ?_
      refine k_ishr dX2_add_109 ?_
      refine k_iconst (v := 3) dX2_add_110 (by decide) ?_
      refine k_iand dX2_add_111 ?_
      refine k_iast (L' := fun f => [(1, (ad 1, .inr (2, [.ref (ad 2), .ref (ad 3), .ref (ad 4), .ref (ad 5), .ref (ad 6), .ref (ad 7), .int g_size]))), (2, (ad 2, .inl (cI, 20, .inl g_heads))), (3, (ad 3, .inl (cI, 20, .inl g_lengths))), (4, (ad 4, .inl (cI, 100, .inl g_symbols_9))), (5, (ad 5, .inl (cI, 100, .inl f))), (6, (ad 6, .inl (cZ, 20, .inl g_ins))), (7, (ad 7, .inl (cZ, 6, .inl g_ground)))]) 5 0 rfl rfl rfl dX2_add_112 h (fun _ => rfl) (fun g_hints_10 h => ?_)
      refine k_iinc (i := 7) (lv' := fun x => [(7, .int x), (8, .int x8_8), (0, .ref (ad 1)), (2, .int x2), (3, .int x3), (5, .int x5), (6, .int x6)]) dX2_add_113 6 rfl (Nat.le_of_ble_eq_true rfl) (fun _ => rfl) h (fun x7_11 h => ?_)
      refine k_goto 56 dX2_add_116 (by decide) ?_
      refine k_sub [2, 3, 4, 5, 6, 0] rfl ?_
      exact hk56 _ _ _ _ _ _ _ _ _ _ _ _ h
set_option maxHeartbeats 4000000 in
set_option maxRecDepth 100000 in
/-- KindParser$Grammar.add -/
theorem c_X2_add {l : Launch} {D : va_G} {cI cB cJ cZ : ClassId} {ad : Nat → Nat} (ws : va_W) (z : Nat) {g_size : Int32} {g_heads : Nat → Int32} {g_lengths : Nat → Int32} {g_symbols : Nat → Int32} {g_hints : Nat → Int32} {g_ins : Nat → Int32} {g_ground : Nat → Int32} (E : True) (e1 : ws[1]? = some (ad 1, .inr (2, [.ref (ad 2), .ref (ad 3), .ref (ad 4), .ref (ad 5), .ref (ad 6), .ref (ad 7), .int g_size]))) (e2 : ws[2]? = some (ad 2, .inl (cI, 20, .inl g_heads))) (e3 : ws[3]? = some (ad 3, .inl (cI, 20, .inl g_lengths))) (e4 : ws[4]? = some (ad 4, .inl (cI, 100, .inl g_symbols))) (e5 : ws[5]? = some (ad 5, .inl (cI, 100, .inl g_hints))) (e6 : ws[6]? = some (ad 6, .inl (cZ, 20, .inl g_ins))) (e7 : ws[7]? = some (ad 7, .inl (cZ, 6, .inl g_ground))) {a1 : Int32} {a2 : Int32} {a3 : Int32} {a4 : Int32} {o : Int32 × (Int32) × (Nat → Int32) × (Nat → Int32) × (Nat → Int32) × (Nat → Int32) × (Nat → Int32) × (Nat → Int32)} (h : f_X2_add a1 a2 a3 a4 g_size g_heads g_lengths g_symbols g_hints g_ins g_ground = some o) : Met l yX2_add wsX2_add rmX2_add (kPc D (kT cI cB cJ cZ) [.ref (ad 1), .int a1, .int a2, .int a3, .int a4] ws z) (kQi D (kT cI cB cJ cZ) o.1 [(1, (ad 1, .inr (2, [.ref (ad 2), .ref (ad 3), .ref (ad 4), .ref (ad 5), .ref (ad 6), .ref (ad 7), .int o.2.1]))), (2, (ad 2, .inl (cI, 20, .inl o.2.2.1))), (3, (ad 3, .inl (cI, 20, .inl o.2.2.2.1))), (4, (ad 4, .inl (cI, 100, .inl o.2.2.2.2.1))), (5, (ad 5, .inl (cI, 100, .inl o.2.2.2.2.2.1))), (6, (ad 6, .inl (cZ, 20, .inl o.2.2.2.2.2.2.1))), (7, (ad 7, .inl (cZ, 6, .inl o.2.2.2.2.2.2.2)))] ws z) 0 0 (va_A ws z) := by
  refine KW.met (rm := rmX2_add) (lv := [(0, .ref (ad 1)), (1, .int a1), (2, .int a2), (3, .int a3), (4, .int a4)]) (L := [(1, (ad 1, .inr (2, [.ref (ad 2), .ref (ad 3), .ref (ad 4), .ref (ad 5), .ref (ad 6), .ref (ad 7), .int g_size]))), (2, (ad 2, .inl (cI, 20, .inl g_heads))), (3, (ad 3, .inl (cI, 20, .inl g_lengths))), (4, (ad 4, .inl (cI, 100, .inl g_symbols))), (5, (ad 5, .inl (cI, 100, .inl g_hints))), (6, (ad 6, .inl (cZ, 20, .inl g_ins))), (7, (ad 7, .inl (cZ, 6, .inl g_ground)))]) rfl (by decide) (Nat.le_of_ble_eq_true rfl) rfl (by intro q hq; simp only [List.mem_cons, List.not_mem_nil, or_false] at hq; rcases hq with rfl | rfl | rfl | rfl | rfl | rfl | rfl <;> assumption) ?_
  unfold f_X2_add at h
  show KW l xX2_add D (kT cI cB cJ cZ) ws z (kQi D (kT cI cB cJ cZ) o.1 [(1, (ad 1, .inr (2, [.ref (ad 2), .ref (ad 3), .ref (ad 4), .ref (ad 5), .ref (ad 6), .ref (ad 7), .int o.2.1]))), (2, (ad 2, .inl (cI, 20, .inl o.2.2.1))), (3, (ad 3, .inl (cI, 20, .inl o.2.2.2.1))), (4, (ad 4, .inl (cI, 100, .inl o.2.2.2.2.1))), (5, (ad 5, .inl (cI, 100, .inl o.2.2.2.2.2.1))), (6, (ad 6, .inl (cZ, 20, .inl o.2.2.2.2.2.2.1))), (7, (ad 7, .inl (cZ, 6, .inl o.2.2.2.2.2.2.2)))] ws z) 0 [(0, .ref (ad 1)), (1, .int a1), (2, .int a2), (3, .int a3), (4, .int a4)] [] [(1, (ad 1, .inr (2, [.ref (ad 2), .ref (ad 3), .ref (ad 4), .ref (ad 5), .ref (ad 6), .ref (ad 7), .int g_size]))), (2, (ad 2, .inl (cI, 20, .inl g_heads))), (3, (ad 3, .inl (cI, 20, .inl g_lengths))), (4, (ad 4, .inl (cI, 100, .inl g_symbols))), (5, (ad 5, .inl (cI, 100, .inl g_hints))), (6, (ad 6, .inl (cZ, 20, .inl g_ins))), (7, (ad 7, .inl (cZ, 6, .inl g_ground)))]
  refine k_aload_n dX2_add_0 0 rfl rfl ?_
  refine k_get 1 6 rfl rfl qX2_add_wX2 (by decide) qX2_add_f31 rfl dX2_add_1 ?_
  refine k_istore (i := 5) (lv' := fun x => [(5, .int x), (0, .ref (ad 1)), (1, .int a1), (2, .int a2), (3, .int a3), (4, .int a4)]) dX2_add_4 (Nat.le_of_ble_eq_true rfl) (fun _ => rfl) h (fun x5_1 h => ?_)
  refine k_iload_n dX2_add_6 3 rfl rfl ?_
  obtain ⟨r2, hr2, h⟩ := Option.bind_eq_some_iff.mp h
  refine k_calliS (As := [.int a2]) (st := []) (Lc := []) (L' := [(1, (ad 1, .inr (2, [.ref (ad 2), .ref (ad 3), .ref (ad 4), .ref (ad 5), .ref (ad 6), .ref (ad 7), .int g_size]))), (2, (ad 2, .inl (cI, 20, .inl g_heads))), (3, (ad 3, .inl (cI, 20, .inl g_lengths))), (4, (ad 4, .inl (cI, 100, .inl g_symbols))), (5, (ad 5, .inl (cI, 100, .inl g_hints))), (6, (ad 6, .inl (cZ, 20, .inl g_ins))), (7, (ad 7, .inl (cZ, 6, .inl g_ground)))]) (r := r2) gX2_add_X2_symbolsIn rfl rfl rfl hySX2_symbolsIn ⟨Nat.le_of_ble_eq_true rfl, Nat.le_of_ble_eq_true rfl⟩ rfl rfl (Nat.le_of_ble_eq_true rfl) dX2_add_7 (fun w z hw => c_X2_symbolsIn (cI := cI) (cB := cB) (cJ := cJ) (cZ := cZ) (ad := ad) w z trivial  hr2) rfl rfl ?_
  refine k_istore (i := 6) (lv' := fun x => [(6, .int x), (5, .int x5_1), (0, .ref (ad 1)), (1, .int a1), (2, .int a2), (3, .int a3), (4, .int a4)]) dX2_add_10 (Nat.le_of_ble_eq_true rfl) (fun _ => rfl) h (fun x6_3 h => ?_)
  refine k_iload dX2_add_12 1 rfl ?_
  refine k_bipush (v := 20) dX2_add_14 (by decide) ?_
  refine k_icmp_ge 25 dX2_add_16 (by decide) h (fun h => ?_) (fun h => ?_)
  · skip
    refine k_sub [] rfl ?_
    exact wjn_X2_add_25 (cI := cI) (cB := cB) (cJ := cJ) (cZ := cZ) (ad := ad) E  _ _ _ _ _ _ _ h
  · skip
    refine k_iload dX2_add_19 0 rfl ?_
    refine k_iconst (v := (-1)) dX2_add_21 (by decide) ?_
    refine k_icmp_ne 27 dX2_add_22 (by decide) h (fun h => ?_) (fun h => ?_)
    · skip
      refine k_sub [] rfl ?_
      exact wjn_X2_add_25 (cI := cI) (cB := cB) (cJ := cJ) (cZ := cZ) (ad := ad) E  _ _ _ _ _ _ _ h
    · skip
      refine k_aload_n dX2_add_27 2 rfl rfl ?_
      refine k_get 1 0 rfl rfl qX2_add_wX2 (by decide) qX2_add_f9 rfl dX2_add_28 ?_
      refine k_iload dX2_add_31 1 rfl ?_
      refine k_iload_n dX2_add_33 3 rfl rfl ?_
      refine k_iast (L' := fun f => [(1, (ad 1, .inr (2, [.ref (ad 2), .ref (ad 3), .ref (ad 4), .ref (ad 5), .ref (ad 6), .ref (ad 7), .int g_size]))), (2, (ad 2, .inl (cI, 20, .inl f))), (3, (ad 3, .inl (cI, 20, .inl g_lengths))), (4, (ad 4, .inl (cI, 100, .inl g_symbols))), (5, (ad 5, .inl (cI, 100, .inl g_hints))), (6, (ad 6, .inl (cZ, 20, .inl g_ins))), (7, (ad 7, .inl (cZ, 6, .inl g_ground)))]) 2 0 rfl rfl rfl dX2_add_34 h (fun _ => rfl) (fun g_heads_4 h => ?_)
      refine k_aload_n dX2_add_35 2 rfl rfl ?_
      refine k_get 1 1 rfl rfl qX2_add_wX2 (by decide) qX2_add_f15 rfl dX2_add_36 ?_
      refine k_iload dX2_add_39 1 rfl ?_
      refine k_iload dX2_add_41 0 rfl ?_
      refine k_iast (L' := fun f => [(1, (ad 1, .inr (2, [.ref (ad 2), .ref (ad 3), .ref (ad 4), .ref (ad 5), .ref (ad 6), .ref (ad 7), .int g_size]))), (2, (ad 2, .inl (cI, 20, .inl g_heads_4))), (3, (ad 3, .inl (cI, 20, .inl f))), (4, (ad 4, .inl (cI, 100, .inl g_symbols))), (5, (ad 5, .inl (cI, 100, .inl g_hints))), (6, (ad 6, .inl (cZ, 20, .inl g_ins))), (7, (ad 7, .inl (cZ, 6, .inl g_ground)))]) 3 0 rfl rfl rfl dX2_add_43 h (fun _ => rfl) (fun g_lengths_5 h => ?_)
      refine k_aload_n dX2_add_44 2 rfl rfl ?_
      refine k_get 1 4 rfl rfl qX2_add_wX2 (by decide) qX2_add_f24 rfl dX2_add_45 ?_
      refine k_iload dX2_add_48 1 rfl ?_
      refine k_iload dX2_add_50 6 rfl ?_
      refine k_zast (L' := fun f => [(1, (ad 1, .inr (2, [.ref (ad 2), .ref (ad 3), .ref (ad 4), .ref (ad 5), .ref (ad 6), .ref (ad 7), .int g_size]))), (2, (ad 2, .inl (cI, 20, .inl g_heads_4))), (3, (ad 3, .inl (cI, 20, .inl g_lengths_5))), (4, (ad 4, .inl (cI, 100, .inl g_symbols))), (5, (ad 5, .inl (cI, 100, .inl g_hints))), (6, (ad 6, .inl (cZ, 20, .inl f))), (7, (ad 7, .inl (cZ, 6, .inl g_ground)))]) 6 3 rfl rfl rfl dX2_add_52 h (fun _ => rfl) (fun g_ins_6 h => ?_)
      refine k_iconst (v := 0) dX2_add_53 (by decide) ?_
      refine k_istore (i := 7) (lv' := fun x => [(7, .int x), (6, .int x6_3), (5, .int x5_1), (0, .ref (ad 1)), (1, .int a1), (2, .int a2), (3, .int a3), (4, .int a4)]) dX2_add_54 (Nat.le_of_ble_eq_true rfl) (fun _ => rfl) h (fun x7_7 h => ?_)
      refine k_sub [3, 5, 6, 2, 1, 0] rfl ?_
      refine wlp_X2_add_56 (cI := cI) (cB := cB) (cJ := cJ) (cZ := cZ) (ad := ad) E ?_ FU _ _ _ _ _ _ _ _ _ _ _ _ h
      · intro x5 g_size g_heads g_lengths g_symbols g_hints g_ins g_ground h
        refine k_aload_n dX2_add_119 0 rfl rfl ?_
        refine k_dup dX2_add_120 rfl ?_
        refine k_get 1 6 rfl rfl qX2_add_wX2 (by decide) qX2_add_f31 rfl dX2_add_121 ?_
        refine k_iconst (v := 1) dX2_add_124 (by decide) ?_
        refine k_iadd dX2_add_125 ?_
        refine k_put (L' := [(1, (ad 1, .inr (2, [.ref (ad 2), .ref (ad 3), .ref (ad 4), .ref (ad 5), .ref (ad 6), .ref (ad 7), .int (g_size + 1)]))), (2, (ad 2, .inl (cI, 20, .inl g_heads))), (3, (ad 3, .inl (cI, 20, .inl g_lengths))), (4, (ad 4, .inl (cI, 100, .inl g_symbols))), (5, (ad 5, .inl (cI, 100, .inl g_hints))), (6, (ad 6, .inl (cZ, 20, .inl g_ins))), (7, (ad 7, .inl (cZ, 6, .inl g_ground)))]) 1 6 rfl rfl qX2_add_wX2 (by decide) tyX2 tyX2_ok nmX2 rfl qX2_add_f31 rfl (tyX2_ok 6 (by decide)) rfl rfl (Nat.le_of_ble_eq_true rfl) dX2_add_126 rfl ?_
        refine k_aload_n dX2_add_129 0 rfl rfl ?_
        obtain ⟨r13, hr13, h⟩ := Option.bind_eq_some_iff.mp h
        refine k_callvV (As := []) (st := []) (Lc := [(7, (ad 7, .inl (cZ, 6, .inl r13)))]) (L' := [(1, (ad 1, .inr (2, [.ref (ad 2), .ref (ad 3), .ref (ad 4), .ref (ad 5), .ref (ad 6), .ref (ad 7), .int (g_size + 1)]))), (2, (ad 2, .inl (cI, 20, .inl g_heads))), (3, (ad 3, .inl (cI, 20, .inl g_lengths))), (4, (ad 4, .inl (cI, 100, .inl g_symbols))), (5, (ad 5, .inl (cI, 100, .inl g_hints))), (6, (ad 6, .inl (cZ, 20, .inl g_ins))), (7, (ad 7, .inl (cZ, 6, .inl r13)))]) gX2_add_X2_findGround rfl rfl rfl hyVX2_findGround ⟨Nat.le_of_ble_eq_true rfl, Nat.le_of_ble_eq_true rfl⟩ rfl rfl (Nat.le_of_ble_eq_true rfl) 1 rfl rfl dX2_add_130 (fun w z hw => c_X2_findGround (cI := cI) (cB := cB) (cJ := cJ) (cZ := cZ) (ad := ad) w z ⟨(hw 1), (hw 2), (hw 3), (hw 4)⟩ (hw 7) hr13) rfl rfl ?_
        refine k_iload dX2_add_133 1 rfl ?_
        obtain rfl := Option.some.inj h
        exact k_iret rfl dX2_add_135
abbrev rmX2_hintOf : Room := { frames := 0, cells := 0, slots := 0, locals := 0 }
abbrev xX2_hintOf : KX := (rmX2_hintOf, cX2_hintOf, 3, some .int, RX2, wsX2_hintOf)
theorem hySX2_hintOf : yX2_hintOf.cls ≠ "java/lang/invoke/MethodHandle" ∧ yX2_hintOf.cls ≠ "java/lang/invoke/VarHandle" ∧ (parseMethodDescriptor yX2_hintOf.desc).map (fun d => d.parameters.length) = some 2 := by decide +kernel
theorem hyVX2_hintOf : yX2_hintOf.cls = RX2 ∧ yX2_hintOf.cls ≠ "java/lang/invoke/MethodHandle" ∧ yX2_hintOf.cls ≠ "java/lang/invoke/VarHandle" ∧ (parseMethodDescriptor yX2_hintOf.desc).map (fun d => d.parameters.length) = some 2 := ⟨rfl, hySX2_hintOf⟩
theorem qX2_hintOf_wX2 : ∀ w ∈ u_ws RX2 TX2 7, w ∈ wsX2_hintOf := by decide +kernel
theorem qX2_hintOf_f21 : Cond.fieldLink RX2 21 "KindParser$Grammar" "hints" "[I" ∈ wsX2_hintOf := by decide +kernel
set_option maxHeartbeats 4000000 in
set_option maxRecDepth 100000 in
/-- KindParser$Grammar.hintOf -/
theorem c_X2_hintOf {l : Launch} {D : va_G} {cI cB cJ cZ : ClassId} {ad : Nat → Nat} (ws : va_W) (z : Nat) {g_size : Int32} {g_hints : Nat → Int32} (E : ws[1]? = some (ad 1, .inr (2, [.ref (ad 2), .ref (ad 3), .ref (ad 4), .ref (ad 5), .ref (ad 6), .ref (ad 7), .int g_size])) ∧ ws[5]? = some (ad 5, .inl (cI, 100, .inl g_hints)))  {a1 : Int32} {a2 : Int32} {o : Int32} (h : f_X2_hintOf a1 a2 g_hints = some o) : Met l yX2_hintOf wsX2_hintOf rmX2_hintOf (kPc D (kT cI cB cJ cZ) [.ref (ad 1), .int a1, .int a2] ws z) (kQi D (kT cI cB cJ cZ) o [] ws z) 0 0 (va_A ws z) := by
  refine KW.met (rm := rmX2_hintOf) (lv := [(0, .ref (ad 1)), (1, .int a1), (2, .int a2)]) (L := []) rfl (by decide) (Nat.le_of_ble_eq_true rfl) rfl (fun q hq => by cases hq) ?_
  unfold f_X2_hintOf at h
  show KW l xX2_hintOf D (kT cI cB cJ cZ) ws z (kQi D (kT cI cB cJ cZ) o [] ws z) 0 [(0, .ref (ad 1)), (1, .int a1), (2, .int a2)] [] []
  refine k_aload_n dX2_hintOf_0 0 rfl rfl ?_
  refine k_get 1 3 E.1 rfl qX2_hintOf_wX2 (by decide) qX2_hintOf_f21 rfl dX2_hintOf_1 ?_
  refine k_iload_n dX2_hintOf_4 1 rfl rfl ?_
  refine k_iconst (v := 5) dX2_hintOf_5 (by decide) ?_
  refine k_imul dX2_hintOf_6 ?_
  refine k_iload_n dX2_hintOf_7 2 rfl rfl ?_
  refine k_iadd dX2_hintOf_8 ?_
  refine k_iald 5 0 E.2 rfl dX2_hintOf_9 h (fun v1 h => ?_)
  obtain rfl := Option.some.inj h
  exact k_iret rfl dX2_hintOf_10
