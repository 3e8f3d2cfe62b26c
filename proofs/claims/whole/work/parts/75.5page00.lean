abbrev rmX3_at : Room := { frames := 0, cells := 0, slots := 0, locals := 0 }
abbrev xX3_at : KX := (rmX3_at, cX3_at, 2, some .int, RX3, wsX3_at)
theorem hySX3_at : yX3_at.cls ≠ "java/lang/invoke/MethodHandle" ∧ yX3_at.cls ≠ "java/lang/invoke/VarHandle" ∧ (parseMethodDescriptor yX3_at.desc).map (fun d => d.parameters.length) = some 1 := by decide +kernel
theorem hyVX3_at : yX3_at.cls = RX3 ∧ yX3_at.cls ≠ "java/lang/invoke/MethodHandle" ∧ yX3_at.cls ≠ "java/lang/invoke/VarHandle" ∧ (parseMethodDescriptor yX3_at.desc).map (fun d => d.parameters.length) = some 1 := ⟨rfl, hySX3_at⟩
theorem qX3_at_wX3 : ∀ w ∈ u_ws RX3 TX3 9, w ∈ wsX3_at := by decide +kernel
theorem qX3_at_f26 : Cond.fieldLink RX3 26 "KindParser$Page" "size" "I" ∈ wsX3_at := by decide +kernel
theorem qX3_at_f11 : Cond.fieldLink RX3 11 "KindParser$Page" "sheet" "[B" ∈ wsX3_at := by decide +kernel
set_option maxHeartbeats 4000000 in
set_option maxRecDepth 100000 in
theorem wjn_X3_at_22 {l : Launch} {D : va_G} {cI cB cJ cZ : ClassId} {ad : Nat → Nat} {ws : va_W} {z : Nat} {p_size : Int32} {p_column : Int32} {p_sheet : Nat → Int32} (E : ws[32]? = some (ad 32, .inr (3, [.ref (ad 1), .ref (ad 9), .ref (ad 22), .ref (ad 33), .ref (ad 34), .ref (ad 35), .ref (ad 36), .int p_size, .int p_column])) ∧ ws[33]? = some (ad 33, .inl (cB, 1300, .inl p_sheet))) {o : Int32}   : ∀ (s0 : Int32), jn_X3_at_22 p_size p_sheet s0 = some o → KW l xX3_at D (kT cI cB cJ cZ) ws z (kQi D (kT cI cB cJ cZ) o [] ws z) 22 [] [.int s0] [] := by
  intro s0 h
  unfold jn_X3_at_22 at h
  obtain rfl := Option.some.inj h
  exact k_iret rfl dX3_at_22
set_option maxHeartbeats 4000000 in
set_option maxRecDepth 100000 in
theorem wjn_X3_at_21 {l : Launch} {D : va_G} {cI cB cJ cZ : ClassId} {ad : Nat → Nat} {ws : va_W} {z : Nat} {p_size : Int32} {p_column : Int32} {p_sheet : Nat → Int32} (E : ws[32]? = some (ad 32, .inr (3, [.ref (ad 1), .ref (ad 9), .ref (ad 22), .ref (ad 33), .ref (ad 34), .ref (ad 35), .ref (ad 36), .int p_size, .int p_column])) ∧ ws[33]? = some (ad 33, .inl (cB, 1300, .inl p_sheet))) {o : Int32}   : jn_X3_at_21 p_size p_sheet = some o → KW l xX3_at D (kT cI cB cJ cZ) ws z (kQi D (kT cI cB cJ cZ) o [] ws z) 21 [] [] [] := by
  intro h
  unfold jn_X3_at_21 at h
  refine k_iconst (v := (-1)) dX3_at_21 (by decide) ?_
  refine k_sub [] rfl ?_
  exact wjn_X3_at_22 (cI := cI) (cB := cB) (cJ := cJ) (cZ := cZ) (ad := ad) E  _ h
set_option maxHeartbeats 4000000 in
set_option maxRecDepth 100000 in
/-- KindParser$Page.at -/
theorem c_X3_at {l : Launch} {D : va_G} {cI cB cJ cZ : ClassId} {ad : Nat → Nat} (ws : va_W) (z : Nat) {p_size : Int32} {p_column : Int32} {p_sheet : Nat → Int32} (E : ws[32]? = some (ad 32, .inr (3, [.ref (ad 1), .ref (ad 9), .ref (ad 22), .ref (ad 33), .ref (ad 34), .ref (ad 35), .ref (ad 36), .int p_size, .int p_column])) ∧ ws[33]? = some (ad 33, .inl (cB, 1300, .inl p_sheet)))  {a1 : Int32} {o : Int32} (h : f_X3_at a1 p_size p_sheet = some o) : Met l yX3_at wsX3_at rmX3_at (kPc D (kT cI cB cJ cZ) [.ref (ad 32), .int a1] ws z) (kQi D (kT cI cB cJ cZ) o [] ws z) 0 0 (va_A ws z) := by
  refine KW.met (rm := rmX3_at) (lv := [(0, .ref (ad 32)), (1, .int a1)]) (L := []) rfl (by decide) (Nat.le_of_ble_eq_true rfl) rfl (fun q hq => by cases hq) ?_
  unfold f_X3_at at h
  show KW l xX3_at D (kT cI cB cJ cZ) ws z (kQi D (kT cI cB cJ cZ) o [] ws z) 0 [(0, .ref (ad 32)), (1, .int a1)] [] []
  refine k_iload_n dX3_at_0 1 rfl rfl ?_
  refine k_if_lt 21 dX3_at_1 (by decide) h (fun h => ?_) (fun h => ?_)
  · skip
    refine k_sub [] rfl ?_
    exact wjn_X3_at_21 (cI := cI) (cB := cB) (cJ := cJ) (cZ := cZ) (ad := ad) E   h
  · skip
    refine k_iload_n dX3_at_4 1 rfl rfl ?_
    refine k_aload_n dX3_at_5 0 rfl rfl ?_
    refine k_get 32 7 E.1 rfl qX3_at_wX3 (by decide) qX3_at_f26 rfl dX3_at_6 ?_
    refine k_icmp_ge 21 dX3_at_9 (by decide) h (fun h => ?_) (fun h => ?_)
    · skip
      refine k_sub [] rfl ?_
      exact wjn_X3_at_21 (cI := cI) (cB := cB) (cJ := cJ) (cZ := cZ) (ad := ad) E   h
    · skip
      refine k_aload_n dX3_at_12 0 rfl rfl ?_
      refine k_get 32 3 E.1 rfl qX3_at_wX3 (by decide) qX3_at_f11 rfl dX3_at_13 ?_
      refine k_iload_n dX3_at_16 1 rfl rfl ?_
      refine k_bald 33 1 E.2 rfl dX3_at_17 h (fun v1 h => ?_)
      refine k_goto 22 dX3_at_18 (by decide) ?_
      refine k_sub [] rfl ?_
      exact wjn_X3_at_22 (cI := cI) (cB := cB) (cJ := cJ) (cZ := cZ) (ad := ad) E  _ h
abbrev rmX3_leafWidth : Room := { frames := 2, cells := 0, slots := 0, locals := 45 }
abbrev xX3_leafWidth : KX := (rmX3_leafWidth, cX3_leafWidth, 6, some .int, RX3, wsX3_leafWidth)
theorem hySX3_leafWidth : yX3_leafWidth.cls ≠ "java/lang/invoke/MethodHandle" ∧ yX3_leafWidth.cls ≠ "java/lang/invoke/VarHandle" ∧ (parseMethodDescriptor yX3_leafWidth.desc).map (fun d => d.parameters.length) = some 1 := by decide +kernel
theorem hyVX3_leafWidth : yX3_leafWidth.cls = RX3 ∧ yX3_leafWidth.cls ≠ "java/lang/invoke/MethodHandle" ∧ yX3_leafWidth.cls ≠ "java/lang/invoke/VarHandle" ∧ (parseMethodDescriptor yX3_leafWidth.desc).map (fun d => d.parameters.length) = some 1 := ⟨rfl, hySX3_leafWidth⟩
theorem qX3_leafWidth_wX3 : ∀ w ∈ u_ws RX3 TX3 9, w ∈ wsX3_leafWidth := by decide +kernel
theorem qX3_leafWidth_f41 : Cond.fieldLink RX3 41 "KindParser$Page" "tree" "LKindParser$Tree;" ∈ wsX3_leafWidth := by decide +kernel
theorem qX3_leafWidth_m76 : Cond.methodLink RX3 76 Lib.Math.max.name ∈ wsX3_leafWidth := by decide +kernel
theorem qX3_leafWidth_ms76 : Cond.static Lib.Math.max.name ∈ wsX3_leafWidth := by decide +kernel
theorem qX3_leafWidth_iMath : Cond.initialized "java/lang/Math" ∈ wsX3_leafWidth := by decide +kernel
theorem qX3_leafWidth_mc76 : Cond.code Lib.Math.max.name Lib.Math.max.code 2 (some .int) ∈ wsX3_leafWidth := by decide +kernel
theorem qX3_leafWidth_f37 : Cond.fieldLink RX3 37 "KindParser$Page" "cut" "LKindParser$Cut;" ∈ wsX3_leafWidth := by decide +kernel
set_option maxHeartbeats 4000000 in
set_option maxRecDepth 100000 in
theorem wlp_X3_leafWidth_32 {l : Launch} {D : va_G} {cI cB cJ cZ : ClassId} {ad : Nat → Nat} {ws : va_W} {z : Nat} {c_length : Int32} {c_size : Int32} {c_comments : Int32} {c_lengths : Nat → Int32} {c_firstComments : Nat → Int32} {c_commentStarts : Nat → Int32} {c_commentEnds : Nat → Int32} {t_waiting : Int32} {t_size : Int32} {t_skipped : Int32} {t_cells : Nat → Int32} {p_size : Int32} {p_column : Int32} (E : ws[9]? = some (ad 9, .inr (1, [.ref (ad 10), .int c_length, .ref (ad 11), .ref (ad 12), .ref (ad 13), .ref (ad 14), .ref (ad 15), .ref (ad 16), .int c_size, .int c_comments])) ∧ ws[12]? = some (ad 12, .inl (cI, 16, .inl c_lengths)) ∧ ws[14]? = some (ad 14, .inl (cI, 18, .inl c_firstComments)) ∧ ws[15]? = some (ad 15, .inl (cI, 40, .inl c_commentStarts)) ∧ ws[16]? = some (ad 16, .inl (cI, 40, .inl c_commentEnds)) ∧ ws[22]? = some (ad 22, .inr (4, [.ref (ad 1), .ref (ad 17), .ref (ad 23), .ref (ad 24), .ref (ad 25), .ref (ad 26), .ref (ad 27), .ref (ad 28), .ref (ad 29), .ref (ad 30), .ref (ad 31), .int t_waiting, .int t_size, .int t_skipped])) ∧ ws[23]? = some (ad 23, .inl (cI, 1050, .inl t_cells)) ∧ ws[32]? = some (ad 32, .inr (3, [.ref (ad 1), .ref (ad 9), .ref (ad 22), .ref (ad 33), .ref (ad 34), .ref (ad 35), .ref (ad 36), .int p_size, .int p_column]))) {o : Int32} {k60 : (Int32) → Option (Int32)} (hk60 : ∀ (x4 : Int32), k60 x4 = some o → KW l xX3_leafWidth D (kT cI cB cJ cZ) ws z (kQi D (kT cI cB cJ cZ) o [] ws z) 60 [(4, .int x4)] [] []) : ∀ (n : Nat) (x2 : Int32) (x3 : Int32) (x4 : Int32) (x5 : Int32), lp_X3_leafWidth_32 c_size c_lengths c_firstComments c_commentStarts c_commentEnds t_cells k60 n x2 x3 x4 x5 = some o → KW l xX3_leafWidth D (kT cI cB cJ cZ) ws z (kQi D (kT cI cB cJ cZ) o [] ws z) 32 [(0, .ref (ad 32)), (2, .int x2), (3, .int x3), (4, .int x4), (5, .int x5)] [] [] := by
  intro n
  induction n with
  | zero => intro x2 x3 x4 x5 h; exact absurd h (by simp [lp_X3_leafWidth_32])
  | succ n hk32 =>
    intro x2 x3 x4 x5 h
    unfold lp_X3_leafWidth_32 at h
    refine k_iload dX3_leafWidth_32 4 rfl ?_
    refine k_iload_n dX3_leafWidth_34 1 rfl rfl ?_
    refine k_iload_n dX3_leafWidth_35 2 rfl rfl ?_
    refine k_iadd dX3_leafWidth_36 ?_
    refine k_icmp_ge 60 dX3_leafWidth_37 (by decide) h (fun h => ?_) (fun h => ?_)
    · skip
      refine k_sub [3] rfl ?_
      exact hk60 _ h
    · skip
      refine k_iload dX3_leafWidth_40 3 rfl ?_
      refine k_aload_n dX3_leafWidth_42 0 rfl rfl ?_
      refine k_get 32 1 E.2.2.2.2.2.2.2 rfl qX3_leafWidth_wX3 (by decide) qX3_leafWidth_f37 rfl dX3_leafWidth_43 ?_
      refine k_iload dX3_leafWidth_46 4 rfl ?_
      obtain ⟨r8, hr8, h⟩ := Option.bind_eq_some_iff.mp h
      refine k_calliV (As := [.int x5]) (st := [.int x4]) (Lc := []) (L' := []) (r := r8) gX3_leafWidth_X1_widthOf rfl rfl rfl hyVX1_widthOf ⟨Nat.le_of_ble_eq_true rfl, Nat.le_of_ble_eq_true rfl⟩ rfl rfl (Nat.le_of_ble_eq_true rfl) 9 E.1 rfl dX3_leafWidth_48 (fun w z hw => c_X1_widthOf (cI := cI) (cB := cB) (cJ := cJ) (cZ := cZ) (ad := ad) w z ⟨((hw 9).trans E.1), ((hw 12).trans E.2.1), ((hw 14).trans E.2.2.1), ((hw 15).trans E.2.2.2.1), ((hw 16).trans E.2.2.2.2.1)⟩  hr8) rfl rfl ?_
      refine k_iadd dX3_leafWidth_51 ?_
      refine k_istore (i := 4) (lv' := fun x => [(4, .int x), (0, .ref (ad 32)), (2, .int x2), (3, .int x3), (5, .int x5)]) dX3_leafWidth_52 (Nat.le_of_ble_eq_true rfl) (fun _ => rfl) h (fun x4_9 h => ?_)
      refine k_iinc (i := 5) (lv' := fun x => [(5, .int x), (4, .int x4_9), (0, .ref (ad 32)), (2, .int x2), (3, .int x3)]) dX3_leafWidth_54 4 rfl (Nat.le_of_ble_eq_true rfl) (fun _ => rfl) h (fun x5_10 h => ?_)
      refine k_goto 32 dX3_leafWidth_57 (by decide) ?_
      refine k_sub [2, 3, 4, 1, 0] rfl ?_
      exact hk32 _ _ _ _ h
set_option maxHeartbeats 4000000 in
set_option maxRecDepth 100000 in
/-- KindParser$Page.leafWidth -/
theorem c_X3_leafWidth {l : Launch} {D : va_G} {cI cB cJ cZ : ClassId} {ad : Nat → Nat} (ws : va_W) (z : Nat) {c_length : Int32} {c_size : Int32} {c_comments : Int32} {c_lengths : Nat → Int32} {c_firstComments : Nat → Int32} {c_commentStarts : Nat → Int32} {c_commentEnds : Nat → Int32} {t_waiting : Int32} {t_size : Int32} {t_skipped : Int32} {t_cells : Nat → Int32} {p_size : Int32} {p_column : Int32} (E : ws[9]? = some (ad 9, .inr (1, [.ref (ad 10), .int c_length, .ref (ad 11), .ref (ad 12), .ref (ad 13), .ref (ad 14), .ref (ad 15), .ref (ad 16), .int c_size, .int c_comments])) ∧ ws[12]? = some (ad 12, .inl (cI, 16, .inl c_lengths)) ∧ ws[14]? = some (ad 14, .inl (cI, 18, .inl c_firstComments)) ∧ ws[15]? = some (ad 15, .inl (cI, 40, .inl c_commentStarts)) ∧ ws[16]? = some (ad 16, .inl (cI, 40, .inl c_commentEnds)) ∧ ws[22]? = some (ad 22, .inr (4, [.ref (ad 1), .ref (ad 17), .ref (ad 23), .ref (ad 24), .ref (ad 25), .ref (ad 26), .ref (ad 27), .ref (ad 28), .ref (ad 29), .ref (ad 30), .ref (ad 31), .int t_waiting, .int t_size, .int t_skipped])) ∧ ws[23]? = some (ad 23, .inl (cI, 1050, .inl t_cells)) ∧ ws[32]? = some (ad 32, .inr (3, [.ref (ad 1), .ref (ad 9), .ref (ad 22), .ref (ad 33), .ref (ad 34), .ref (ad 35), .ref (ad 36), .int p_size, .int p_column])))  {a1 : Int32} {o : Int32} (h : f_X3_leafWidth a1 c_size c_lengths c_firstComments c_commentStarts c_commentEnds t_cells = some o) : Met l yX3_leafWidth wsX3_leafWidth rmX3_leafWidth (kPc D (kT cI cB cJ cZ) [.ref (ad 32), .int a1] ws z) (kQi D (kT cI cB cJ cZ) o [] ws z) 0 0 (va_A ws z) := by
  refine KW.met (rm := rmX3_leafWidth) (lv := [(0, .ref (ad 32)), (1, .int a1)]) (L := []) rfl (by decide) (Nat.le_of_ble_eq_true rfl) rfl (fun q hq => by cases hq) ?_
  unfold f_X3_leafWidth at h
  show KW l xX3_leafWidth D (kT cI cB cJ cZ) ws z (kQi D (kT cI cB cJ cZ) o [] ws z) 0 [(0, .ref (ad 32)), (1, .int a1)] [] []
  refine k_aload_n dX3_leafWidth_0 0 rfl rfl ?_
  refine k_get 32 2 E.2.2.2.2.2.2.2 rfl qX3_leafWidth_wX3 (by decide) qX3_leafWidth_f41 rfl dX3_leafWidth_1 ?_
  refine k_iload_n dX3_leafWidth_4 1 rfl rfl ?_
  refine k_iconst (v := 3) dX3_leafWidth_5 (by decide) ?_
  obtain ⟨r1, hr1, h⟩ := Option.bind_eq_some_iff.mp h
  refine k_calliV (As := [.int a1, .int 3]) (st := []) (Lc := []) (L' := []) (r := r1) gX3_leafWidth_X4_cell rfl rfl rfl hyVX4_cell ⟨Nat.le_of_ble_eq_true rfl, Nat.le_of_ble_eq_true rfl⟩ rfl rfl (Nat.le_of_ble_eq_true rfl) 22 E.2.2.2.2.2.1 rfl dX3_leafWidth_6 (fun w z hw => c_X4_cell (cI := cI) (cB := cB) (cJ := cJ) (cZ := cZ) (ad := ad) w z ⟨((hw 22).trans E.2.2.2.2.2.1), ((hw 23).trans E.2.2.2.2.2.2.1)⟩  hr1) rfl rfl ?_
  refine k_istore_n (i := 2) (lv' := fun x => [(2, .int x), (0, .ref (ad 32)), (1, .int a1)]) dX3_leafWidth_9 rfl (Nat.le_of_ble_eq_true rfl) (fun _ => rfl) h (fun x2_2 h => ?_)
  refine k_aload_n dX3_leafWidth_10 1 rfl rfl ?_
  refine k_get 32 2 E.2.2.2.2.2.2.2 rfl qX3_leafWidth_wX3 (by decide) qX3_leafWidth_f41 rfl dX3_leafWidth_11 ?_
  refine k_iload_n dX3_leafWidth_14 2 rfl rfl ?_
  refine k_iconst (v := 4) dX3_leafWidth_15 (by decide) ?_
  obtain ⟨r3, hr3, h⟩ := Option.bind_eq_some_iff.mp h
  refine k_calliV (As := [.int a1, .int 4]) (st := []) (Lc := []) (L' := []) (r := r3) gX3_leafWidth_X4_cell rfl rfl rfl hyVX4_cell ⟨Nat.le_of_ble_eq_true rfl, Nat.le_of_ble_eq_true rfl⟩ rfl rfl (Nat.le_of_ble_eq_true rfl) 22 E.2.2.2.2.2.1 rfl dX3_leafWidth_16 (fun w z hw => c_X4_cell (cI := cI) (cB := cB) (cJ := cJ) (cZ := cZ) (ad := ad) w z ⟨((hw 22).trans E.2.2.2.2.2.1), ((hw 23).trans E.2.2.2.2.2.2.1)⟩  hr3) rfl rfl ?_
  refine k_istore_n (i := 3) (lv' := fun x => [(3, .int x), (2, .int x2_2), (0, .ref (ad 32)), (1, .int a1)]) dX3_leafWidth_19 rfl (Nat.le_of_ble_eq_true rfl) (fun _ => rfl) h (fun x3_4 h => ?_)
  refine k_iconst (v := 0) dX3_leafWidth_20 (by decide) ?_
  refine k_iload_n dX3_leafWidth_21 0 rfl rfl ?_
  refine k_iconst (v := 1) dX3_leafWidth_22 (by decide) ?_
  refine k_isub dX3_leafWidth_23 ?_
  refine k_mmax qX3_leafWidth_m76 qX3_leafWidth_ms76 qX3_leafWidth_iMath qX3_leafWidth_mc76 (Nat.le_of_ble_eq_true rfl) (Nat.le_of_ble_eq_true rfl) dX3_leafWidth_24 ?_
  refine k_topi h (fun v5 h => ?_)
  refine k_istore (i := 4) (lv' := fun x => [(4, .int x), (3, .int x3_4), (2, .int x2_2), (0, .ref (ad 32)), (1, .int a1)]) dX3_leafWidth_27 (Nat.le_of_ble_eq_true rfl) (fun _ => rfl) h (fun x4_6 h => ?_)
  refine k_iload_n dX3_leafWidth_29 2 rfl rfl ?_
  refine k_istore (i := 5) (lv' := fun x => [(5, .int x), (4, .int x4_6), (3, .int x3_4), (2, .int x2_2), (0, .ref (ad 32)), (1, .int a1)]) dX3_leafWidth_30 (Nat.le_of_ble_eq_true rfl) (fun _ => rfl) h (fun x5_7 h => ?_)
  refine k_sub [4, 3, 2, 1, 0] rfl ?_
  refine wlp_X3_leafWidth_32 (cI := cI) (cB := cB) (cJ := cJ) (cZ := cZ) (ad := ad) E ?_ FU _ _ _ _ h
  · intro x4 h
    refine k_iload dX3_leafWidth_60 0 rfl ?_
    obtain rfl := Option.some.inj h
    exact k_iret rfl dX3_leafWidth_62
abbrev rmX3_hasGap : Room := { frames := 1, cells := 0, slots := 0, locals := 22 }
abbrev xX3_hasGap : KX := (rmX3_hasGap, cX3_hasGap, 3, some .boolean, RX3, wsX3_hasGap)
theorem hySX3_hasGap : yX3_hasGap.cls ≠ "java/lang/invoke/MethodHandle" ∧ yX3_hasGap.cls ≠ "java/lang/invoke/VarHandle" ∧ (parseMethodDescriptor yX3_hasGap.desc).map (fun d => d.parameters.length) = some 1 := by decide +kernel
theorem hyVX3_hasGap : yX3_hasGap.cls = RX3 ∧ yX3_hasGap.cls ≠ "java/lang/invoke/MethodHandle" ∧ yX3_hasGap.cls ≠ "java/lang/invoke/VarHandle" ∧ (parseMethodDescriptor yX3_hasGap.desc).map (fun d => d.parameters.length) = some 1 := ⟨rfl, hySX3_hasGap⟩
theorem qX3_hasGap_wX3 : ∀ w ∈ u_ws RX3 TX3 9, w ∈ wsX3_hasGap := by decide +kernel
theorem qX3_hasGap_f41 : Cond.fieldLink RX3 41 "KindParser$Page" "tree" "LKindParser$Tree;" ∈ wsX3_hasGap := by decide +kernel
set_option maxHeartbeats 4000000 in
set_option maxRecDepth 100000 in
theorem wjn_X3_hasGap_53 {l : Launch} {D : va_G} {cI cB cJ cZ : ClassId} {ad : Nat → Nat} {ws : va_W} {z : Nat} {t_waiting : Int32} {t_size : Int32} {t_skipped : Int32} {t_cells : Nat → Int32} {p_size : Int32} {p_column : Int32} (E : ws[22]? = some (ad 22, .inr (4, [.ref (ad 1), .ref (ad 17), .ref (ad 23), .ref (ad 24), .ref (ad 25), .ref (ad 26), .ref (ad 27), .ref (ad 28), .ref (ad 29), .ref (ad 30), .ref (ad 31), .int t_waiting, .int t_size, .int t_skipped])) ∧ ws[23]? = some (ad 23, .inl (cI, 1050, .inl t_cells)) ∧ ws[32]? = some (ad 32, .inr (3, [.ref (ad 1), .ref (ad 9), .ref (ad 22), .ref (ad 33), .ref (ad 34), .ref (ad 35), .ref (ad 36), .int p_size, .int p_column]))) {o : Int32}   : ∀ (s0 : Int32), jn_X3_hasGap_53 t_cells s0 = some o → KW l xX3_hasGap D (kT cI cB cJ cZ) ws z (kQi D (kT cI cB cJ cZ) o [] ws z) 53 [] [.int s0] [] := by
  intro s0 h
  unfold jn_X3_hasGap_53 at h
  obtain ⟨hz, h⟩ := zc_some h
  obtain rfl := Option.some.inj h
  exact k_zret rfl hz dX3_hasGap_53
set_option maxHeartbeats 4000000 in
set_option maxRecDepth 100000 in
theorem wjn_X3_hasGap_52 {l : Launch} {D : va_G} {cI cB cJ cZ : ClassId} {ad : Nat → Nat} {ws : va_W} {z : Nat} {t_waiting : Int32} {t_size : Int32} {t_skipped : Int32} {t_cells : Nat → Int32} {p_size : Int32} {p_column : Int32} (E : ws[22]? = some (ad 22, .inr (4, [.ref (ad 1), .ref (ad 17), .ref (ad 23), .ref (ad 24), .ref (ad 25), .ref (ad 26), .ref (ad 27), .ref (ad 28), .ref (ad 29), .ref (ad 30), .ref (ad 31), .int t_waiting, .int t_size, .int t_skipped])) ∧ ws[23]? = some (ad 23, .inl (cI, 1050, .inl t_cells)) ∧ ws[32]? = some (ad 32, .inr (3, [.ref (ad 1), .ref (ad 9), .ref (ad 22), .ref (ad 33), .ref (ad 34), .ref (ad 35), .ref (ad 36), .int p_size, .int p_column]))) {o : Int32}   : jn_X3_hasGap_52 t_cells = some o → KW l xX3_hasGap D (kT cI cB cJ cZ) ws z (kQi D (kT cI cB cJ cZ) o [] ws z) 52 [] [] [] := by
  intro h
  unfold jn_X3_hasGap_52 at h
  refine k_iconst (v := 0) dX3_hasGap_52 (by decide) ?_
  refine k_sub [] rfl ?_
  exact wjn_X3_hasGap_53 (cI := cI) (cB := cB) (cJ := cJ) (cZ := cZ) (ad := ad) E  _ h
set_option maxHeartbeats 4000000 in
set_option maxRecDepth 100000 in
/-- KindParser$Page.hasGap -/
theorem c_X3_hasGap {l : Launch} {D : va_G} {cI cB cJ cZ : ClassId} {ad : Nat → Nat} (ws : va_W) (z : Nat) {t_waiting : Int32} {t_size : Int32} {t_skipped : Int32} {t_cells : Nat → Int32} {p_size : Int32} {p_column : Int32} (E : ws[22]? = some (ad 22, .inr (4, [.ref (ad 1), .ref (ad 17), .ref (ad 23), .ref (ad 24), .ref (ad 25), .ref (ad 26), .ref (ad 27), .ref (ad 28), .ref (ad 29), .ref (ad 30), .ref (ad 31), .int t_waiting, .int t_size, .int t_skipped])) ∧ ws[23]? = some (ad 23, .inl (cI, 1050, .inl t_cells)) ∧ ws[32]? = some (ad 32, .inr (3, [.ref (ad 1), .ref (ad 9), .ref (ad 22), .ref (ad 33), .ref (ad 34), .ref (ad 35), .ref (ad 36), .int p_size, .int p_column])))  {a1 : Int32} {o : Int32} (h : f_X3_hasGap a1 t_cells = some o) : Met l yX3_hasGap wsX3_hasGap rmX3_hasGap (kPc D (kT cI cB cJ cZ) [.ref (ad 32), .int a1] ws z) (kQi D (kT cI cB cJ cZ) o [] ws z) 0 0 (va_A ws z) := by
  refine KW.met (rm := rmX3_hasGap) (lv := [(0, .ref (ad 32)), (1, .int a1)]) (L := []) rfl (by decide) (Nat.le_of_ble_eq_true rfl) rfl (fun q hq => by cases hq) ?_
  unfold f_X3_hasGap at h
  show KW l xX3_hasGap D (kT cI cB cJ cZ) ws z (kQi D (kT cI cB cJ cZ) o [] ws z) 0 [(0, .ref (ad 32)), (1, .int a1)] [] []
  refine k_aload_n dX3_hasGap_0 0 rfl rfl ?_
  refine k_get 32 2 E.2.2 rfl qX3_hasGap_wX3 (by decide) qX3_hasGap_f41 rfl dX3_hasGap_1 ?_
  refine k_iload_n dX3_hasGap_4 1 rfl rfl ?_
  refine k_iconst (v := 2) dX3_hasGap_5 (by decide) ?_
  obtain ⟨r1, hr1, h⟩ := Option.bind_eq_some_iff.mp h
  refine k_calliV (As := [.int a1, .int 2]) (st := []) (Lc := []) (L' := []) (r := r1) gX3_hasGap_X4_cell rfl rfl rfl hyVX4_cell ⟨Nat.le_of_ble_eq_true rfl, Nat.le_of_ble_eq_true rfl⟩ rfl rfl (Nat.le_of_ble_eq_true rfl) 22 E.1 rfl dX3_hasGap_6 (fun w z hw => c_X4_cell (cI := cI) (cB := cB) (cJ := cJ) (cZ := cZ) (ad := ad) w z ⟨((hw 22).trans E.1), ((hw 23).trans E.2.1)⟩  hr1) rfl rfl ?_
  refine k_istore_n (i := 2) (lv' := fun x => [(2, .int x), (0, .ref (ad 32)), (1, .int a1)]) dX3_hasGap_9 rfl (Nat.le_of_ble_eq_true rfl) (fun _ => rfl) h (fun x2_2 h => ?_)
  refine k_iload_n dX3_hasGap_10 0 rfl rfl ?_
  refine k_iconst (v := (-1)) dX3_hasGap_11 (by decide) ?_
  refine k_icmp_eq 52 dX3_hasGap_12 (by decide) h (fun h => ?_) (fun h => ?_)
  · skip
    refine k_sub [] rfl ?_
    exact wjn_X3_hasGap_52 (cI := cI) (cB := cB) (cJ := cJ) (cZ := cZ) (ad := ad) E   h
  · skip
    refine k_aload_n dX3_hasGap_15 1 rfl rfl ?_
    refine k_get 32 2 E.2.2 rfl qX3_hasGap_wX3 (by decide) qX3_hasGap_f41 rfl dX3_hasGap_16 ?_
    refine k_iload_n dX3_hasGap_19 2 rfl rfl ?_
    refine k_iconst (v := 4) dX3_hasGap_20 (by decide) ?_
    obtain ⟨r4, hr4, h⟩ := Option.bind_eq_some_iff.mp h
    refine k_calliV (As := [.int a1, .int 4]) (st := []) (Lc := []) (L' := []) (r := r4) gX3_hasGap_X4_cell rfl rfl rfl hyVX4_cell ⟨Nat.le_of_ble_eq_true rfl, Nat.le_of_ble_eq_true rfl⟩ rfl rfl (Nat.le_of_ble_eq_true rfl) 22 E.1 rfl dX3_hasGap_21 (fun w z hw => c_X4_cell (cI := cI) (cB := cB) (cJ := cJ) (cZ := cZ) (ad := ad) w z ⟨((hw 22).trans E.1), ((hw 23).trans E.2.1)⟩  hr4) rfl rfl ?_
    refine k_if_le 52 dX3_hasGap_24 (by decide) h (fun h => ?_) (fun h => ?_)
    · skip
      refine k_sub [] rfl ?_
      exact wjn_X3_hasGap_52 (cI := cI) (cB := cB) (cJ := cJ) (cZ := cZ) (ad := ad) E   h
    · skip
      refine k_aload_n dX3_hasGap_27 1 rfl rfl ?_
      refine k_get 32 2 E.2.2 rfl qX3_hasGap_wX3 (by decide) qX3_hasGap_f41 rfl dX3_hasGap_28 ?_
      refine k_iload_n dX3_hasGap_31 2 rfl rfl ?_
      refine k_iconst (v := 3) dX3_hasGap_32 (by decide) ?_
      obtain ⟨r5, hr5, h⟩ := Option.bind_eq_some_iff.mp h
      refine k_calliV (As := [.int a1, .int 3]) (st := []) (Lc := []) (L' := []) (r := r5) gX3_hasGap_X4_cell rfl rfl rfl hyVX4_cell ⟨Nat.le_of_ble_eq_true rfl, Nat.le_of_ble_eq_true rfl⟩ rfl rfl (Nat.le_of_ble_eq_true rfl) 22 E.1 rfl dX3_hasGap_33 (fun w z hw => c_X4_cell (cI := cI) (cB := cB) (cJ := cJ) (cZ := cZ) (ad := ad) w z ⟨((hw 22).trans E.1), ((hw 23).trans E.2.1)⟩  hr5) rfl rfl ?_
      refine k_aload_n dX3_hasGap_36 1 rfl rfl ?_
      refine k_get 32 2 E.2.2 rfl qX3_hasGap_wX3 (by decide) qX3_hasGap_f41 rfl dX3_hasGap_37 ?_
      refine k_iload_n dX3_hasGap_40 0 rfl rfl ?_
      refine k_iconst (v := 3) dX3_hasGap_41 (by decide) ?_
      obtain ⟨r6, hr6, h⟩ := Option.bind_eq_some_iff.mp h
      refine k_calliV (As := [.int x2_2, .int 3]) (st := [.int r5]) (Lc := []) (L' := []) (r := r6) gX3_hasGap_X4_cell rfl rfl rfl hyVX4_cell ⟨Nat.le_of_ble_eq_true rfl, Nat.le_of_ble_eq_true rfl⟩ rfl rfl (Nat.le_of_ble_eq_true rfl) 22 E.1 rfl dX3_hasGap_42 (fun w z hw => c_X4_cell (cI := cI) (cB := cB) (cJ := cJ) (cZ := cZ) (ad := ad) w z ⟨((hw 22).trans E.1), ((hw 23).trans E.2.1)⟩  hr6) rfl rfl ?_
      refine k_icmp_eq 52 dX3_hasGap_45 (by decide) h (fun h => ?_) (fun h => ?_)
      · skip
        refine k_sub [] rfl ?_
        exact wjn_X3_hasGap_52 (cI := cI) (cB := cB) (cJ := cJ) (cZ := cZ) (ad := ad) E   h
      · skip
        refine k_iconst (v := 1) dX3_hasGap_48 (by decide) ?_
        refine k_goto 53 dX3_hasGap_49 (by decide) ?_
        refine k_sub [] rfl ?_
        exact wjn_X3_hasGap_53 (cI := cI) (cB := cB) (cJ := cJ) (cZ := cZ) (ad := ad) E  _ h
abbrev rmX3_flatGap : Room := { frames := 2, cells := 0, slots := 0, locals := 42 }
abbrev xX3_flatGap : KX := (rmX3_flatGap, cX3_flatGap, 3, some .int, RX3, wsX3_flatGap)
theorem hySX3_flatGap : yX3_flatGap.cls ≠ "java/lang/invoke/MethodHandle" ∧ yX3_flatGap.cls ≠ "java/lang/invoke/VarHandle" ∧ (parseMethodDescriptor yX3_flatGap.desc).map (fun d => d.parameters.length) = some 1 := by decide +kernel
theorem hyVX3_flatGap : yX3_flatGap.cls = RX3 ∧ yX3_flatGap.cls ≠ "java/lang/invoke/MethodHandle" ∧ yX3_flatGap.cls ≠ "java/lang/invoke/VarHandle" ∧ (parseMethodDescriptor yX3_flatGap.desc).map (fun d => d.parameters.length) = some 1 := ⟨rfl, hySX3_flatGap⟩
theorem qX3_flatGap_wX3 : ∀ w ∈ u_ws RX3 TX3 9, w ∈ wsX3_flatGap := by decide +kernel
theorem qX3_flatGap_f41 : Cond.fieldLink RX3 41 "KindParser$Page" "tree" "LKindParser$Tree;" ∈ wsX3_flatGap := by decide +kernel
theorem qX3_flatGap_wX4 : ∀ w ∈ u_ws RX4 TX4 14, w ∈ wsX3_flatGap := by decide +kernel
theorem qX3_flatGap_f37 : Cond.fieldLink RX3 37 "KindParser$Page" "cut" "LKindParser$Cut;" ∈ wsX3_flatGap := by decide +kernel
set_option maxHeartbeats 4000000 in
set_option maxRecDepth 100000 in
theorem wjn_X3_flatGap_46 {l : Launch} {D : va_G} {cI cB cJ cZ : ClassId} {ad : Nat → Nat} {ws : va_W} {z : Nat} {c_length : Int32} {c_size : Int32} {c_comments : Int32} {c_text : Nat → Int32} {c_starts : Nat → Int32} {c_firstComments : Nat → Int32} {t_waiting : Int32} {t_size : Int32} {t_skipped : Int32} {t_cells : Nat → Int32} {t_hints : Nat → Int32} {p_size : Int32} {p_column : Int32} (E : ws[9]? = some (ad 9, .inr (1, [.ref (ad 10), .int c_length, .ref (ad 11), .ref (ad 12), .ref (ad 13), .ref (ad 14), .ref (ad 15), .ref (ad 16), .int c_size, .int c_comments])) ∧ ws[10]? = some (ad 10, .inl (cB, 80, .inl c_text)) ∧ ws[11]? = some (ad 11, .inl (cI, 16, .inl c_starts)) ∧ ws[14]? = some (ad 14, .inl (cI, 18, .inl c_firstComments)) ∧ ws[22]? = some (ad 22, .inr (4, [.ref (ad 1), .ref (ad 17), .ref (ad 23), .ref (ad 24), .ref (ad 25), .ref (ad 26), .ref (ad 27), .ref (ad 28), .ref (ad 29), .ref (ad 30), .ref (ad 31), .int t_waiting, .int t_size, .int t_skipped])) ∧ ws[23]? = some (ad 23, .inl (cI, 1050, .inl t_cells)) ∧ ws[24]? = some (ad 24, .inl (cI, 150, .inl t_hints)) ∧ ws[32]? = some (ad 32, .inr (3, [.ref (ad 1), .ref (ad 9), .ref (ad 22), .ref (ad 33), .ref (ad 34), .ref (ad 35), .ref (ad 36), .int p_size, .int p_column]))) {o : Int32}   : ∀ (s0 : Int32), jn_X3_flatGap_46 c_size c_text c_starts c_firstComments t_cells t_hints s0 = some o → KW l xX3_flatGap D (kT cI cB cJ cZ) ws z (kQi D (kT cI cB cJ cZ) o [] ws z) 46 [] [.int s0] [] := by
  intro s0 h
  unfold jn_X3_flatGap_46 at h
  obtain rfl := Option.some.inj h
  exact k_iret rfl dX3_flatGap_46
set_option maxHeartbeats 4000000 in
set_option maxRecDepth 100000 in
theorem wjn_X3_flatGap_36 {l : Launch} {D : va_G} {cI cB cJ cZ : ClassId} {ad : Nat → Nat} {ws : va_W} {z : Nat} {c_length : Int32} {c_size : Int32} {c_comments : Int32} {c_text : Nat → Int32} {c_starts : Nat → Int32} {c_firstComments : Nat → Int32} {t_waiting : Int32} {t_size : Int32} {t_skipped : Int32} {t_cells : Nat → Int32} {t_hints : Nat → Int32} {p_size : Int32} {p_column : Int32} (E : ws[9]? = some (ad 9, .inr (1, [.ref (ad 10), .int c_length, .ref (ad 11), .ref (ad 12), .ref (ad 13), .ref (ad 14), .ref (ad 15), .ref (ad 16), .int c_size, .int c_comments])) ∧ ws[10]? = some (ad 10, .inl (cB, 80, .inl c_text)) ∧ ws[11]? = some (ad 11, .inl (cI, 16, .inl c_starts)) ∧ ws[14]? = some (ad 14, .inl (cI, 18, .inl c_firstComments)) ∧ ws[22]? = some (ad 22, .inr (4, [.ref (ad 1), .ref (ad 17), .ref (ad 23), .ref (ad 24), .ref (ad 25), .ref (ad 26), .ref (ad 27), .ref (ad 28), .ref (ad 29), .ref (ad 30), .ref (ad 31), .int t_waiting, .int t_size, .int t_skipped])) ∧ ws[23]? = some (ad 23, .inl (cI, 1050, .inl t_cells)) ∧ ws[24]? = some (ad 24, .inl (cI, 150, .inl t_hints)) ∧ ws[32]? = some (ad 32, .inr (3, [.ref (ad 1), .ref (ad 9), .ref (ad 22), .ref (ad 33), .ref (ad 34), .ref (ad 35), .ref (ad 36), .int p_size, .int p_column]))) {o : Int32}   : ∀ (s0 : Int32), jn_X3_flatGap_36 c_size c_text c_starts c_firstComments t_cells t_hints s0 = some o → KW l xX3_flatGap D (kT cI cB cJ cZ) ws z (kQi D (kT cI cB cJ cZ) o [] ws z) 36 [] [.int s0] [] := by
  intro s0 h
  unfold jn_X3_flatGap_36 at h
  refine k_istore_n (i := 2) (lv' := fun x => [(2, .int x)]) dX3_flatGap_36 rfl (Nat.le_of_ble_eq_true rfl) (fun _ => rfl) h (fun x2_4 h => ?_)
  refine k_iload_n dX3_flatGap_37 0 rfl rfl ?_
  refine k_if_eq 45 dX3_flatGap_38 (by decide) h (fun h => ?_) (fun h => ?_)
  · skip
    refine k_iconst (v := 1) dX3_flatGap_45 (by decide) ?_
    refine k_sub [] rfl ?_
    exact wjn_X3_flatGap_46 (cI := cI) (cB := cB) (cJ := cJ) (cZ := cZ) (ad := ad) E  _ h
  · skip
    refine k_iconst (v := 0) dX3_flatGap_41 (by decide) ?_
    refine k_goto 46 dX3_flatGap_42 (by decide) ?_
    refine k_sub [] rfl ?_
    exact wjn_X3_flatGap_46 (cI := cI) (cB := cB) (cJ := cJ) (cZ := cZ) (ad := ad) E  _ h
set_option maxHeartbeats 4000000 in
set_option maxRecDepth 100000 in
theorem wjn_X3_flatGap_35 {l : Launch} {D : va_G} {cI cB cJ cZ : ClassId} {ad : Nat → Nat} {ws : va_W} {z : Nat} {c_length : Int32} {c_size : Int32} {c_comments : Int32} {c_text : Nat → Int32} {c_starts : Nat → Int32} {c_firstComments : Nat → Int32} {t_waiting : Int32} {t_size : Int32} {t_skipped : Int32} {t_cells : Nat → Int32} {t_hints : Nat → Int32} {p_size : Int32} {p_column : Int32} (E : ws[9]? = some (ad 9, .inr (1, [.ref (ad 10), .int c_length, .ref (ad 11), .ref (ad 12), .ref (ad 13), .ref (ad 14), .ref (ad 15), .ref (ad 16), .int c_size, .int c_comments])) ∧ ws[10]? = some (ad 10, .inl (cB, 80, .inl c_text)) ∧ ws[11]? = some (ad 11, .inl (cI, 16, .inl c_starts)) ∧ ws[14]? = some (ad 14, .inl (cI, 18, .inl c_firstComments)) ∧ ws[22]? = some (ad 22, .inr (4, [.ref (ad 1), .ref (ad 17), .ref (ad 23), .ref (ad 24), .ref (ad 25), .ref (ad 26), .ref (ad 27), .ref (ad 28), .ref (ad 29), .ref (ad 30), .ref (ad 31), .int t_waiting, .int t_size, .int t_skipped])) ∧ ws[23]? = some (ad 23, .inl (cI, 1050, .inl t_cells)) ∧ ws[24]? = some (ad 24, .inl (cI, 150, .inl t_hints)) ∧ ws[32]? = some (ad 32, .inr (3, [.ref (ad 1), .ref (ad 9), .ref (ad 22), .ref (ad 33), .ref (ad 34), .ref (ad 35), .ref (ad 36), .int p_size, .int p_column]))) {o : Int32}   : jn_X3_flatGap_35 c_size c_text c_starts c_firstComments t_cells t_hints = some o → KW l xX3_flatGap D (kT cI cB cJ cZ) ws z (kQi D (kT cI cB cJ cZ) o [] ws z) 35 [] [] [] := by
  intro h
  unfold jn_X3_flatGap_35 at h
  refine k_iconst (v := 0) dX3_flatGap_35 (by decide) ?_
  refine k_sub [] rfl ?_
  exact wjn_X3_flatGap_36 (cI := cI) (cB := cB) (cJ := cJ) (cZ := cZ) (ad := ad) E  _ h
set_option maxHeartbeats 4000000 in
set_option maxRecDepth 100000 in
/-- KindParser$Page.flatGap -/
theorem c_X3_flatGap {l : Launch} {D : va_G} {cI cB cJ cZ : ClassId} {ad : Nat → Nat} (ws : va_W) (z : Nat) {c_length : Int32} {c_size : Int32} {c_comments : Int32} {c_text : Nat → Int32} {c_starts : Nat → Int32} {c_firstComments : Nat → Int32} {t_waiting : Int32} {t_size : Int32} {t_skipped : Int32} {t_cells : Nat → Int32} {t_hints : Nat → Int32} {p_size : Int32} {p_column : Int32} (E : ws[9]? = some (ad 9, .inr (1, [.ref (ad 10), .int c_length, .ref (ad 11), .ref (ad 12), .ref (ad 13), .ref (ad 14), .ref (ad 15), .ref (ad 16), .int c_size, .int c_comments])) ∧ ws[10]? = some (ad 10, .inl (cB, 80, .inl c_text)) ∧ ws[11]? = some (ad 11, .inl (cI, 16, .inl c_starts)) ∧ ws[14]? = some (ad 14, .inl (cI, 18, .inl c_firstComments)) ∧ ws[22]? = some (ad 22, .inr (4, [.ref (ad 1), .ref (ad 17), .ref (ad 23), .ref (ad 24), .ref (ad 25), .ref (ad 26), .ref (ad 27), .ref (ad 28), .ref (ad 29), .ref (ad 30), .ref (ad 31), .int t_waiting, .int t_size, .int t_skipped])) ∧ ws[23]? = some (ad 23, .inl (cI, 1050, .inl t_cells)) ∧ ws[24]? = some (ad 24, .inl (cI, 150, .inl t_hints)) ∧ ws[32]? = some (ad 32, .inr (3, [.ref (ad 1), .ref (ad 9), .ref (ad 22), .ref (ad 33), .ref (ad 34), .ref (ad 35), .ref (ad 36), .int p_size, .int p_column])))  {a1 : Int32} {o : Int32} (h : f_X3_flatGap a1 c_size c_text c_starts c_firstComments t_cells t_hints = some o) : Met l yX3_flatGap wsX3_flatGap rmX3_flatGap (kPc D (kT cI cB cJ cZ) [.ref (ad 32), .int a1] ws z) (kQi D (kT cI cB cJ cZ) o [] ws z) 0 0 (va_A ws z) := by
  refine KW.met (rm := rmX3_flatGap) (lv := [(0, .ref (ad 32)), (1, .int a1)]) (L := []) rfl (by decide) (Nat.le_of_ble_eq_true rfl) rfl (fun q hq => by cases hq) ?_
  unfold f_X3_flatGap at h
  show KW l xX3_flatGap D (kT cI cB cJ cZ) ws z (kQi D (kT cI cB cJ cZ) o [] ws z) 0 [(0, .ref (ad 32)), (1, .int a1)] [] []
  refine k_aload_n dX3_flatGap_0 0 rfl rfl ?_
  refine k_get 32 2 E.2.2.2.2.2.2.2 rfl qX3_flatGap_wX3 (by decide) qX3_flatGap_f41 rfl dX3_flatGap_1 ?_
  refine k_getN 22 3 E.2.2.2.2.1 rfl qX3_flatGap_wX4 (by decide) (host := "KindParser") (by decide +kernel) rfl dX3_flatGap_4 ?_
  refine k_iload_n dX3_flatGap_7 1 rfl rfl ?_
  refine k_iald 24 0 E.2.2.2.2.2.2.1 rfl dX3_flatGap_8 h (fun v1 h => ?_)
  refine k_if_ne 35 dX3_flatGap_9 (by decide) h (fun h => ?_) (fun h => ?_)
  · skip
    refine k_aload_n dX3_flatGap_12 0 rfl rfl ?_
    refine k_get 32 1 E.2.2.2.2.2.2.2 rfl qX3_flatGap_wX3 (by decide) qX3_flatGap_f37 rfl dX3_flatGap_13 ?_
    refine k_aload_n dX3_flatGap_16 0 rfl rfl ?_
    refine k_get 32 2 E.2.2.2.2.2.2.2 rfl qX3_flatGap_wX3 (by decide) qX3_flatGap_f41 rfl dX3_flatGap_17 ?_
    refine k_iload_n dX3_flatGap_20 1 rfl rfl ?_
    refine k_iconst (v := 3) dX3_flatGap_21 (by decide) ?_
    obtain ⟨r2, hr2, h⟩ := Option.bind_eq_some_iff.mp h
    refine k_calliV (As := [.int a1, .int 3]) (st := [.ref (ad 9)]) (Lc := []) (L' := []) (r := r2) gX3_flatGap_X4_cell rfl rfl rfl hyVX4_cell ⟨Nat.le_of_ble_eq_true rfl, Nat.le_of_ble_eq_true rfl⟩ rfl rfl (Nat.le_of_ble_eq_true rfl) 22 E.2.2.2.2.1 rfl dX3_flatGap_22 (fun w z hw => c_X4_cell (cI := cI) (cB := cB) (cJ := cJ) (cZ := cZ) (ad := ad) w z ⟨((hw 22).trans E.2.2.2.2.1), ((hw 23).trans E.2.2.2.2.2.1)⟩  hr2) rfl rfl ?_
    obtain ⟨r3, hr3, h⟩ := Option.bind_eq_some_iff.mp h
    refine k_calliV (As := [.int r2]) (st := []) (Lc := []) (L' := []) (r := r3) gX3_flatGap_X1_beginsWithDigit rfl rfl rfl hyVX1_beginsWithDigit ⟨Nat.le_of_ble_eq_true rfl, Nat.le_of_ble_eq_true rfl⟩ rfl rfl (Nat.le_of_ble_eq_true rfl) 9 E.1 rfl dX3_flatGap_25 (fun w z hw => c_X1_beginsWithDigit (cI := cI) (cB := cB) (cJ := cJ) (cZ := cZ) (ad := ad) w z ⟨((hw 9).trans E.1), ((hw 10).trans E.2.1), ((hw 11).trans E.2.2.1), ((hw 14).trans E.2.2.2.1)⟩  hr3) rfl rfl ?_
    refine k_if_ne 35 dX3_flatGap_28 (by decide) h (fun h => ?_) (fun h => ?_)
    · skip
      refine k_iconst (v := 1) dX3_flatGap_31 (by decide) ?_
      refine k_goto 36 dX3_flatGap_32 (by decide) ?_
      refine k_sub [] rfl ?_
      exact wjn_X3_flatGap_36 (cI := cI) (cB := cB) (cJ := cJ) (cZ := cZ) (ad := ad) E  _ h
    · skip
      refine k_sub [] rfl ?_
      exact wjn_X3_flatGap_35 (cI := cI) (cB := cB) (cJ := cJ) (cZ := cZ) (ad := ad) E   h
  · skip
    refine k_sub [] rfl ?_
    exact wjn_X3_flatGap_35 (cI := cI) (cB := cB) (cJ := cJ) (cZ := cZ) (ad := ad) E   h
abbrev rmX3_measure : Room := { frames := 3, cells := 0, slots := 0, locals := 70 }
abbrev xX3_measure : KX := (rmX3_measure, cX3_measure, 3, none, RX3, wsX3_measure)
theorem hySX3_measure : yX3_measure.cls ≠ "java/lang/invoke/MethodHandle" ∧ yX3_measure.cls ≠ "java/lang/invoke/VarHandle" ∧ (parseMethodDescriptor yX3_measure.desc).map (fun d => d.parameters.length) = some 0 := by decide +kernel
theorem hyVX3_measure : yX3_measure.cls = RX3 ∧ yX3_measure.cls ≠ "java/lang/invoke/MethodHandle" ∧ yX3_measure.cls ≠ "java/lang/invoke/VarHandle" ∧ (parseMethodDescriptor yX3_measure.desc).map (fun d => d.parameters.length) = some 0 := ⟨rfl, hySX3_measure⟩
theorem qX3_measure_wX3 : ∀ w ∈ u_ws RX3 TX3 9, w ∈ wsX3_measure := by decide +kernel
theorem qX3_measure_f41 : Cond.fieldLink RX3 41 "KindParser$Page" "tree" "LKindParser$Tree;" ∈ wsX3_measure := by decide +kernel
theorem qX3_measure_wX4 : ∀ w ∈ u_ws RX4 TX4 14, w ∈ wsX3_measure := by decide +kernel
theorem qX3_measure_f15 : Cond.fieldLink RX3 15 "KindParser$Page" "flats" "[I" ∈ wsX3_measure := by decide +kernel
set_option maxHeartbeats 4000000 in
set_option maxRecDepth 100000 in
theorem wjn_X3_measure_38 {l : Launch} {D : va_G} {cI cB cJ cZ : ClassId} {ad : Nat → Nat} {ws : va_W} {z : Nat} {c_length : Int32} {c_size : Int32} {c_comments : Int32} {c_text : Nat → Int32} {c_starts : Nat → Int32} {c_lengths : Nat → Int32} {c_firstComments : Nat → Int32} {c_commentStarts : Nat → Int32} {c_commentEnds : Nat → Int32} {t_waiting : Int32} {t_size : Int32} {t_skipped : Int32} {t_cells : Nat → Int32} {t_hints : Nat → Int32} {p_size : Int32} {p_column : Int32} (E : ws[9]? = some (ad 9, .inr (1, [.ref (ad 10), .int c_length, .ref (ad 11), .ref (ad 12), .ref (ad 13), .ref (ad 14), .ref (ad 15), .ref (ad 16), .int c_size, .int c_comments])) ∧ ws[10]? = some (ad 10, .inl (cB, 80, .inl c_text)) ∧ ws[11]? = some (ad 11, .inl (cI, 16, .inl c_starts)) ∧ ws[12]? = some (ad 12, .inl (cI, 16, .inl c_lengths)) ∧ ws[14]? = some (ad 14, .inl (cI, 18, .inl c_firstComments)) ∧ ws[15]? = some (ad 15, .inl (cI, 40, .inl c_commentStarts)) ∧ ws[16]? = some (ad 16, .inl (cI, 40, .inl c_commentEnds)) ∧ ws[22]? = some (ad 22, .inr (4, [.ref (ad 1), .ref (ad 17), .ref (ad 23), .ref (ad 24), .ref (ad 25), .ref (ad 26), .ref (ad 27), .ref (ad 28), .ref (ad 29), .ref (ad 30), .ref (ad 31), .int t_waiting, .int t_size, .int t_skipped])) ∧ ws[23]? = some (ad 23, .inl (cI, 1050, .inl t_cells)) ∧ ws[24]? = some (ad 24, .inl (cI, 150, .inl t_hints)) ∧ ws[32]? = some (ad 32, .inr (3, [.ref (ad 1), .ref (ad 9), .ref (ad 22), .ref (ad 33), .ref (ad 34), .ref (ad 35), .ref (ad 36), .int p_size, .int p_column]))) {o : (Nat → Int32)} {k2 : (Int32) → (Nat → Int32) → Option ((Nat → Int32))} (hk2 : ∀ (x1 : Int32) (p_flats : Nat → Int32), k2 x1 p_flats = some o → KW l xX3_measure D (kT cI cB cJ cZ) ws z (kQv D (kT cI cB cJ cZ) [(34, (ad 34, .inl (cI, 150, .inl o)))] ws z) 2 [(0, .ref (ad 32)), (1, .int x1)] [] [(34, (ad 34, .inl (cI, 150, .inl p_flats)))]) : ∀ (x1 : Int32) (s1 : Int32) (s2 : Int32) (p_flats : Nat → Int32), jn_X3_measure_38 c_size c_text c_starts c_lengths c_firstComments c_commentStarts c_commentEnds t_size t_cells t_hints k2 x1 s1 s2 p_flats = some o → KW l xX3_measure D (kT cI cB cJ cZ) ws z (kQv D (kT cI cB cJ cZ) [(34, (ad 34, .inl (cI, 150, .inl o)))] ws z) 38 [(0, .ref (ad 32)), (1, .int x1)] [.int s2, .int s1, .ref (ad 34)] [(34, (ad 34, .inl (cI, 150, .inl p_flats)))] := by
  intro x1 s1 s2 p_flats h
  unfold jn_X3_measure_38 at h
  refine k_iast (L' := fun f => [(34, (ad 34, .inl (cI, 150, .inl f)))]) 34 0 rfl rfl rfl dX3_measure_38 h (fun _ => rfl) (fun p_flats_3 h => ?_)
  refine k_iinc (i := 1) (lv' := fun x => [(1, .int x), (0, .ref (ad 32))]) dX3_measure_39 1 rfl (Nat.le_of_ble_eq_true rfl) (fun _ => rfl) h (fun x1_4 h => ?_)
  refine k_goto 2 dX3_measure_42 (by decide) ?_
  refine k_sub [1, 0] rfl ?_
  exact hk2 _ _ h
set_option maxHeartbeats 4000000 in
set_option maxRecDepth 100000 in
theorem wlp_X3_measure_2 {l : Launch} {D : va_G} {cI cB cJ cZ : ClassId} {ad : Nat → Nat} {ws : va_W} {z : Nat} {c_length : Int32} {c_size : Int32} {c_comments : Int32} {c_text : Nat → Int32} {c_starts : Nat → Int32} {c_lengths : Nat → Int32} {c_firstComments : Nat → Int32} {c_commentStarts : Nat → Int32} {c_commentEnds : Nat → Int32} {t_waiting : Int32} {t_size : Int32} {t_skipped : Int32} {t_cells : Nat → Int32} {t_hints : Nat → Int32} {p_size : Int32} {p_column : Int32} (E : ws[9]? = some (ad 9, .inr (1, [.ref (ad 10), .int c_length, .ref (ad 11), .ref (ad 12), .ref (ad 13), .ref (ad 14), .ref (ad 15), .ref (ad 16), .int c_size, .int c_comments])) ∧ ws[10]? = some (ad 10, .inl (cB, 80, .inl c_text)) ∧ ws[11]? = some (ad 11, .inl (cI, 16, .inl c_starts)) ∧ ws[12]? = some (ad 12, .inl (cI, 16, .inl c_lengths)) ∧ ws[14]? = some (ad 14, .inl (cI, 18, .inl c_firstComments)) ∧ ws[15]? = some (ad 15, .inl (cI, 40, .inl c_commentStarts)) ∧ ws[16]? = some (ad 16, .inl (cI, 40, .inl c_commentEnds)) ∧ ws[22]? = some (ad 22, .inr (4, [.ref (ad 1), .ref (ad 17), .ref (ad 23), .ref (ad 24), .ref (ad 25), .ref (ad 26), .ref (ad 27), .ref (ad 28), .ref (ad 29), .ref (ad 30), .ref (ad 31), .int t_waiting, .int t_size, .int t_skipped])) ∧ ws[23]? = some (ad 23, .inl (cI, 1050, .inl t_cells)) ∧ ws[24]? = some (ad 24, .inl (cI, 150, .inl t_hints)) ∧ ws[32]? = some (ad 32, .inr (3, [.ref (ad 1), .ref (ad 9), .ref (ad 22), .ref (ad 33), .ref (ad 34), .ref (ad 35), .ref (ad 36), .int p_size, .int p_column]))) {o : (Nat → Int32)} {k45 : (Nat → Int32) → Option ((Nat → Int32))} (hk45 : ∀ (p_flats : Nat → Int32), k45 p_flats = some o → KW l xX3_measure D (kT cI cB cJ cZ) ws z (kQv D (kT cI cB cJ cZ) [(34, (ad 34, .inl (cI, 150, .inl o)))] ws z) 45 [(0, .ref (ad 32))] [] [(34, (ad 34, .inl (cI, 150, .inl p_flats)))]) : ∀ (n : Nat) (x1 : Int32) (p_flats : Nat → Int32), lp_X3_measure_2 c_size c_text c_starts c_lengths c_firstComments c_commentStarts c_commentEnds t_size t_cells t_hints k45 n x1 p_flats = some o → KW l xX3_measure D (kT cI cB cJ cZ) ws z (kQv D (kT cI cB cJ cZ) [(34, (ad 34, .inl (cI, 150, .inl o)))] ws z) 2 [(0, .ref (ad 32)), (1, .int x1)] [] [(34, (ad 34, .inl (cI, 150, .inl p_flats)))] := by
  intro n
  induction n with
  | zero => intro x1 p_flats h; exact absurd h (by simp [lp_X3_measure_2])
  | succ n hk2 =>
    intro x1 p_flats h
    unfold lp_X3_measure_2 at h
    refine k_iload_n dX3_measure_2 1 rfl rfl ?_
    refine k_aload_n dX3_measure_3 0 rfl rfl ?_
    refine k_get 32 2 E.2.2.2.2.2.2.2.2.2.2 rfl qX3_measure_wX3 (by decide) qX3_measure_f41 rfl dX3_measure_4 ?_
    refine k_getN 22 12 E.2.2.2.2.2.2.2.1 rfl qX3_measure_wX4 (by decide) (host := "KindParser") (by decide +kernel) rfl dX3_measure_7 ?_
    refine k_icmp_ge 45 dX3_measure_10 (by decide) h (fun h => ?_) (fun h => ?_)
    · skip
      refine k_sub [0] rfl ?_
      exact hk45 _ h
    · skip
      refine k_aload_n dX3_measure_13 0 rfl rfl ?_
      refine k_get 32 4 E.2.2.2.2.2.2.2.2.2.2 rfl qX3_measure_wX3 (by decide) qX3_measure_f15 rfl dX3_measure_14 ?_
      refine k_iload_n dX3_measure_17 1 rfl rfl ?_
      refine k_aload_n dX3_measure_18 0 rfl rfl ?_
      refine k_get 32 2 E.2.2.2.2.2.2.2.2.2.2 rfl qX3_measure_wX3 (by decide) qX3_measure_f41 rfl dX3_measure_19 ?_
      refine k_iload_n dX3_measure_22 1 rfl rfl ?_
      obtain ⟨r2, hr2, h⟩ := Option.bind_eq_some_iff.mp h
      refine k_calliV (As := [.int x1]) (st := [.int x1, .ref (ad 34)]) (Lc := []) (L' := [(34, (ad 34, .inl (cI, 150, .inl p_flats)))]) (r := r2) gX3_measure_X4_isLeaf rfl rfl rfl hyVX4_isLeaf ⟨Nat.le_of_ble_eq_true rfl, Nat.le_of_ble_eq_true rfl⟩ rfl rfl (Nat.le_of_ble_eq_true rfl) 22 E.2.2.2.2.2.2.2.1 rfl dX3_measure_23 (fun w z hw => c_X4_isLeaf (cI := cI) (cB := cB) (cJ := cJ) (cZ := cZ) (ad := ad) w z ⟨((hw 22).trans E.2.2.2.2.2.2.2.1), ((hw 23).trans E.2.2.2.2.2.2.2.2.1)⟩  hr2) rfl rfl ?_
      refine k_if_eq 37 dX3_measure_26 (by decide) h (fun h => ?_) (fun h => ?_)
      · skip
        refine k_iconst (v := 0) dX3_measure_37 (by decide) ?_
        refine k_sub [0, 1] rfl ?_
        exact wjn_X3_measure_38 (cI := cI) (cB := cB) (cJ := cJ) (cZ := cZ) (ad := ad) E hk2 _ _ _ _ h
      · skip
        refine k_aload_n dX3_measure_29 0 rfl rfl ?_
        refine k_iload_n dX3_measure_30 1 rfl rfl ?_
        obtain ⟨r5, hr5, h⟩ := Option.bind_eq_some_iff.mp h
        refine k_calliV (As := [.int x1]) (st := [.int x1, .ref (ad 34)]) (Lc := []) (L' := [(34, (ad 34, .inl (cI, 150, .inl p_flats)))]) (r := r5) gX3_measure_X3_leafWidth rfl rfl rfl hyVX3_leafWidth ⟨Nat.le_of_ble_eq_true rfl, Nat.le_of_ble_eq_true rfl⟩ rfl rfl (Nat.le_of_ble_eq_true rfl) 32 E.2.2.2.2.2.2.2.2.2.2 rfl dX3_measure_31 (fun w z hw => c_X3_leafWidth (cI := cI) (cB := cB) (cJ := cJ) (cZ := cZ) (ad := ad) w z ⟨((hw 9).trans E.1), ((hw 12).trans E.2.2.2.1), ((hw 14).trans E.2.2.2.2.1), ((hw 15).trans E.2.2.2.2.2.1), ((hw 16).trans E.2.2.2.2.2.2.1), ((hw 22).trans E.2.2.2.2.2.2.2.1), ((hw 23).trans E.2.2.2.2.2.2.2.2.1), ((hw 32).trans E.2.2.2.2.2.2.2.2.2.2)⟩  hr5) rfl rfl ?_
        refine k_goto 38 dX3_measure_34 (by decide) ?_
        refine k_sub [0, 1] rfl ?_
        exact wjn_X3_measure_38 (cI := cI) (cB := cB) (cJ := cJ) (cZ := cZ) (ad := ad) E hk2 _ _ _ _ h
set_option maxHeartbeats 4000000 in
set_option maxRecDepth 100000 in
theorem wjn_X3_measure_107 {l : Launch} {D : va_G} {cI cB cJ cZ : ClassId} {ad : Nat → Nat} {ws : va_W} {z : Nat} {c_length : Int32} {c_size : Int32} {c_comments : Int32} {c_text : Nat → Int32} {c_starts : Nat → Int32} {c_lengths : Nat → Int32} {c_firstComments : Nat → Int32} {c_commentStarts : Nat → Int32} {c_commentEnds : Nat → Int32} {t_waiting : Int32} {t_size : Int32} {t_skipped : Int32} {t_cells : Nat → Int32} {t_hints : Nat → Int32} {p_size : Int32} {p_column : Int32} (E : ws[9]? = some (ad 9, .inr (1, [.ref (ad 10), .int c_length, .ref (ad 11), .ref (ad 12), .ref (ad 13), .ref (ad 14), .ref (ad 15), .ref (ad 16), .int c_size, .int c_comments])) ∧ ws[10]? = some (ad 10, .inl (cB, 80, .inl c_text)) ∧ ws[11]? = some (ad 11, .inl (cI, 16, .inl c_starts)) ∧ ws[12]? = some (ad 12, .inl (cI, 16, .inl c_lengths)) ∧ ws[14]? = some (ad 14, .inl (cI, 18, .inl c_firstComments)) ∧ ws[15]? = some (ad 15, .inl (cI, 40, .inl c_commentStarts)) ∧ ws[16]? = some (ad 16, .inl (cI, 40, .inl c_commentEnds)) ∧ ws[22]? = some (ad 22, .inr (4, [.ref (ad 1), .ref (ad 17), .ref (ad 23), .ref (ad 24), .ref (ad 25), .ref (ad 26), .ref (ad 27), .ref (ad 28), .ref (ad 29), .ref (ad 30), .ref (ad 31), .int t_waiting, .int t_size, .int t_skipped])) ∧ ws[23]? = some (ad 23, .inl (cI, 1050, .inl t_cells)) ∧ ws[24]? = some (ad 24, .inl (cI, 150, .inl t_hints)) ∧ ws[32]? = some (ad 32, .inr (3, [.ref (ad 1), .ref (ad 9), .ref (ad 22), .ref (ad 33), .ref (ad 34), .ref (ad 35), .ref (ad 36), .int p_size, .int p_column]))) {o : (Nat → Int32)} {k55 : (Int32) → (Nat → Int32) → Option ((Nat → Int32))} (hk55 : ∀ (x1 : Int32) (p_flats : Nat → Int32), k55 x1 p_flats = some o → KW l xX3_measure D (kT cI cB cJ cZ) ws z (kQv D (kT cI cB cJ cZ) [(34, (ad 34, .inl (cI, 150, .inl o)))] ws z) 55 [(0, .ref (ad 32)), (1, .int x1)] [] [(34, (ad 34, .inl (cI, 150, .inl p_flats)))]) : ∀ (x1 : Int32) (p_flats : Nat → Int32), jn_X3_measure_107 c_size c_text c_starts c_lengths c_firstComments c_commentStarts c_commentEnds t_size t_cells t_hints k55 x1 p_flats = some o → KW l xX3_measure D (kT cI cB cJ cZ) ws z (kQv D (kT cI cB cJ cZ) [(34, (ad 34, .inl (cI, 150, .inl o)))] ws z) 107 [(0, .ref (ad 32)), (1, .int x1)] [] [(34, (ad 34, .inl (cI, 150, .inl p_flats)))] := by
  intro x1 p_flats h
  unfold jn_X3_measure_107 at h
  refine k_iinc (i := 1) (lv' := fun x => [(1, .int x), (0, .ref (ad 32))]) dX3_measure_107 1 rfl (Nat.le_of_ble_eq_true rfl) (fun _ => rfl) h (fun x1_9 h => ?_)
  refine k_goto 55 dX3_measure_110 (by decide) ?_
  refine k_sub [1, 0] rfl ?_
  exact hk55 _ _ h
set_option maxHeartbeats 4000000 in
set_option maxRecDepth 100000 in
theorem wjn_X3_measure_104 {l : Launch} {D : va_G} {cI cB cJ cZ : ClassId} {ad : Nat → Nat} {ws : va_W} {z : Nat} {c_length : Int32} {c_size : Int32} {c_comments : Int32} {c_text : Nat → Int32} {c_starts : Nat → Int32} {c_lengths : Nat → Int32} {c_firstComments : Nat → Int32} {c_commentStarts : Nat → Int32} {c_commentEnds : Nat → Int32} {t_waiting : Int32} {t_size : Int32} {t_skipped : Int32} {t_cells : Nat → Int32} {t_hints : Nat → Int32} {p_size : Int32} {p_column : Int32} (E : ws[9]? = some (ad 9, .inr (1, [.ref (ad 10), .int c_length, .ref (ad 11), .ref (ad 12), .ref (ad 13), .ref (ad 14), .ref (ad 15), .ref (ad 16), .int c_size, .int c_comments])) ∧ ws[10]? = some (ad 10, .inl (cB, 80, .inl c_text)) ∧ ws[11]? = some (ad 11, .inl (cI, 16, .inl c_starts)) ∧ ws[12]? = some (ad 12, .inl (cI, 16, .inl c_lengths)) ∧ ws[14]? = some (ad 14, .inl (cI, 18, .inl c_firstComments)) ∧ ws[15]? = some (ad 15, .inl (cI, 40, .inl c_commentStarts)) ∧ ws[16]? = some (ad 16, .inl (cI, 40, .inl c_commentEnds)) ∧ ws[22]? = some (ad 22, .inr (4, [.ref (ad 1), .ref (ad 17), .ref (ad 23), .ref (ad 24), .ref (ad 25), .ref (ad 26), .ref (ad 27), .ref (ad 28), .ref (ad 29), .ref (ad 30), .ref (ad 31), .int t_waiting, .int t_size, .int t_skipped])) ∧ ws[23]? = some (ad 23, .inl (cI, 1050, .inl t_cells)) ∧ ws[24]? = some (ad 24, .inl (cI, 150, .inl t_hints)) ∧ ws[32]? = some (ad 32, .inr (3, [.ref (ad 1), .ref (ad 9), .ref (ad 22), .ref (ad 33), .ref (ad 34), .ref (ad 35), .ref (ad 36), .int p_size, .int p_column]))) {o : (Nat → Int32)} {k55 : (Int32) → (Nat → Int32) → Option ((Nat → Int32))} (hk55 : ∀ (x1 : Int32) (p_flats : Nat → Int32), k55 x1 p_flats = some o → KW l xX3_measure D (kT cI cB cJ cZ) ws z (kQv D (kT cI cB cJ cZ) [(34, (ad 34, .inl (cI, 150, .inl o)))] ws z) 55 [(0, .ref (ad 32)), (1, .int x1)] [] [(34, (ad 34, .inl (cI, 150, .inl p_flats)))]) : ∀ (x1 : Int32) (s1 : Int32) (s2 : Int32) (s3 : Int32) (s4 : Int32) (p_flats : Nat → Int32), jn_X3_measure_104 c_size c_text c_starts c_lengths c_firstComments c_commentStarts c_commentEnds t_size t_cells t_hints k55 x1 s1 s2 s3 s4 p_flats = some o → KW l xX3_measure D (kT cI cB cJ cZ) ws z (kQv D (kT cI cB cJ cZ) [(34, (ad 34, .inl (cI, 150, .inl o)))] ws z) 104 [(0, .ref (ad 32)), (1, .int x1)] [.int s4, .int s3, .int s2, .int s1, .ref (ad 34)] [(34, (ad 34, .inl (cI, 150, .inl p_flats)))] := by
  intro x1 s1 s2 s3 s4 p_flats h
  unfold jn_X3_measure_104 at h
  refine k_iadd dX3_measure_104 ?_
  refine k_iadd dX3_measure_105 ?_
  refine k_iast (L' := fun f => [(34, (ad 34, .inl (cI, 150, .inl f)))]) 34 0 rfl rfl rfl dX3_measure_106 h (fun _ => rfl) (fun p_flats_13 h => ?_)
  refine k_sub [0, 1] rfl ?_
  exact wjn_X3_measure_107 (cI := cI) (cB := cB) (cJ := cJ) (cZ := cZ) (ad := ad) E hk55 _ _ h
set_option maxHeartbeats 4000000 in
set_option maxRecDepth 100000 in
theorem wlp_X3_measure_55 {l : Launch} {D : va_G} {cI cB cJ cZ : ClassId} {ad : Nat → Nat} {ws : va_W} {z : Nat} {c_length : Int32} {c_size : Int32} {c_comments : Int32} {c_text : Nat → Int32} {c_starts : Nat → Int32} {c_lengths : Nat → Int32} {c_firstComments : Nat → Int32} {c_commentStarts : Nat → Int32} {c_commentEnds : Nat → Int32} {t_waiting : Int32} {t_size : Int32} {t_skipped : Int32} {t_cells : Nat → Int32} {t_hints : Nat → Int32} {p_size : Int32} {p_column : Int32} (E : ws[9]? = some (ad 9, .inr (1, [.ref (ad 10), .int c_length, .ref (ad 11), .ref (ad 12), .ref (ad 13), .ref (ad 14), .ref (ad 15), .ref (ad 16), .int c_size, .int c_comments])) ∧ ws[10]? = some (ad 10, .inl (cB, 80, .inl c_text)) ∧ ws[11]? = some (ad 11, .inl (cI, 16, .inl c_starts)) ∧ ws[12]? = some (ad 12, .inl (cI, 16, .inl c_lengths)) ∧ ws[14]? = some (ad 14, .inl (cI, 18, .inl c_firstComments)) ∧ ws[15]? = some (ad 15, .inl (cI, 40, .inl c_commentStarts)) ∧ ws[16]? = some (ad 16, .inl (cI, 40, .inl c_commentEnds)) ∧ ws[22]? = some (ad 22, .inr (4, [.ref (ad 1), .ref (ad 17), .ref (ad 23), .ref (ad 24), .ref (ad 25), .ref (ad 26), .ref (ad 27), .ref (ad 28), .ref (ad 29), .ref (ad 30), .ref (ad 31), .int t_waiting, .int t_size, .int t_skipped])) ∧ ws[23]? = some (ad 23, .inl (cI, 1050, .inl t_cells)) ∧ ws[24]? = some (ad 24, .inl (cI, 150, .inl t_hints)) ∧ ws[32]? = some (ad 32, .inr (3, [.ref (ad 1), .ref (ad 9), .ref (ad 22), .ref (ad 33), .ref (ad 34), .ref (ad 35), .ref (ad 36), .int p_size, .int p_column]))) {o : (Nat → Int32)} {k113 : (Nat → Int32) → Option ((Nat → Int32))} (hk113 : ∀ (p_flats : Nat → Int32), k113 p_flats = some o → KW l xX3_measure D (kT cI cB cJ cZ) ws z (kQv D (kT cI cB cJ cZ) [(34, (ad 34, .inl (cI, 150, .inl o)))] ws z) 113 [] [] [(34, (ad 34, .inl (cI, 150, .inl p_flats)))]) : ∀ (n : Nat) (x1 : Int32) (p_flats : Nat → Int32), lp_X3_measure_55 c_size c_text c_starts c_lengths c_firstComments c_commentStarts c_commentEnds t_size t_cells t_hints k113 n x1 p_flats = some o → KW l xX3_measure D (kT cI cB cJ cZ) ws z (kQv D (kT cI cB cJ cZ) [(34, (ad 34, .inl (cI, 150, .inl o)))] ws z) 55 [(0, .ref (ad 32)), (1, .int x1)] [] [(34, (ad 34, .inl (cI, 150, .inl p_flats)))] := by
  intro n
  induction n with
  | zero => intro x1 p_flats h; exact absurd h (by simp [lp_X3_measure_55])
  | succ n hk55 =>
    intro x1 p_flats h
    unfold lp_X3_measure_55 at h
    refine k_iload_n dX3_measure_55 1 rfl rfl ?_
    refine k_if_le 113 dX3_measure_56 (by decide) h (fun h => ?_) (fun h => ?_)
    · skip
      refine k_sub [] rfl ?_
      exact hk113 _ h
    · skip
      refine k_aload_n dX3_measure_59 0 rfl rfl ?_
      refine k_get 32 2 E.2.2.2.2.2.2.2.2.2.2 rfl qX3_measure_wX3 (by decide) qX3_measure_f41 rfl dX3_measure_60 ?_
      refine k_iload_n dX3_measure_63 1 rfl rfl ?_
      refine k_iconst (v := 2) dX3_measure_64 (by decide) ?_
      obtain ⟨r7, hr7, h⟩ := Option.bind_eq_some_iff.mp h
      refine k_calliV (As := [.int x1, .int 2]) (st := []) (Lc := []) (L' := [(34, (ad 34, .inl (cI, 150, .inl p_flats)))]) (r := r7) gX3_measure_X4_cell rfl rfl rfl hyVX4_cell ⟨Nat.le_of_ble_eq_true rfl, Nat.le_of_ble_eq_true rfl⟩ rfl rfl (Nat.le_of_ble_eq_true rfl) 22 E.2.2.2.2.2.2.2.1 rfl dX3_measure_65 (fun w z hw => c_X4_cell (cI := cI) (cB := cB) (cJ := cJ) (cZ := cZ) (ad := ad) w z ⟨((hw 22).trans E.2.2.2.2.2.2.2.1), ((hw 23).trans E.2.2.2.2.2.2.2.2.1)⟩  hr7) rfl rfl ?_
      refine k_istore_n (i := 2) (lv' := fun x => [(2, .int x), (0, .ref (ad 32)), (1, .int x1)]) dX3_measure_68 rfl (Nat.le_of_ble_eq_true rfl) (fun _ => rfl) h (fun x2_8 h => ?_)
      refine k_iload_n dX3_measure_69 0 rfl rfl ?_
      refine k_iconst (v := (-1)) dX3_measure_70 (by decide) ?_
      refine k_icmp_eq 107 dX3_measure_71 (by decide) h (fun h => ?_) (fun h => ?_)
      · skip
        refine k_sub [1, 2] rfl ?_
        exact wjn_X3_measure_107 (cI := cI) (cB := cB) (cJ := cJ) (cZ := cZ) (ad := ad) E hk55 _ _ h
      · skip
        refine k_aload_n dX3_measure_74 1 rfl rfl ?_
        refine k_get 32 4 E.2.2.2.2.2.2.2.2.2.2 rfl qX3_measure_wX3 (by decide) qX3_measure_f15 rfl dX3_measure_75 ?_
        refine k_iload_n dX3_measure_78 0 rfl rfl ?_
        refine k_dup2 dX3_measure_79 rfl rfl ?_
        refine k_iald 34 0 rfl rfl dX3_measure_80 h (fun v10 h => ?_)
        refine k_aload_n dX3_measure_81 1 rfl rfl ?_
        refine k_get 32 4 E.2.2.2.2.2.2.2.2.2.2 rfl qX3_measure_wX3 (by decide) qX3_measure_f15 rfl dX3_measure_82 ?_
        refine k_iload_n dX3_measure_85 2 rfl rfl ?_
        refine k_iald 34 0 rfl rfl dX3_measure_86 h (fun v11 h => ?_)
        refine k_aload_n dX3_measure_87 1 rfl rfl ?_
        refine k_iload_n dX3_measure_88 2 rfl rfl ?_
        obtain ⟨r12, hr12, h⟩ := Option.bind_eq_some_iff.mp h
        refine k_calliV (As := [.int x1]) (st := [.int v11, .int v10, .int x2_8, .ref (ad 34)]) (Lc := []) (L' := [(34, (ad 34, .inl (cI, 150, .inl p_flats)))]) (r := r12) gX3_measure_X3_hasGap rfl rfl rfl hyVX3_hasGap ⟨Nat.le_of_ble_eq_true rfl, Nat.le_of_ble_eq_true rfl⟩ rfl rfl (Nat.le_of_ble_eq_true rfl) 32 E.2.2.2.2.2.2.2.2.2.2 rfl dX3_measure_89 (fun w z hw => c_X3_hasGap (cI := cI) (cB := cB) (cJ := cJ) (cZ := cZ) (ad := ad) w z ⟨((hw 22).trans E.2.2.2.2.2.2.2.1), ((hw 23).trans E.2.2.2.2.2.2.2.2.1), ((hw 32).trans E.2.2.2.2.2.2.2.2.2.2)⟩  hr12) rfl rfl ?_
        refine k_if_eq 103 dX3_measure_92 (by decide) h (fun h => ?_) (fun h => ?_)
        · skip
          refine k_iconst (v := 0) dX3_measure_103 (by decide) ?_
          refine k_sub [1, 2] rfl ?_
          exact wjn_X3_measure_104 (cI := cI) (cB := cB) (cJ := cJ) (cZ := cZ) (ad := ad) E hk55 _ _ _ _ _ _ h
        · skip
          refine k_aload_n dX3_measure_95 1 rfl rfl ?_
          refine k_iload_n dX3_measure_96 2 rfl rfl ?_
          obtain ⟨r14, hr14, h⟩ := Option.bind_eq_some_iff.mp h
          refine k_calliV (As := [.int x1]) (st := [.int v11, .int v10, .int x2_8, .ref (ad 34)]) (Lc := []) (L' := [(34, (ad 34, .inl (cI, 150, .inl p_flats)))]) (r := r14) gX3_measure_X3_flatGap rfl rfl rfl hyVX3_flatGap ⟨Nat.le_of_ble_eq_true rfl, Nat.le_of_ble_eq_true rfl⟩ rfl rfl (Nat.le_of_ble_eq_true rfl) 32 E.2.2.2.2.2.2.2.2.2.2 rfl dX3_measure_97 (fun w z hw => c_X3_flatGap (cI := cI) (cB := cB) (cJ := cJ) (cZ := cZ) (ad := ad) w z ⟨((hw 9).trans E.1), ((hw 10).trans E.2.1), ((hw 11).trans E.2.2.1), ((hw 14).trans E.2.2.2.2.1), ((hw 22).trans E.2.2.2.2.2.2.2.1), ((hw 23).trans E.2.2.2.2.2.2.2.2.1), ((hw 24).trans E.2.2.2.2.2.2.2.2.2.1), ((hw 32).trans E.2.2.2.2.2.2.2.2.2.2)⟩  hr14) rfl rfl ?_
          refine k_goto 104 dX3_measure_100 (by decide) ?_
          refine k_sub [1, 2] rfl ?_
          exact wjn_X3_measure_104 (cI := cI) (cB := cB) (cJ := cJ) (cZ := cZ) (ad := ad) E hk55 _ _ _ _ _ _ h
set_option maxHeartbeats 4000000 in
set_option maxRecDepth 100000 in
/-- KindParser$Page.measure -/
theorem c_X3_measure {l : Launch} {D : va_G} {cI cB cJ cZ : ClassId} {ad : Nat → Nat} (ws : va_W) (z : Nat) {c_length : Int32} {c_size : Int32} {c_comments : Int32} {c_text : Nat → Int32} {c_starts : Nat → Int32} {c_lengths : Nat → Int32} {c_firstComments : Nat → Int32} {c_commentStarts : Nat → Int32} {c_commentEnds : Nat → Int32} {t_waiting : Int32} {t_size : Int32} {t_skipped : Int32} {t_cells : Nat → Int32} {t_hints : Nat → Int32} {p_size : Int32} {p_column : Int32} {p_flats : Nat → Int32} (E : ws[9]? = some (ad 9, .inr (1, [.ref (ad 10), .int c_length, .ref (ad 11), .ref (ad 12), .ref (ad 13), .ref (ad 14), .ref (ad 15), .ref (ad 16), .int c_size, .int c_comments])) ∧ ws[10]? = some (ad 10, .inl (cB, 80, .inl c_text)) ∧ ws[11]? = some (ad 11, .inl (cI, 16, .inl c_starts)) ∧ ws[12]? = some (ad 12, .inl (cI, 16, .inl c_lengths)) ∧ ws[14]? = some (ad 14, .inl (cI, 18, .inl c_firstComments)) ∧ ws[15]? = some (ad 15, .inl (cI, 40, .inl c_commentStarts)) ∧ ws[16]? = some (ad 16, .inl (cI, 40, .inl c_commentEnds)) ∧ ws[22]? = some (ad 22, .inr (4, [.ref (ad 1), .ref (ad 17), .ref (ad 23), .ref (ad 24), .ref (ad 25), .ref (ad 26), .ref (ad 27), .ref (ad 28), .ref (ad 29), .ref (ad 30), .ref (ad 31), .int t_waiting, .int t_size, .int t_skipped])) ∧ ws[23]? = some (ad 23, .inl (cI, 1050, .inl t_cells)) ∧ ws[24]? = some (ad 24, .inl (cI, 150, .inl t_hints)) ∧ ws[32]? = some (ad 32, .inr (3, [.ref (ad 1), .ref (ad 9), .ref (ad 22), .ref (ad 33), .ref (ad 34), .ref (ad 35), .ref (ad 36), .int p_size, .int p_column]))) (e34 : ws[34]? = some (ad 34, .inl (cI, 150, .inl p_flats)))  {o : (Nat → Int32)} (h : f_X3_measure c_size c_text c_starts c_lengths c_firstComments c_commentStarts c_commentEnds t_size t_cells t_hints p_flats = some o) : Met l yX3_measure wsX3_measure rmX3_measure (kPc D (kT cI cB cJ cZ) [.ref (ad 32)] ws z) (kQv D (kT cI cB cJ cZ) [(34, (ad 34, .inl (cI, 150, .inl o)))] ws z) 0 0 (va_A ws z) := by
  refine KW.met (rm := rmX3_measure) (lv := [(0, .ref (ad 32))]) (L := [(34, (ad 34, .inl (cI, 150, .inl p_flats)))]) rfl (by decide) (Nat.le_of_ble_eq_true rfl) rfl (by intro q hq; simp only [List.mem_cons, List.not_mem_nil, or_false] at hq; rcases hq with rfl <;> assumption) ?_
  unfold f_X3_measure at h
  show KW l xX3_measure D (kT cI cB cJ cZ) ws z (kQv D (kT cI cB cJ cZ) [(34, (ad 34, .inl (cI, 150, .inl o)))] ws z) 0 [(0, .ref (ad 32))] [] [(34, (ad 34, .inl (cI, 150, .inl p_flats)))]
  refine k_iconst (v := 0) dX3_measure_0 (by decide) ?_
  refine k_istore_n (i := 1) (lv' := fun x => [(1, .int x), (0, .ref (ad 32))]) dX3_measure_1 rfl (Nat.le_of_ble_eq_true rfl) (fun _ => rfl) h (fun x1_1 h => ?_)
  refine k_sub [1, 0] rfl ?_
  refine wlp_X3_measure_2 (cI := cI) (cB := cB) (cJ := cJ) (cZ := cZ) (ad := ad) E ?_ FU _ _ h
  · intro p_flats h
    refine k_aload_n dX3_measure_45 0 rfl rfl ?_
    refine k_get 32 2 E.2.2.2.2.2.2.2.2.2.2 rfl qX3_measure_wX3 (by decide) qX3_measure_f41 rfl dX3_measure_46 ?_
    refine k_getN 22 12 E.2.2.2.2.2.2.2.1 rfl qX3_measure_wX4 (by decide) (host := "KindParser") (by decide +kernel) rfl dX3_measure_49 ?_
    refine k_iconst (v := 1) dX3_measure_52 (by decide) ?_
    refine k_isub dX3_measure_53 ?_
    refine k_istore_n (i := 1) (lv' := fun x => [(1, .int x), (0, .ref (ad 32))]) dX3_measure_54 rfl (Nat.le_of_ble_eq_true rfl) (fun _ => rfl) h (fun x1_6 h => ?_)
    refine k_sub [1, 0] rfl ?_
    refine wlp_X3_measure_55 (cI := cI) (cB := cB) (cJ := cJ) (cZ := cZ) (ad := ad) E ?_ FU _ _ h
    · intro p_flats h
      obtain rfl := Option.some.inj h
      exact k_vret rfl dX3_measure_113
abbrev rmX3_put : Room := { frames := 0, cells := 0, slots := 0, locals := 0 }
abbrev xX3_put : KX := (rmX3_put, cX3_put, 2, none, RX3, wsX3_put)
theorem hySX3_put : yX3_put.cls ≠ "java/lang/invoke/MethodHandle" ∧ yX3_put.cls ≠ "java/lang/invoke/VarHandle" ∧ (parseMethodDescriptor yX3_put.desc).map (fun d => d.parameters.length) = some 1 := by decide +kernel
theorem hyVX3_put : yX3_put.cls = RX3 ∧ yX3_put.cls ≠ "java/lang/invoke/MethodHandle" ∧ yX3_put.cls ≠ "java/lang/invoke/VarHandle" ∧ (parseMethodDescriptor yX3_put.desc).map (fun d => d.parameters.length) = some 1 := ⟨rfl, hySX3_put⟩
theorem qX3_put_wX3 : ∀ w ∈ u_ws RX3 TX3 9, w ∈ wsX3_put := by decide +kernel
theorem qX3_put_f26 : Cond.fieldLink RX3 26 "KindParser$Page" "size" "I" ∈ wsX3_put := by decide +kernel
theorem qX3_put_f11 : Cond.fieldLink RX3 11 "KindParser$Page" "sheet" "[B" ∈ wsX3_put := by decide +kernel
theorem qX3_put_f30 : Cond.fieldLink RX3 30 "KindParser$Page" "column" "I" ∈ wsX3_put := by decide +kernel
set_option maxHeartbeats 4000000 in
set_option maxRecDepth 100000 in
theorem wjn_X3_put_41 {l : Launch} {D : va_G} {cI cB cJ cZ : ClassId} {ad : Nat → Nat} {ws : va_W} {z : Nat}  (E : True) {o : (Int32) × (Int32) × (Nat → Int32)}   : ∀ (p_size : Int32) (p_column : Int32) (p_sheet : Nat → Int32), jn_X3_put_41  p_size p_column p_sheet = some o → KW l xX3_put D (kT cI cB cJ cZ) ws z (kQv D (kT cI cB cJ cZ) [(32, (ad 32, .inr (3, [.ref (ad 1), .ref (ad 9), .ref (ad 22), .ref (ad 33), .ref (ad 34), .ref (ad 35), .ref (ad 36), .int o.1, .int o.2.1]))), (33, (ad 33, .inl (cB, 1300, .inl o.2.2)))] ws z) 41 [] [] [(32, (ad 32, .inr (3, [.ref (ad 1), .ref (ad 9), .ref (ad 22), .ref (ad 33), .ref (ad 34), .ref (ad 35), .ref (ad 36), .int p_size, .int p_column]))), (33, (ad 33, .inl (cB, 1300, .inl p_sheet)))] := by
  intro p_size p_column p_sheet h
  unfold jn_X3_put_41 at h
  obtain rfl := Option.some.inj h
  exact k_vret rfl dX3_put_41
set_option maxHeartbeats 4000000 in
set_option maxRecDepth 100000 in
/-- KindParser$Page.put -/
theorem c_X3_put {l : Launch} {D : va_G} {cI cB cJ cZ : ClassId} {ad : Nat → Nat} (ws : va_W) (z : Nat) {p_size : Int32} {p_column : Int32} {p_sheet : Nat → Int32} (E : True) (e32 : ws[32]? = some (ad 32, .inr (3, [.ref (ad 1), .ref (ad 9), .ref (ad 22), .ref (ad 33), .ref (ad 34), .ref (ad 35), .ref (ad 36), .int p_size, .int p_column]))) (e33 : ws[33]? = some (ad 33, .inl (cB, 1300, .inl p_sheet))) {a1 : Int32} {o : (Int32) × (Int32) × (Nat → Int32)} (h : f_X3_put a1 p_size p_column p_sheet = some o) : Met l yX3_put wsX3_put rmX3_put (kPc D (kT cI cB cJ cZ) [.ref (ad 32), .int a1] ws z) (kQv D (kT cI cB cJ cZ) [(32, (ad 32, .inr (3, [.ref (ad 1), .ref (ad 9), .ref (ad 22), .ref (ad 33), .ref (ad 34), .ref (ad 35), .ref (ad 36), .int o.1, .int o.2.1]))), (33, (ad 33, .inl (cB, 1300, .inl o.2.2)))] ws z) 0 0 (va_A ws z) := by
  refine KW.met (rm := rmX3_put) (lv := [(0, .ref (ad 32)), (1, .int a1)]) (L := [(32, (ad 32, .inr (3, [.ref (ad 1), .ref (ad 9), .ref (ad 22), .ref (ad 33), .ref (ad 34), .ref (ad 35), .ref (ad 36), .int p_size, .int p_column]))), (33, (ad 33, .inl (cB, 1300, .inl p_sheet)))]) rfl (by decide) (Nat.le_of_ble_eq_true rfl) rfl (by intro q hq; simp only [List.mem_cons, List.not_mem_nil, or_false] at hq; rcases hq with rfl | rfl <;> assumption) ?_
  unfold f_X3_put at h
  show KW l xX3_put D (kT cI cB cJ cZ) ws z (kQv D (kT cI cB cJ cZ) [(32, (ad 32, .inr (3, [.ref (ad 1), .ref (ad 9), .ref (ad 22), .ref (ad 33), .ref (ad 34), .ref (ad 35), .ref (ad 36), .int o.1, .int o.2.1]))), (33, (ad 33, .inl (cB, 1300, .inl o.2.2)))] ws z) 0 [(0, .ref (ad 32)), (1, .int a1)] [] [(32, (ad 32, .inr (3, [.ref (ad 1), .ref (ad 9), .ref (ad 22), .ref (ad 33), .ref (ad 34), .ref (ad 35), .ref (ad 36), .int p_size, .int p_column]))), (33, (ad 33, .inl (cB, 1300, .inl p_sheet)))]
  refine k_aload_n dX3_put_0 0 rfl rfl ?_
  refine k_get 32 7 rfl rfl qX3_put_wX3 (by decide) qX3_put_f26 rfl dX3_put_1 ?_
  refine k_sipush (v := 1300) dX3_put_4 (by decide) ?_
  refine k_icmp_ge 41 dX3_put_7 (by decide) h (fun h => ?_) (fun h => ?_)
  · skip
    refine k_sub [] rfl ?_
    exact wjn_X3_put_41 (cI := cI) (cB := cB) (cJ := cJ) (cZ := cZ) (ad := ad) E  _ _ _ h
  · skip
    refine k_aload_n dX3_put_10 0 rfl rfl ?_
    refine k_get 32 3 rfl rfl qX3_put_wX3 (by decide) qX3_put_f11 rfl dX3_put_11 ?_
    refine k_aload_n dX3_put_14 0 rfl rfl ?_
    refine k_get 32 7 rfl rfl qX3_put_wX3 (by decide) qX3_put_f26 rfl dX3_put_15 ?_
    refine k_iload_n dX3_put_18 1 rfl rfl ?_
    refine k_i2b dX3_put_19 ?_
    refine k_bast (L' := fun f => [(32, (ad 32, .inr (3, [.ref (ad 1), .ref (ad 9), .ref (ad 22), .ref (ad 33), .ref (ad 34), .ref (ad 35), .ref (ad 36), .int p_size, .int p_column]))), (33, (ad 33, .inl (cB, 1300, .inl f)))]) 33 1 rfl rfl rfl dX3_put_20 h (fun _ => rfl) (fun p_sheet_1 h => ?_)
    refine k_aload_n dX3_put_21 0 rfl rfl ?_
    refine k_dup dX3_put_22 rfl ?_
    refine k_get 32 7 rfl rfl qX3_put_wX3 (by decide) qX3_put_f26 rfl dX3_put_23 ?_
    refine k_iconst (v := 1) dX3_put_26 (by decide) ?_
    refine k_iadd dX3_put_27 ?_
    refine k_put (L' := [(32, (ad 32, .inr (3, [.ref (ad 1), .ref (ad 9), .ref (ad 22), .ref (ad 33), .ref (ad 34), .ref (ad 35), .ref (ad 36), .int (p_size + 1), .int p_column]))), (33, (ad 33, .inl (cB, 1300, .inl p_sheet_1)))]) 32 7 rfl rfl qX3_put_wX3 (by decide) tyX3 tyX3_ok nmX3 rfl qX3_put_f26 rfl (tyX3_ok 7 (by decide)) rfl rfl (Nat.le_of_ble_eq_true rfl) dX3_put_28 rfl ?_
    refine k_aload_n dX3_put_31 0 rfl rfl ?_
    refine k_dup dX3_put_32 rfl ?_
    refine k_get 32 8 rfl rfl qX3_put_wX3 (by decide) qX3_put_f30 rfl dX3_put_33 ?_
    refine k_iconst (v := 1) dX3_put_36 (by decide) ?_
    refine k_iadd dX3_put_37 ?_
    refine k_put (L' := [(32, (ad 32, .inr (3, [.ref (ad 1), .ref (ad 9), .ref (ad 22), .ref (ad 33), .ref (ad 34), .ref (ad 35), .ref (ad 36), .int (p_size + 1), .int (p_column + 1)]))), (33, (ad 33, .inl (cB, 1300, .inl p_sheet_1)))]) 32 8 rfl rfl qX3_put_wX3 (by decide) tyX3 tyX3_ok nmX3 rfl qX3_put_f30 rfl (tyX3_ok 8 (by decide)) rfl rfl (Nat.le_of_ble_eq_true rfl) dX3_put_38 rfl ?_
    refine k_sub [] rfl ?_
    exact wjn_X3_put_41 (cI := cI) (cB := cB) (cJ := cJ) (cZ := cZ) (ad := ad) E  _ _ _ h
abbrev rmX3_layGap : Room := { frames := 3, cells := 0, slots := 0, locals := 64 }
abbrev xX3_layGap : KX := (rmX3_layGap, cX3_layGap, 4, none, RX3, wsX3_layGap)
theorem hySX3_layGap : yX3_layGap.cls ≠ "java/lang/invoke/MethodHandle" ∧ yX3_layGap.cls ≠ "java/lang/invoke/VarHandle" ∧ (parseMethodDescriptor yX3_layGap.desc).map (fun d => d.parameters.length) = some 2 := by decide +kernel
theorem hyVX3_layGap : yX3_layGap.cls = RX3 ∧ yX3_layGap.cls ≠ "java/lang/invoke/MethodHandle" ∧ yX3_layGap.cls ≠ "java/lang/invoke/VarHandle" ∧ (parseMethodDescriptor yX3_layGap.desc).map (fun d => d.parameters.length) = some 2 := ⟨rfl, hySX3_layGap⟩
theorem qX3_layGap_wX3 : ∀ w ∈ u_ws RX3 TX3 9, w ∈ wsX3_layGap := by decide +kernel
theorem qX3_layGap_f41 : Cond.fieldLink RX3 41 "KindParser$Page" "tree" "LKindParser$Tree;" ∈ wsX3_layGap := by decide +kernel
theorem qX3_layGap_wX4 : ∀ w ∈ u_ws RX4 TX4 14, w ∈ wsX3_layGap := by decide +kernel
theorem qX3_layGap_f19 : Cond.fieldLink RX3 19 "KindParser$Page" "broken" "[Z" ∈ wsX3_layGap := by decide +kernel
theorem qX3_layGap_f30 : Cond.fieldLink RX3 30 "KindParser$Page" "column" "I" ∈ wsX3_layGap := by decide +kernel
theorem qX3_layGap_f23 : Cond.fieldLink RX3 23 "KindParser$Page" "indents" "[I" ∈ wsX3_layGap := by decide +kernel
set_option maxHeartbeats 4000000 in
set_option maxRecDepth 100000 in
theorem wjn_X3_layGap_74 {l : Launch} {D : va_G} {cI cB cJ cZ : ClassId} {ad : Nat → Nat} {ws : va_W} {z : Nat} {c_length : Int32} {c_size : Int32} {c_comments : Int32} {c_text : Nat → Int32} {c_starts : Nat → Int32} {c_firstComments : Nat → Int32} {t_waiting : Int32} {t_size : Int32} {t_skipped : Int32} {t_cells : Nat → Int32} {t_hints : Nat → Int32} {p_broken : Nat → Int32} {p_indents : Nat → Int32} (E : ws[9]? = some (ad 9, .inr (1, [.ref (ad 10), .int c_length, .ref (ad 11), .ref (ad 12), .ref (ad 13), .ref (ad 14), .ref (ad 15), .ref (ad 16), .int c_size, .int c_comments])) ∧ ws[10]? = some (ad 10, .inl (cB, 80, .inl c_text)) ∧ ws[11]? = some (ad 11, .inl (cI, 16, .inl c_starts)) ∧ ws[14]? = some (ad 14, .inl (cI, 18, .inl c_firstComments)) ∧ ws[22]? = some (ad 22, .inr (4, [.ref (ad 1), .ref (ad 17), .ref (ad 23), .ref (ad 24), .ref (ad 25), .ref (ad 26), .ref (ad 27), .ref (ad 28), .ref (ad 29), .ref (ad 30), .ref (ad 31), .int t_waiting, .int t_size, .int t_skipped])) ∧ ws[23]? = some (ad 23, .inl (cI, 1050, .inl t_cells)) ∧ ws[24]? = some (ad 24, .inl (cI, 150, .inl t_hints)) ∧ ws[35]? = some (ad 35, .inl (cZ, 150, .inl p_broken)) ∧ ws[36]? = some (ad 36, .inl (cI, 150, .inl p_indents))) {o : (Int32) × (Int32) × (Nat → Int32)}   : ∀ (p_size : Int32) (p_column : Int32) (p_sheet : Nat → Int32), jn_X3_layGap_74 c_size c_text c_starts c_firstComments t_cells t_hints p_broken p_indents p_size p_column p_sheet = some o → KW l xX3_layGap D (kT cI cB cJ cZ) ws z (kQv D (kT cI cB cJ cZ) [(32, (ad 32, .inr (3, [.ref (ad 1), .ref (ad 9), .ref (ad 22), .ref (ad 33), .ref (ad 34), .ref (ad 35), .ref (ad 36), .int o.1, .int o.2.1]))), (33, (ad 33, .inl (cB, 1300, .inl o.2.2)))] ws z) 74 [] [] [(32, (ad 32, .inr (3, [.ref (ad 1), .ref (ad 9), .ref (ad 22), .ref (ad 33), .ref (ad 34), .ref (ad 35), .ref (ad 36), .int p_size, .int p_column]))), (33, (ad 33, .inl (cB, 1300, .inl p_sheet)))] := by
  intro p_size p_column p_sheet h
  unfold jn_X3_layGap_74 at h
  obtain rfl := Option.some.inj h
  exact k_vret rfl dX3_layGap_74
set_option maxHeartbeats 4000000 in
set_option maxRecDepth 100000 in
theorem wjn_X3_layGap_60 {l : Launch} {D : va_G} {cI cB cJ cZ : ClassId} {ad : Nat → Nat} {ws : va_W} {z : Nat} {c_length : Int32} {c_size : Int32} {c_comments : Int32} {c_text : Nat → Int32} {c_starts : Nat → Int32} {c_firstComments : Nat → Int32} {t_waiting : Int32} {t_size : Int32} {t_skipped : Int32} {t_cells : Nat → Int32} {t_hints : Nat → Int32} {p_broken : Nat → Int32} {p_indents : Nat → Int32} (E : ws[9]? = some (ad 9, .inr (1, [.ref (ad 10), .int c_length, .ref (ad 11), .ref (ad 12), .ref (ad 13), .ref (ad 14), .ref (ad 15), .ref (ad 16), .int c_size, .int c_comments])) ∧ ws[10]? = some (ad 10, .inl (cB, 80, .inl c_text)) ∧ ws[11]? = some (ad 11, .inl (cI, 16, .inl c_starts)) ∧ ws[14]? = some (ad 14, .inl (cI, 18, .inl c_firstComments)) ∧ ws[22]? = some (ad 22, .inr (4, [.ref (ad 1), .ref (ad 17), .ref (ad 23), .ref (ad 24), .ref (ad 25), .ref (ad 26), .ref (ad 27), .ref (ad 28), .ref (ad 29), .ref (ad 30), .ref (ad 31), .int t_waiting, .int t_size, .int t_skipped])) ∧ ws[23]? = some (ad 23, .inl (cI, 1050, .inl t_cells)) ∧ ws[24]? = some (ad 24, .inl (cI, 150, .inl t_hints)) ∧ ws[35]? = some (ad 35, .inl (cZ, 150, .inl p_broken)) ∧ ws[36]? = some (ad 36, .inl (cI, 150, .inl p_indents))) {o : (Int32) × (Int32) × (Nat → Int32)}   : ∀ (x1 : Int32) (p_size : Int32) (p_column : Int32) (p_sheet : Nat → Int32), jn_X3_layGap_60 c_size c_text c_starts c_firstComments t_cells t_hints p_broken p_indents x1 p_size p_column p_sheet = some o → KW l xX3_layGap D (kT cI cB cJ cZ) ws z (kQv D (kT cI cB cJ cZ) [(32, (ad 32, .inr (3, [.ref (ad 1), .ref (ad 9), .ref (ad 22), .ref (ad 33), .ref (ad 34), .ref (ad 35), .ref (ad 36), .int o.1, .int o.2.1]))), (33, (ad 33, .inl (cB, 1300, .inl o.2.2)))] ws z) 60 [(0, .ref (ad 32)), (1, .int x1)] [] [(32, (ad 32, .inr (3, [.ref (ad 1), .ref (ad 9), .ref (ad 22), .ref (ad 33), .ref (ad 34), .ref (ad 35), .ref (ad 36), .int p_size, .int p_column]))), (33, (ad 33, .inl (cB, 1300, .inl p_sheet)))] := by
  intro x1 p_size p_column p_sheet h
  unfold jn_X3_layGap_60 at h
  refine k_aload_n dX3_layGap_60 0 rfl rfl ?_
  refine k_iload_n dX3_layGap_61 1 rfl rfl ?_
  obtain ⟨r3, hr3, h⟩ := Option.bind_eq_some_iff.mp h
  refine k_calliV (As := [.int x1]) (st := []) (Lc := []) (L' := [(32, (ad 32, .inr (3, [.ref (ad 1), .ref (ad 9), .ref (ad 22), .ref (ad 33), .ref (ad 34), .ref (ad 35), .ref (ad 36), .int p_size, .int p_column]))), (33, (ad 33, .inl (cB, 1300, .inl p_sheet)))]) (r := r3) gX3_layGap_X3_flatGap rfl rfl rfl hyVX3_flatGap ⟨Nat.le_of_ble_eq_true rfl, Nat.le_of_ble_eq_true rfl⟩ rfl rfl (Nat.le_of_ble_eq_true rfl) 32 rfl rfl dX3_layGap_62 (fun w z hw => c_X3_flatGap (cI := cI) (cB := cB) (cJ := cJ) (cZ := cZ) (ad := ad) w z ⟨((hw 9).trans E.1), ((hw 10).trans E.2.1), ((hw 11).trans E.2.2.1), ((hw 14).trans E.2.2.2.1), ((hw 22).trans E.2.2.2.2.1), ((hw 23).trans E.2.2.2.2.2.1), ((hw 24).trans E.2.2.2.2.2.2.1), (hw 32)⟩  hr3) rfl rfl ?_
  refine k_if_le 74 dX3_layGap_65 (by decide) h (fun h => ?_) (fun h => ?_)
  · skip
    refine k_sub [] rfl ?_
    exact wjn_X3_layGap_74 (cI := cI) (cB := cB) (cJ := cJ) (cZ := cZ) (ad := ad) E  _ _ _ h
  · skip
    refine k_aload_n dX3_layGap_68 0 rfl rfl ?_
    refine k_bipush (v := 32) dX3_layGap_69 (by decide) ?_
    obtain ⟨r4, hr4, h⟩ := Option.bind_eq_some_iff.mp h
    refine k_callvV (As := [.int 32]) (st := []) (Lc := [(32, (ad 32, .inr (3, [.ref (ad 1), .ref (ad 9), .ref (ad 22), .ref (ad 33), .ref (ad 34), .ref (ad 35), .ref (ad 36), .int r4.1, .int r4.2.1]))), (33, (ad 33, .inl (cB, 1300, .inl r4.2.2)))]) (L' := [(32, (ad 32, .inr (3, [.ref (ad 1), .ref (ad 9), .ref (ad 22), .ref (ad 33), .ref (ad 34), .ref (ad 35), .ref (ad 36), .int r4.1, .int r4.2.1]))), (33, (ad 33, .inl (cB, 1300, .inl r4.2.2)))]) gX3_layGap_X3_put rfl rfl rfl hyVX3_put ⟨Nat.le_of_ble_eq_true rfl, Nat.le_of_ble_eq_true rfl⟩ rfl rfl (Nat.le_of_ble_eq_true rfl) 32 rfl rfl dX3_layGap_71 (fun w z hw => c_X3_put (cI := cI) (cB := cB) (cJ := cJ) (cZ := cZ) (ad := ad) w z trivial (hw 32) (hw 33) hr4) rfl rfl ?_
    refine k_sub [] rfl ?_
    exact wjn_X3_layGap_74 (cI := cI) (cB := cB) (cJ := cJ) (cZ := cZ) (ad := ad) E  _ _ _ h
set_option maxHeartbeats 4000000 in
set_option maxRecDepth 100000 in
theorem wlp_X3_layGap_35 {l : Launch} {D : va_G} {cI cB cJ cZ : ClassId} {ad : Nat → Nat} {ws : va_W} {z : Nat} {c_length : Int32} {c_size : Int32} {c_comments : Int32} {c_text : Nat → Int32} {c_starts : Nat → Int32} {c_firstComments : Nat → Int32} {t_waiting : Int32} {t_size : Int32} {t_skipped : Int32} {t_cells : Nat → Int32} {t_hints : Nat → Int32} {p_broken : Nat → Int32} {p_indents : Nat → Int32} (E : ws[9]? = some (ad 9, .inr (1, [.ref (ad 10), .int c_length, .ref (ad 11), .ref (ad 12), .ref (ad 13), .ref (ad 14), .ref (ad 15), .ref (ad 16), .int c_size, .int c_comments])) ∧ ws[10]? = some (ad 10, .inl (cB, 80, .inl c_text)) ∧ ws[11]? = some (ad 11, .inl (cI, 16, .inl c_starts)) ∧ ws[14]? = some (ad 14, .inl (cI, 18, .inl c_firstComments)) ∧ ws[22]? = some (ad 22, .inr (4, [.ref (ad 1), .ref (ad 17), .ref (ad 23), .ref (ad 24), .ref (ad 25), .ref (ad 26), .ref (ad 27), .ref (ad 28), .ref (ad 29), .ref (ad 30), .ref (ad 31), .int t_waiting, .int t_size, .int t_skipped])) ∧ ws[23]? = some (ad 23, .inl (cI, 1050, .inl t_cells)) ∧ ws[24]? = some (ad 24, .inl (cI, 150, .inl t_hints)) ∧ ws[35]? = some (ad 35, .inl (cZ, 150, .inl p_broken)) ∧ ws[36]? = some (ad 36, .inl (cI, 150, .inl p_indents))) {o : (Int32) × (Int32) × (Nat → Int32)} {k57 : (Int32) → (Int32) → (Nat → Int32) → Option ((Int32) × (Int32) × (Nat → Int32))} (hk57 : ∀ (p_size : Int32) (p_column : Int32) (p_sheet : Nat → Int32), k57 p_size p_column p_sheet = some o → KW l xX3_layGap D (kT cI cB cJ cZ) ws z (kQv D (kT cI cB cJ cZ) [(32, (ad 32, .inr (3, [.ref (ad 1), .ref (ad 9), .ref (ad 22), .ref (ad 33), .ref (ad 34), .ref (ad 35), .ref (ad 36), .int o.1, .int o.2.1]))), (33, (ad 33, .inl (cB, 1300, .inl o.2.2)))] ws z) 57 [] [] [(32, (ad 32, .inr (3, [.ref (ad 1), .ref (ad 9), .ref (ad 22), .ref (ad 33), .ref (ad 34), .ref (ad 35), .ref (ad 36), .int p_size, .int p_column]))), (33, (ad 33, .inl (cB, 1300, .inl p_sheet)))]) : ∀ (n : Nat) (x2 : Int32) (x3 : Int32) (p_size : Int32) (p_column : Int32) (p_sheet : Nat → Int32), lp_X3_layGap_35 c_size c_text c_starts c_firstComments t_cells t_hints p_broken p_indents k57 n x2 x3 p_size p_column p_sheet = some o → KW l xX3_layGap D (kT cI cB cJ cZ) ws z (kQv D (kT cI cB cJ cZ) [(32, (ad 32, .inr (3, [.ref (ad 1), .ref (ad 9), .ref (ad 22), .ref (ad 33), .ref (ad 34), .ref (ad 35), .ref (ad 36), .int o.1, .int o.2.1]))), (33, (ad 33, .inl (cB, 1300, .inl o.2.2)))] ws z) 35 [(0, .ref (ad 32)), (2, .int x2), (3, .int x3)] [] [(32, (ad 32, .inr (3, [.ref (ad 1), .ref (ad 9), .ref (ad 22), .ref (ad 33), .ref (ad 34), .ref (ad 35), .ref (ad 36), .int p_size, .int p_column]))), (33, (ad 33, .inl (cB, 1300, .inl p_sheet)))] := by
  intro n
  induction n with
  | zero => intro x2 x3 p_size p_column p_sheet h; exact absurd h (by simp [lp_X3_layGap_35])
  | succ n hk35 =>
    intro x2 x3 p_size p_column p_sheet h
    unfold lp_X3_layGap_35 at h
    refine k_iload_n dX3_layGap_35 2 rfl rfl ?_
    refine k_aload_n dX3_layGap_36 0 rfl rfl ?_
    refine k_get 32 6 rfl rfl qX3_layGap_wX3 (by decide) qX3_layGap_f23 rfl dX3_layGap_37 ?_
    refine k_iload_n dX3_layGap_40 1 rfl rfl ?_
    refine k_iald 36 0 E.2.2.2.2.2.2.2.2 rfl dX3_layGap_41 h (fun v7 h => ?_)
    refine k_icmp_ge 57 dX3_layGap_42 (by decide) h (fun h => ?_) (fun h => ?_)
    · skip
      refine k_sub [] rfl ?_
      exact hk57 _ _ _ h
    · skip
      refine k_aload_n dX3_layGap_45 0 rfl rfl ?_
      refine k_bipush (v := 32) dX3_layGap_46 (by decide) ?_
      obtain ⟨r8, hr8, h⟩ := Option.bind_eq_some_iff.mp h
      refine k_callvV (As := [.int 32]) (st := []) (Lc := [(32, (ad 32, .inr (3, [.ref (ad 1), .ref (ad 9), .ref (ad 22), .ref (ad 33), .ref (ad 34), .ref (ad 35), .ref (ad 36), .int r8.1, .int r8.2.1]))), (33, (ad 33, .inl (cB, 1300, .inl r8.2.2)))]) (L' := [(32, (ad 32, .inr (3, [.ref (ad 1), .ref (ad 9), .ref (ad 22), .ref (ad 33), .ref (ad 34), .ref (ad 35), .ref (ad 36), .int r8.1, .int r8.2.1]))), (33, (ad 33, .inl (cB, 1300, .inl r8.2.2)))]) gX3_layGap_X3_put rfl rfl rfl hyVX3_put ⟨Nat.le_of_ble_eq_true rfl, Nat.le_of_ble_eq_true rfl⟩ rfl rfl (Nat.le_of_ble_eq_true rfl) 32 rfl rfl dX3_layGap_48 (fun w z hw => c_X3_put (cI := cI) (cB := cB) (cJ := cJ) (cZ := cZ) (ad := ad) w z trivial (hw 32) (hw 33) hr8) rfl rfl ?_
      refine k_iinc (i := 3) (lv' := fun x => [(3, .int x), (0, .ref (ad 32)), (2, .int x2)]) dX3_layGap_51 2 rfl (Nat.le_of_ble_eq_true rfl) (fun _ => rfl) h (fun x3_9 h => ?_)
      refine k_goto 35 dX3_layGap_54 (by decide) ?_
      refine k_sub [1, 2, 0] rfl ?_
      exact hk35 _ _ _ _ _ h
set_option maxHeartbeats 4000000 in
set_option maxRecDepth 100000 in
/-- KindParser$Page.layGap -/
theorem c_X3_layGap {l : Launch} {D : va_G} {cI cB cJ cZ : ClassId} {ad : Nat → Nat} (ws : va_W) (z : Nat) {c_length : Int32} {c_size : Int32} {c_comments : Int32} {c_text : Nat → Int32} {c_starts : Nat → Int32} {c_firstComments : Nat → Int32} {t_waiting : Int32} {t_size : Int32} {t_skipped : Int32} {t_cells : Nat → Int32} {t_hints : Nat → Int32} {p_size : Int32} {p_column : Int32} {p_sheet : Nat → Int32} {p_broken : Nat → Int32} {p_indents : Nat → Int32} (E : ws[9]? = some (ad 9, .inr (1, [.ref (ad 10), .int c_length, .ref (ad 11), .ref (ad 12), .ref (ad 13), .ref (ad 14), .ref (ad 15), .ref (ad 16), .int c_size, .int c_comments])) ∧ ws[10]? = some (ad 10, .inl (cB, 80, .inl c_text)) ∧ ws[11]? = some (ad 11, .inl (cI, 16, .inl c_starts)) ∧ ws[14]? = some (ad 14, .inl (cI, 18, .inl c_firstComments)) ∧ ws[22]? = some (ad 22, .inr (4, [.ref (ad 1), .ref (ad 17), .ref (ad 23), .ref (ad 24), .ref (ad 25), .ref (ad 26), .ref (ad 27), .ref (ad 28), .ref (ad 29), .ref (ad 30), .ref (ad 31), .int t_waiting, .int t_size, .int t_skipped])) ∧ ws[23]? = some (ad 23, .inl (cI, 1050, .inl t_cells)) ∧ ws[24]? = some (ad 24, .inl (cI, 150, .inl t_hints)) ∧ ws[35]? = some (ad 35, .inl (cZ, 150, .inl p_broken)) ∧ ws[36]? = some (ad 36, .inl (cI, 150, .inl p_indents))) (e32 : ws[32]? = some (ad 32, .inr (3, [.ref (ad 1), .ref (ad 9), .ref (ad 22), .ref (ad 33), .ref (ad 34), .ref (ad 35), .ref (ad 36), .int p_size, .int p_column]))) (e33 : ws[33]? = some (ad 33, .inl (cB, 1300, .inl p_sheet))) {a1 : Int32} {a2 : Int32} {o : (Int32) × (Int32) × (Nat → Int32)} (h : f_X3_layGap a1 a2 c_size c_text c_starts c_firstComments t_cells t_hints p_broken p_indents p_size p_column p_sheet = some o) : Met l yX3_layGap wsX3_layGap rmX3_layGap (kPc D (kT cI cB cJ cZ) [.ref (ad 32), .int a1, .int a2] ws z) (kQv D (kT cI cB cJ cZ) [(32, (ad 32, .inr (3, [.ref (ad 1), .ref (ad 9), .ref (ad 22), .ref (ad 33), .ref (ad 34), .ref (ad 35), .ref (ad 36), .int o.1, .int o.2.1]))), (33, (ad 33, .inl (cB, 1300, .inl o.2.2)))] ws z) 0 0 (va_A ws z) := by
  refine KW.met (rm := rmX3_layGap) (lv := [(0, .ref (ad 32)), (1, .int a1), (2, .int a2)]) (L := [(32, (ad 32, .inr (3, [.ref (ad 1), .ref (ad 9), .ref (ad 22), .ref (ad 33), .ref (ad 34), .ref (ad 35), .ref (ad 36), .int p_size, .int p_column]))), (33, (ad 33, .inl (cB, 1300, .inl p_sheet)))]) rfl (by decide) (Nat.le_of_ble_eq_true rfl) rfl (by intro q hq; simp only [List.mem_cons, List.not_mem_nil, or_false] at hq; rcases hq with rfl | rfl <;> assumption) ?_
  unfold f_X3_layGap at h
  show KW l xX3_layGap D (kT cI cB cJ cZ) ws z (kQv D (kT cI cB cJ cZ) [(32, (ad 32, .inr (3, [.ref (ad 1), .ref (ad 9), .ref (ad 22), .ref (ad 33), .ref (ad 34), .ref (ad 35), .ref (ad 36), .int o.1, .int o.2.1]))), (33, (ad 33, .inl (cB, 1300, .inl o.2.2)))] ws z) 0 [(0, .ref (ad 32)), (1, .int a1), (2, .int a2)] [] [(32, (ad 32, .inr (3, [.ref (ad 1), .ref (ad 9), .ref (ad 22), .ref (ad 33), .ref (ad 34), .ref (ad 35), .ref (ad 36), .int p_size, .int p_column]))), (33, (ad 33, .inl (cB, 1300, .inl p_sheet)))]
  refine k_aload_n dX3_layGap_0 0 rfl rfl ?_
  refine k_get 32 2 rfl rfl qX3_layGap_wX3 (by decide) qX3_layGap_f41 rfl dX3_layGap_1 ?_
  refine k_getN 22 3 E.2.2.2.2.1 rfl qX3_layGap_wX4 (by decide) (host := "KindParser") (by decide +kernel) rfl dX3_layGap_4 ?_
  refine k_iload_n dX3_layGap_7 1 rfl rfl ?_
  refine k_iald 24 0 E.2.2.2.2.2.2.1 rfl dX3_layGap_8 h (fun v1 h => ?_)
  refine k_iconst (v := 2) dX3_layGap_9 (by decide) ?_
  refine k_icmp_ne 60 dX3_layGap_10 (by decide) h (fun h => ?_) (fun h => ?_)
  · skip
    refine k_aload_n dX3_layGap_13 0 rfl rfl ?_
    refine k_get 32 5 rfl rfl qX3_layGap_wX3 (by decide) qX3_layGap_f19 rfl dX3_layGap_14 ?_
    refine k_iload_n dX3_layGap_17 2 rfl rfl ?_
    refine k_zald 35 3 E.2.2.2.2.2.2.2.1 rfl dX3_layGap_18 h (fun v2 h => ?_)
    refine k_if_eq 60 dX3_layGap_19 (by decide) h (fun h => ?_) (fun h => ?_)
    · skip
      refine k_sub [0, 1] rfl ?_
      exact wjn_X3_layGap_60 (cI := cI) (cB := cB) (cJ := cJ) (cZ := cZ) (ad := ad) E  _ _ _ _ h
    · skip
      refine k_aload_n dX3_layGap_22 0 rfl rfl ?_
      refine k_bipush (v := 10) dX3_layGap_23 (by decide) ?_
      obtain ⟨r5, hr5, h⟩ := Option.bind_eq_some_iff.mp h
      refine k_callvV (As := [.int 10]) (st := []) (Lc := [(32, (ad 32, .inr (3, [.ref (ad 1), .ref (ad 9), .ref (ad 22), .ref (ad 33), .ref (ad 34), .ref (ad 35), .ref (ad 36), .int r5.1, .int r5.2.1]))), (33, (ad 33, .inl (cB, 1300, .inl r5.2.2)))]) (L' := [(32, (ad 32, .inr (3, [.ref (ad 1), .ref (ad 9), .ref (ad 22), .ref (ad 33), .ref (ad 34), .ref (ad 35), .ref (ad 36), .int r5.1, .int r5.2.1]))), (33, (ad 33, .inl (cB, 1300, .inl r5.2.2)))]) gX3_layGap_X3_put rfl rfl rfl hyVX3_put ⟨Nat.le_of_ble_eq_true rfl, Nat.le_of_ble_eq_true rfl⟩ rfl rfl (Nat.le_of_ble_eq_true rfl) 32 rfl rfl dX3_layGap_25 (fun w z hw => c_X3_put (cI := cI) (cB := cB) (cJ := cJ) (cZ := cZ) (ad := ad) w z trivial (hw 32) (hw 33) hr5) rfl rfl ?_
      refine k_aload_n dX3_layGap_28 0 rfl rfl ?_
      refine k_iconst (v := 0) dX3_layGap_29 (by decide) ?_
      refine k_put (L' := [(32, (ad 32, .inr (3, [.ref (ad 1), .ref (ad 9), .ref (ad 22), .ref (ad 33), .ref (ad 34), .ref (ad 35), .ref (ad 36), .int r5.1, .int 0]))), (33, (ad 33, .inl (cB, 1300, .inl r5.2.2)))]) 32 8 rfl rfl qX3_layGap_wX3 (by decide) tyX3 tyX3_ok nmX3 rfl qX3_layGap_f30 rfl (tyX3_ok 8 (by decide)) rfl rfl (Nat.le_of_ble_eq_true rfl) dX3_layGap_30 rfl ?_
      refine k_iconst (v := 0) dX3_layGap_33 (by decide) ?_
      refine k_istore_n (i := 3) (lv' := fun x => [(3, .int x), (0, .ref (ad 32)), (1, .int a1), (2, .int a2)]) dX3_layGap_34 rfl (Nat.le_of_ble_eq_true rfl) (fun _ => rfl) h (fun x3_6 h => ?_)
      refine k_sub [1, 3, 0] rfl ?_
      refine wlp_X3_layGap_35 (cI := cI) (cB := cB) (cJ := cJ) (cZ := cZ) (ad := ad) E ?_ FU _ _ _ _ _ h
      · intro p_size p_column p_sheet h
        refine k_goto 74 dX3_layGap_57 (by decide) ?_
        refine k_sub [] rfl ?_
        exact wjn_X3_layGap_74 (cI := cI) (cB := cB) (cJ := cJ) (cZ := cZ) (ad := ad) E  _ _ _ h
  · skip
    refine k_sub [0, 1] rfl ?_
    exact wjn_X3_layGap_60 (cI := cI) (cB := cB) (cJ := cJ) (cZ := cZ) (ad := ad) E  _ _ _ _ h
abbrev rmX3_layText : Room := { frames := 1, cells := 0, slots := 0, locals := 21 }
abbrev xX3_layText : KX := (rmX3_layText, cX3_layText, 4, none, RX3, wsX3_layText)
theorem hySX3_layText : yX3_layText.cls ≠ "java/lang/invoke/MethodHandle" ∧ yX3_layText.cls ≠ "java/lang/invoke/VarHandle" ∧ (parseMethodDescriptor yX3_layText.desc).map (fun d => d.parameters.length) = some 2 := by decide +kernel
theorem hyVX3_layText : yX3_layText.cls = RX3 ∧ yX3_layText.cls ≠ "java/lang/invoke/MethodHandle" ∧ yX3_layText.cls ≠ "java/lang/invoke/VarHandle" ∧ (parseMethodDescriptor yX3_layText.desc).map (fun d => d.parameters.length) = some 2 := ⟨rfl, hySX3_layText⟩
theorem qX3_layText_wX3 : ∀ w ∈ u_ws RX3 TX3 9, w ∈ wsX3_layText := by decide +kernel
theorem qX3_layText_f37 : Cond.fieldLink RX3 37 "KindParser$Page" "cut" "LKindParser$Cut;" ∈ wsX3_layText := by decide +kernel
theorem qX3_layText_wX1 : ∀ w ∈ u_ws RX1 TX1 10, w ∈ wsX3_layText := by decide +kernel
set_option maxHeartbeats 4000000 in
set_option maxRecDepth 100000 in
theorem wlp_X3_layText_2 {l : Launch} {D : va_G} {cI cB cJ cZ : ClassId} {ad : Nat → Nat} {ws : va_W} {z : Nat} {c_length : Int32} {c_size : Int32} {c_comments : Int32} {c_text : Nat → Int32} (E : ws[9]? = some (ad 9, .inr (1, [.ref (ad 10), .int c_length, .ref (ad 11), .ref (ad 12), .ref (ad 13), .ref (ad 14), .ref (ad 15), .ref (ad 16), .int c_size, .int c_comments])) ∧ ws[10]? = some (ad 10, .inl (cB, 80, .inl c_text))) {o : (Int32) × (Int32) × (Nat → Int32)} {k26 : (Int32) → (Int32) → (Nat → Int32) → Option ((Int32) × (Int32) × (Nat → Int32))} (hk26 : ∀ (p_size : Int32) (p_column : Int32) (p_sheet : Nat → Int32), k26 p_size p_column p_sheet = some o → KW l xX3_layText D (kT cI cB cJ cZ) ws z (kQv D (kT cI cB cJ cZ) [(32, (ad 32, .inr (3, [.ref (ad 1), .ref (ad 9), .ref (ad 22), .ref (ad 33), .ref (ad 34), .ref (ad 35), .ref (ad 36), .int o.1, .int o.2.1]))), (33, (ad 33, .inl (cB, 1300, .inl o.2.2)))] ws z) 26 [] [] [(32, (ad 32, .inr (3, [.ref (ad 1), .ref (ad 9), .ref (ad 22), .ref (ad 33), .ref (ad 34), .ref (ad 35), .ref (ad 36), .int p_size, .int p_column]))), (33, (ad 33, .inl (cB, 1300, .inl p_sheet)))]) : ∀ (n : Nat) (x2 : Int32) (x3 : Int32) (p_size : Int32) (p_column : Int32) (p_sheet : Nat → Int32), lp_X3_layText_2 c_text k26 n x2 x3 p_size p_column p_sheet = some o → KW l xX3_layText D (kT cI cB cJ cZ) ws z (kQv D (kT cI cB cJ cZ) [(32, (ad 32, .inr (3, [.ref (ad 1), .ref (ad 9), .ref (ad 22), .ref (ad 33), .ref (ad 34), .ref (ad 35), .ref (ad 36), .int o.1, .int o.2.1]))), (33, (ad 33, .inl (cB, 1300, .inl o.2.2)))] ws z) 2 [(0, .ref (ad 32)), (2, .int x2), (3, .int x3)] [] [(32, (ad 32, .inr (3, [.ref (ad 1), .ref (ad 9), .ref (ad 22), .ref (ad 33), .ref (ad 34), .ref (ad 35), .ref (ad 36), .int p_size, .int p_column]))), (33, (ad 33, .inl (cB, 1300, .inl p_sheet)))] := by
  intro n
  induction n with
  | zero => intro x2 x3 p_size p_column p_sheet h; exact absurd h (by simp [lp_X3_layText_2])
  | succ n hk2 =>
    intro x2 x3 p_size p_column p_sheet h
    unfold lp_X3_layText_2 at h
    refine k_iload_n dX3_layText_2 2 rfl rfl ?_
    refine k_iload_n dX3_layText_3 1 rfl rfl ?_
    refine k_icmp_ge 26 dX3_layText_4 (by decide) h (fun h => ?_) (fun h => ?_)
    · skip
      refine k_sub [] rfl ?_
      exact hk26 _ _ _ h
    · skip
      refine k_aload_n dX3_layText_7 0 rfl rfl ?_
      refine k_aload_n dX3_layText_8 0 rfl rfl ?_
      refine k_get 32 1 rfl rfl qX3_layText_wX3 (by decide) qX3_layText_f37 rfl dX3_layText_9 ?_
      refine k_getN 9 0 E.1 rfl qX3_layText_wX1 (by decide) (host := "KindParser") (by decide +kernel) rfl dX3_layText_12 ?_
      refine k_iload_n dX3_layText_15 2 rfl rfl ?_
      refine k_bald 10 1 E.2 rfl dX3_layText_16 h (fun v2 h => ?_)
      obtain ⟨r3, hr3, h⟩ := Option.bind_eq_some_iff.mp h
      refine k_callvV (As := [.int v2]) (st := []) (Lc := [(32, (ad 32, .inr (3, [.ref (ad 1), .ref (ad 9), .ref (ad 22), .ref (ad 33), .ref (ad 34), .ref (ad 35), .ref (ad 36), .int r3.1, .int r3.2.1]))), (33, (ad 33, .inl (cB, 1300, .inl r3.2.2)))]) (L' := [(32, (ad 32, .inr (3, [.ref (ad 1), .ref (ad 9), .ref (ad 22), .ref (ad 33), .ref (ad 34), .ref (ad 35), .ref (ad 36), .int r3.1, .int r3.2.1]))), (33, (ad 33, .inl (cB, 1300, .inl r3.2.2)))]) gX3_layText_X3_put rfl rfl rfl hyVX3_put ⟨Nat.le_of_ble_eq_true rfl, Nat.le_of_ble_eq_true rfl⟩ rfl rfl (Nat.le_of_ble_eq_true rfl) 32 rfl rfl dX3_layText_17 (fun w z hw => c_X3_put (cI := cI) (cB := cB) (cJ := cJ) (cZ := cZ) (ad := ad) w z trivial (hw 32) (hw 33) hr3) rfl rfl ?_
      refine k_iinc (i := 3) (lv' := fun x => [(3, .int x), (0, .ref (ad 32)), (2, .int x2)]) dX3_layText_20 2 rfl (Nat.le_of_ble_eq_true rfl) (fun _ => rfl) h (fun x3_4 h => ?_)
      refine k_goto 2 dX3_layText_23 (by decide) ?_
      refine k_sub [1, 2, 0] rfl ?_
      exact hk2 _ _ _ _ _ h
set_option maxHeartbeats 4000000 in
set_option maxRecDepth 100000 in
/-- KindParser$Page.layText -/
theorem c_X3_layText {l : Launch} {D : va_G} {cI cB cJ cZ : ClassId} {ad : Nat → Nat} (ws : va_W) (z : Nat) {c_length : Int32} {c_size : Int32} {c_comments : Int32} {c_text : Nat → Int32} {p_size : Int32} {p_column : Int32} {p_sheet : Nat → Int32} (E : ws[9]? = some (ad 9, .inr (1, [.ref (ad 10), .int c_length, .ref (ad 11), .ref (ad 12), .ref (ad 13), .ref (ad 14), .ref (ad 15), .ref (ad 16), .int c_size, .int c_comments])) ∧ ws[10]? = some (ad 10, .inl (cB, 80, .inl c_text))) (e32 : ws[32]? = some (ad 32, .inr (3, [.ref (ad 1), .ref (ad 9), .ref (ad 22), .ref (ad 33), .ref (ad 34), .ref (ad 35), .ref (ad 36), .int p_size, .int p_column]))) (e33 : ws[33]? = some (ad 33, .inl (cB, 1300, .inl p_sheet))) {a1 : Int32} {a2 : Int32} {o : (Int32) × (Int32) × (Nat → Int32)} (h : f_X3_layText a1 a2 c_text p_size p_column p_sheet = some o) : Met l yX3_layText wsX3_layText rmX3_layText (kPc D (kT cI cB cJ cZ) [.ref (ad 32), .int a1, .int a2] ws z) (kQv D (kT cI cB cJ cZ) [(32, (ad 32, .inr (3, [.ref (ad 1), .ref (ad 9), .ref (ad 22), .ref (ad 33), .ref (ad 34), .ref (ad 35), .ref (ad 36), .int o.1, .int o.2.1]))), (33, (ad 33, .inl (cB, 1300, .inl o.2.2)))] ws z) 0 0 (va_A ws z) := by
  refine KW.met (rm := rmX3_layText) (lv := [(0, .ref (ad 32)), (1, .int a1), (2, .int a2)]) (L := [(32, (ad 32, .inr (3, [.ref (ad 1), .ref (ad 9), .ref (ad 22), .ref (ad 33), .ref (ad 34), .ref (ad 35), .ref (ad 36), .int p_size, .int p_column]))), (33, (ad 33, .inl (cB, 1300, .inl p_sheet)))]) rfl (by decide) (Nat.le_of_ble_eq_true rfl) rfl (by intro q hq; simp only [List.mem_cons, List.not_mem_nil, or_false] at hq; rcases hq with rfl | rfl <;> assumption) ?_
  unfold f_X3_layText at h
  show KW l xX3_layText D (kT cI cB cJ cZ) ws z (kQv D (kT cI cB cJ cZ) [(32, (ad 32, .inr (3, [.ref (ad 1), .ref (ad 9), .ref (ad 22), .ref (ad 33), .ref (ad 34), .ref (ad 35), .ref (ad 36), .int o.1, .int o.2.1]))), (33, (ad 33, .inl (cB, 1300, .inl o.2.2)))] ws z) 0 [(0, .ref (ad 32)), (1, .int a1), (2, .int a2)] [] [(32, (ad 32, .inr (3, [.ref (ad 1), .ref (ad 9), .ref (ad 22), .ref (ad 33), .ref (ad 34), .ref (ad 35), .ref (ad 36), .int p_size, .int p_column]))), (33, (ad 33, .inl (cB, 1300, .inl p_sheet)))]
  refine k_iload_n dX3_layText_0 1 rfl rfl ?_
  refine k_istore_n (i := 3) (lv' := fun x => [(3, .int x), (0, .ref (ad 32)), (1, .int a1), (2, .int a2)]) dX3_layText_1 rfl (Nat.le_of_ble_eq_true rfl) (fun _ => rfl) h (fun x3_1 h => ?_)
  refine k_sub [1, 3, 0] rfl ?_
  refine wlp_X3_layText_2 (cI := cI) (cB := cB) (cJ := cJ) (cZ := cZ) (ad := ad) E ?_ FU _ _ _ _ _ h
  · intro p_size p_column p_sheet h
    obtain rfl := Option.some.inj h
    exact k_vret rfl dX3_layText_26
abbrev rmX3_layComments : Room := { frames := 2, cells := 0, slots := 0, locals := 44 }
abbrev xX3_layComments : KX := (rmX3_layComments, cX3_layComments, 4, none, RX3, wsX3_layComments)
theorem hySX3_layComments : yX3_layComments.cls ≠ "java/lang/invoke/MethodHandle" ∧ yX3_layComments.cls ≠ "java/lang/invoke/VarHandle" ∧ (parseMethodDescriptor yX3_layComments.desc).map (fun d => d.parameters.length) = some 1 := by decide +kernel
theorem hyVX3_layComments : yX3_layComments.cls = RX3 ∧ yX3_layComments.cls ≠ "java/lang/invoke/MethodHandle" ∧ yX3_layComments.cls ≠ "java/lang/invoke/VarHandle" ∧ (parseMethodDescriptor yX3_layComments.desc).map (fun d => d.parameters.length) = some 1 := ⟨rfl, hySX3_layComments⟩
theorem qX3_layComments_wX3 : ∀ w ∈ u_ws RX3 TX3 9, w ∈ wsX3_layComments := by decide +kernel
theorem qX3_layComments_f37 : Cond.fieldLink RX3 37 "KindParser$Page" "cut" "LKindParser$Cut;" ∈ wsX3_layComments := by decide +kernel
theorem qX3_layComments_wX1 : ∀ w ∈ u_ws RX1 TX1 10, w ∈ wsX3_layComments := by decide +kernel
set_option maxHeartbeats 4000000 in
set_option maxRecDepth 100000 in
theorem wjn_X3_layComments_37 {l : Launch} {D : va_G} {cI cB cJ cZ : ClassId} {ad : Nat → Nat} {ws : va_W} {z : Nat} {c_length : Int32} {c_size : Int32} {c_comments : Int32} {c_text : Nat → Int32} {c_firstComments : Nat → Int32} {c_commentStarts : Nat → Int32} {c_commentEnds : Nat → Int32} (E : ws[9]? = some (ad 9, .inr (1, [.ref (ad 10), .int c_length, .ref (ad 11), .ref (ad 12), .ref (ad 13), .ref (ad 14), .ref (ad 15), .ref (ad 16), .int c_size, .int c_comments])) ∧ ws[10]? = some (ad 10, .inl (cB, 80, .inl c_text)) ∧ ws[14]? = some (ad 14, .inl (cI, 18, .inl c_firstComments)) ∧ ws[15]? = some (ad 15, .inl (cI, 40, .inl c_commentStarts)) ∧ ws[16]? = some (ad 16, .inl (cI, 40, .inl c_commentEnds))) {o : (Int32) × (Int32) × (Nat → Int32)} {k12 : (Int32) → (Int32) → (Int32) → (Int32) → (Int32) → (Nat → Int32) → Option ((Int32) × (Int32) × (Nat → Int32))} (hk12 : ∀ (x1 : Int32) (x2 : Int32) (x3 : Int32) (p_size : Int32) (p_column : Int32) (p_sheet : Nat → Int32), k12 x1 x2 x3 p_size p_column p_sheet = some o → KW l xX3_layComments D (kT cI cB cJ cZ) ws z (kQv D (kT cI cB cJ cZ) [(32, (ad 32, .inr (3, [.ref (ad 1), .ref (ad 9), .ref (ad 22), .ref (ad 33), .ref (ad 34), .ref (ad 35), .ref (ad 36), .int o.1, .int o.2.1]))), (33, (ad 33, .inl (cB, 1300, .inl o.2.2)))] ws z) 12 [(0, .ref (ad 32)), (1, .int x1), (2, .int x2), (3, .int x3)] [] [(32, (ad 32, .inr (3, [.ref (ad 1), .ref (ad 9), .ref (ad 22), .ref (ad 33), .ref (ad 34), .ref (ad 35), .ref (ad 36), .int p_size, .int p_column]))), (33, (ad 33, .inl (cB, 1300, .inl p_sheet)))]) : ∀ (x1 : Int32) (x2 : Int32) (x3 : Int32) (p_size : Int32) (p_column : Int32) (p_sheet : Nat → Int32), jn_X3_layComments_37 c_size c_text c_firstComments c_commentStarts c_commentEnds k12 x1 x2 x3 p_size p_column p_sheet = some o → KW l xX3_layComments D (kT cI cB cJ cZ) ws z (kQv D (kT cI cB cJ cZ) [(32, (ad 32, .inr (3, [.ref (ad 1), .ref (ad 9), .ref (ad 22), .ref (ad 33), .ref (ad 34), .ref (ad 35), .ref (ad 36), .int o.1, .int o.2.1]))), (33, (ad 33, .inl (cB, 1300, .inl o.2.2)))] ws z) 37 [(0, .ref (ad 32)), (1, .int x1), (2, .int x2), (3, .int x3)] [] [(32, (ad 32, .inr (3, [.ref (ad 1), .ref (ad 9), .ref (ad 22), .ref (ad 33), .ref (ad 34), .ref (ad 35), .ref (ad 36), .int p_size, .int p_column]))), (33, (ad 33, .inl (cB, 1300, .inl p_sheet)))] := by
  intro x1 x2 x3 p_size p_column p_sheet h
  unfold jn_X3_layComments_37 at h
  refine k_aload_n dX3_layComments_37 0 rfl rfl ?_
  refine k_aload_n dX3_layComments_38 0 rfl rfl ?_
  refine k_get 32 1 rfl rfl qX3_layComments_wX3 (by decide) qX3_layComments_f37 rfl dX3_layComments_39 ?_
  refine k_getN 9 6 E.1 rfl qX3_layComments_wX1 (by decide) (host := "KindParser") (by decide +kernel) rfl dX3_layComments_42 ?_
  refine k_iload_n dX3_layComments_45 3 rfl rfl ?_
  refine k_iald 15 0 E.2.2.2.1 rfl dX3_layComments_46 h (fun v5 h => ?_)
  refine k_aload_n dX3_layComments_47 0 rfl rfl ?_
  refine k_get 32 1 rfl rfl qX3_layComments_wX3 (by decide) qX3_layComments_f37 rfl dX3_layComments_48 ?_
  refine k_getN 9 7 E.1 rfl qX3_layComments_wX1 (by decide) (host := "KindParser") (by decide +kernel) rfl dX3_layComments_51 ?_
  refine k_iload_n dX3_layComments_54 3 rfl rfl ?_
  refine k_iald 16 0 E.2.2.2.2 rfl dX3_layComments_55 h (fun v6 h => ?_)
  obtain ⟨r7, hr7, h⟩ := Option.bind_eq_some_iff.mp h
  refine k_callvV (As := [.int v5, .int v6]) (st := []) (Lc := [(32, (ad 32, .inr (3, [.ref (ad 1), .ref (ad 9), .ref (ad 22), .ref (ad 33), .ref (ad 34), .ref (ad 35), .ref (ad 36), .int r7.1, .int r7.2.1]))), (33, (ad 33, .inl (cB, 1300, .inl r7.2.2)))]) (L' := [(32, (ad 32, .inr (3, [.ref (ad 1), .ref (ad 9), .ref (ad 22), .ref (ad 33), .ref (ad 34), .ref (ad 35), .ref (ad 36), .int r7.1, .int r7.2.1]))), (33, (ad 33, .inl (cB, 1300, .inl r7.2.2)))]) gX3_layComments_X3_layText rfl rfl rfl hyVX3_layText ⟨Nat.le_of_ble_eq_true rfl, Nat.le_of_ble_eq_true rfl⟩ rfl rfl (Nat.le_of_ble_eq_true rfl) 32 rfl rfl dX3_layComments_56 (fun w z hw => c_X3_layText (cI := cI) (cB := cB) (cJ := cJ) (cZ := cZ) (ad := ad) w z ⟨((hw 9).trans E.1), ((hw 10).trans E.2.1)⟩ (hw 32) (hw 33) hr7) rfl rfl ?_
  refine k_iinc (i := 3) (lv' := fun x => [(3, .int x), (0, .ref (ad 32)), (1, .int x1), (2, .int x2)]) dX3_layComments_59 3 rfl (Nat.le_of_ble_eq_true rfl) (fun _ => rfl) h (fun x3_8 h => ?_)
  refine k_goto 12 dX3_layComments_62 (by decide) ?_
  refine k_sub [1, 2, 3, 0] rfl ?_
  exact hk12 _ _ _ _ _ _ h
set_option maxHeartbeats 4000000 in
set_option maxRecDepth 100000 in
theorem wlp_X3_layComments_12 {l : Launch} {D : va_G} {cI cB cJ cZ : ClassId} {ad : Nat → Nat} {ws : va_W} {z : Nat} {c_length : Int32} {c_size : Int32} {c_comments : Int32} {c_text : Nat → Int32} {c_firstComments : Nat → Int32} {c_commentStarts : Nat → Int32} {c_commentEnds : Nat → Int32} (E : ws[9]? = some (ad 9, .inr (1, [.ref (ad 10), .int c_length, .ref (ad 11), .ref (ad 12), .ref (ad 13), .ref (ad 14), .ref (ad 15), .ref (ad 16), .int c_size, .int c_comments])) ∧ ws[10]? = some (ad 10, .inl (cB, 80, .inl c_text)) ∧ ws[14]? = some (ad 14, .inl (cI, 18, .inl c_firstComments)) ∧ ws[15]? = some (ad 15, .inl (cI, 40, .inl c_commentStarts)) ∧ ws[16]? = some (ad 16, .inl (cI, 40, .inl c_commentEnds))) {o : (Int32) × (Int32) × (Nat → Int32)} {k65 : (Int32) → (Int32) → (Nat → Int32) → Option ((Int32) × (Int32) × (Nat → Int32))} (hk65 : ∀ (p_size : Int32) (p_column : Int32) (p_sheet : Nat → Int32), k65 p_size p_column p_sheet = some o → KW l xX3_layComments D (kT cI cB cJ cZ) ws z (kQv D (kT cI cB cJ cZ) [(32, (ad 32, .inr (3, [.ref (ad 1), .ref (ad 9), .ref (ad 22), .ref (ad 33), .ref (ad 34), .ref (ad 35), .ref (ad 36), .int o.1, .int o.2.1]))), (33, (ad 33, .inl (cB, 1300, .inl o.2.2)))] ws z) 65 [] [] [(32, (ad 32, .inr (3, [.ref (ad 1), .ref (ad 9), .ref (ad 22), .ref (ad 33), .ref (ad 34), .ref (ad 35), .ref (ad 36), .int p_size, .int p_column]))), (33, (ad 33, .inl (cB, 1300, .inl p_sheet)))]) : ∀ (n : Nat) (x1 : Int32) (x2 : Int32) (x3 : Int32) (p_size : Int32) (p_column : Int32) (p_sheet : Nat → Int32), lp_X3_layComments_12 c_size c_text c_firstComments c_commentStarts c_commentEnds k65 n x1 x2 x3 p_size p_column p_sheet = some o → KW l xX3_layComments D (kT cI cB cJ cZ) ws z (kQv D (kT cI cB cJ cZ) [(32, (ad 32, .inr (3, [.ref (ad 1), .ref (ad 9), .ref (ad 22), .ref (ad 33), .ref (ad 34), .ref (ad 35), .ref (ad 36), .int o.1, .int o.2.1]))), (33, (ad 33, .inl (cB, 1300, .inl o.2.2)))] ws z) 12 [(0, .ref (ad 32)), (1, .int x1), (2, .int x2), (3, .int x3)] [] [(32, (ad 32, .inr (3, [.ref (ad 1), .ref (ad 9), .ref (ad 22), .ref (ad 33), .ref (ad 34), .ref (ad 35), .ref (ad 36), .int p_size, .int p_column]))), (33, (ad 33, .inl (cB, 1300, .inl p_sheet)))] := by
  intro n
  induction n with
  | zero => intro x1 x2 x3 p_size p_column p_sheet h; exact absurd h (by simp [lp_X3_layComments_12])
  | succ n hk12 =>
    intro x1 x2 x3 p_size p_column p_sheet h
    unfold lp_X3_layComments_12 at h
    refine k_iload_n dX3_layComments_12 3 rfl rfl ?_
    refine k_iload_n dX3_layComments_13 2 rfl rfl ?_
    refine k_aload_n dX3_layComments_14 0 rfl rfl ?_
    refine k_get 32 1 rfl rfl qX3_layComments_wX3 (by decide) qX3_layComments_f37 rfl dX3_layComments_15 ?_
    refine k_iload_n dX3_layComments_18 1 rfl rfl ?_
    obtain ⟨r4, hr4, h⟩ := Option.bind_eq_some_iff.mp h
    refine k_calliV (As := [.int x1]) (st := [.int x2, .int x3]) (Lc := []) (L' := [(32, (ad 32, .inr (3, [.ref (ad 1), .ref (ad 9), .ref (ad 22), .ref (ad 33), .ref (ad 34), .ref (ad 35), .ref (ad 36), .int p_size, .int p_column]))), (33, (ad 33, .inl (cB, 1300, .inl p_sheet)))]) (r := r4) gX3_layComments_X1_commentsOf rfl rfl rfl hyVX1_commentsOf ⟨Nat.le_of_ble_eq_true rfl, Nat.le_of_ble_eq_true rfl⟩ rfl rfl (Nat.le_of_ble_eq_true rfl) 9 E.1 rfl dX3_layComments_19 (fun w z hw => c_X1_commentsOf (cI := cI) (cB := cB) (cJ := cJ) (cZ := cZ) (ad := ad) w z ⟨((hw 9).trans E.1), ((hw 14).trans E.2.2.1)⟩  hr4) rfl rfl ?_
    refine k_iadd dX3_layComments_22 ?_
    refine k_icmp_ge 65 dX3_layComments_23 (by decide) h (fun h => ?_) (fun h => ?_)
    · skip
      refine k_sub [] rfl ?_
      exact hk65 _ _ _ h
    · skip
      refine k_iload_n dX3_layComments_26 3 rfl rfl ?_
      refine k_iload_n dX3_layComments_27 2 rfl rfl ?_
      refine k_icmp_le 37 dX3_layComments_28 (by decide) h (fun h => ?_) (fun h => ?_)
      · skip
        refine k_sub [0, 1, 2, 3] rfl ?_
        exact wjn_X3_layComments_37 (cI := cI) (cB := cB) (cJ := cJ) (cZ := cZ) (ad := ad) E hk12 _ _ _ _ _ _ h
      · skip
        refine k_aload_n dX3_layComments_31 0 rfl rfl ?_
        refine k_bipush (v := 32) dX3_layComments_32 (by decide) ?_
        obtain ⟨r9, hr9, h⟩ := Option.bind_eq_some_iff.mp h
        refine k_callvV (As := [.int 32]) (st := []) (Lc := [(32, (ad 32, .inr (3, [.ref (ad 1), .ref (ad 9), .ref (ad 22), .ref (ad 33), .ref (ad 34), .ref (ad 35), .ref (ad 36), .int r9.1, .int r9.2.1]))), (33, (ad 33, .inl (cB, 1300, .inl r9.2.2)))]) (L' := [(32, (ad 32, .inr (3, [.ref (ad 1), .ref (ad 9), .ref (ad 22), .ref (ad 33), .ref (ad 34), .ref (ad 35), .ref (ad 36), .int r9.1, .int r9.2.1]))), (33, (ad 33, .inl (cB, 1300, .inl r9.2.2)))]) gX3_layComments_X3_put rfl rfl rfl hyVX3_put ⟨Nat.le_of_ble_eq_true rfl, Nat.le_of_ble_eq_true rfl⟩ rfl rfl (Nat.le_of_ble_eq_true rfl) 32 rfl rfl dX3_layComments_34 (fun w z hw => c_X3_put (cI := cI) (cB := cB) (cJ := cJ) (cZ := cZ) (ad := ad) w z trivial (hw 32) (hw 33) hr9) rfl rfl ?_
        refine k_sub [0, 1, 2, 3] rfl ?_
        exact wjn_X3_layComments_37 (cI := cI) (cB := cB) (cJ := cJ) (cZ := cZ) (ad := ad) E hk12 _ _ _ _ _ _ h
set_option maxHeartbeats 4000000 in
set_option maxRecDepth 100000 in
/-- KindParser$Page.layComments -/
theorem c_X3_layComments {l : Launch} {D : va_G} {cI cB cJ cZ : ClassId} {ad : Nat → Nat} (ws : va_W) (z : Nat) {c_length : Int32} {c_size : Int32} {c_comments : Int32} {c_text : Nat → Int32} {c_firstComments : Nat → Int32} {c_commentStarts : Nat → Int32} {c_commentEnds : Nat → Int32} {p_size : Int32} {p_column : Int32} {p_sheet : Nat → Int32} (E : ws[9]? = some (ad 9, .inr (1, [.ref (ad 10), .int c_length, .ref (ad 11), .ref (ad 12), .ref (ad 13), .ref (ad 14), .ref (ad 15), .ref (ad 16), .int c_size, .int c_comments])) ∧ ws[10]? = some (ad 10, .inl (cB, 80, .inl c_text)) ∧ ws[14]? = some (ad 14, .inl (cI, 18, .inl c_firstComments)) ∧ ws[15]? = some (ad 15, .inl (cI, 40, .inl c_commentStarts)) ∧ ws[16]? = some (ad 16, .inl (cI, 40, .inl c_commentEnds))) (e32 : ws[32]? = some (ad 32, .inr (3, [.ref (ad 1), .ref (ad 9), .ref (ad 22), .ref (ad 33), .ref (ad 34), .ref (ad 35), .ref (ad 36), .int p_size, .int p_column]))) (e33 : ws[33]? = some (ad 33, .inl (cB, 1300, .inl p_sheet))) {a1 : Int32} {o : (Int32) × (Int32) × (Nat → Int32)} (h : f_X3_layComments a1 c_size c_text c_firstComments c_commentStarts c_commentEnds p_size p_column p_sheet = some o) : Met l yX3_layComments wsX3_layComments rmX3_layComments (kPc D (kT cI cB cJ cZ) [.ref (ad 32), .int a1] ws z) (kQv D (kT cI cB cJ cZ) [(32, (ad 32, .inr (3, [.ref (ad 1), .ref (ad 9), .ref (ad 22), .ref (ad 33), .ref (ad 34), .ref (ad 35), .ref (ad 36), .int o.1, .int o.2.1]))), (33, (ad 33, .inl (cB, 1300, .inl o.2.2)))] ws z) 0 0 (va_A ws z) := by
  refine KW.met (rm := rmX3_layComments) (lv := [(0, .ref (ad 32)), (1, .int a1)]) (L := [(32, (ad 32, .inr (3, [.ref (ad 1), .ref (ad 9), .ref (ad 22), .ref (ad 33), .ref (ad 34), .ref (ad 35), .ref (ad 36), .int p_size, .int p_column]))), (33, (ad 33, .inl (cB, 1300, .inl p_sheet)))]) rfl (by decide) (Nat.le_of_ble_eq_true rfl) rfl (by intro q hq; simp only [List.mem_cons, List.not_mem_nil, or_false] at hq; rcases hq with rfl | rfl <;> assumption) ?_
  unfold f_X3_layComments at h
  show KW l xX3_layComments D (kT cI cB cJ cZ) ws z (kQv D (kT cI cB cJ cZ) [(32, (ad 32, .inr (3, [.ref (ad 1), .ref (ad 9), .ref (ad 22), .ref (ad 33), .ref (ad 34), .ref (ad 35), .ref (ad 36), .int o.1, .int o.2.1]))), (33, (ad 33, .inl (cB, 1300, .inl o.2.2)))] ws z) 0 [(0, .ref (ad 32)), (1, .int a1)] [] [(32, (ad 32, .inr (3, [.ref (ad 1), .ref (ad 9), .ref (ad 22), .ref (ad 33), .ref (ad 34), .ref (ad 35), .ref (ad 36), .int p_size, .int p_column]))), (33, (ad 33, .inl (cB, 1300, .inl p_sheet)))]
  refine k_aload_n dX3_layComments_0 0 rfl rfl ?_
  refine k_get 32 1 rfl rfl qX3_layComments_wX3 (by decide) qX3_layComments_f37 rfl dX3_layComments_1 ?_
  refine k_getN 9 5 E.1 rfl qX3_layComments_wX1 (by decide) (host := "KindParser") (by decide +kernel) rfl dX3_layComments_4 ?_
  refine k_iload_n dX3_layComments_7 1 rfl rfl ?_
  refine k_iald 14 0 E.2.2.1 rfl dX3_layComments_8 h (fun v1 h => ?_)
  refine k_istore_n (i := 2) (lv' := fun x => [(2, .int x), (0, .ref (ad 32)), (1, .int a1)]) dX3_layComments_9 rfl (Nat.le_of_ble_eq_true rfl) (fun _ => rfl) h (fun x2_2 h => ?_)
  refine k_iload_n dX3_layComments_10 0 rfl rfl ?_
  refine k_istore_n (i := 3) (lv' := fun x => [(3, .int x), (2, .int x2_2), (0, .ref (ad 32)), (1, .int a1)]) dX3_layComments_11 rfl (Nat.le_of_ble_eq_true rfl) (fun _ => rfl) h (fun x3_3 h => ?_)
  refine k_sub [2, 3, 1, 0] rfl ?_
  refine wlp_X3_layComments_12 (cI := cI) (cB := cB) (cJ := cJ) (cZ := cZ) (ad := ad) E ?_ FU _ _ _ _ _ _ h
  · intro p_size p_column p_sheet h
    obtain rfl := Option.some.inj h
    exact k_vret rfl dX3_layComments_65
