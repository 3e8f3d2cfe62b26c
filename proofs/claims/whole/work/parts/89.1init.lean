abbrev rmX2_init : Room := { frames := 1, cells := 6, slots := 266, locals := 12 }
theorem hySX2_init : yX2_init.cls ≠ "java/lang/invoke/MethodHandle" ∧ yX2_init.cls ≠ "java/lang/invoke/VarHandle" ∧ (parseMethodDescriptor yX2_init.desc).map (fun d => d.parameters.length) = some 0 := by decide +kernel
theorem qX2_init_ol : Cond.methodLink RX2 3 objectInit ∈ wsX2_init := by decide +kernel
theorem qX2_init_oi : Cond.instanceMethod objectInit ∈ wsX2_init := by decide +kernel
theorem qX2_init_oc : Cond.code objectInit ⟨#[0xb1]⟩ 1 none ∈ wsX2_init := by decide +kernel
theorem qX2_init_arint : Cond.arrayClass .int ∈ wsX2_init := by decide +kernel
theorem qX2_init_f9 : Cond.fieldLink RX2 9 "KindParser$Grammar" "heads" "[I" ∈ wsX2_init := by decide +kernel
theorem qX2_init_wX2 : ∀ w ∈ u_ws RX2 TX2 7, w ∈ wsX2_init := by decide +kernel
theorem qX2_init_f15 : Cond.fieldLink RX2 15 "KindParser$Grammar" "lengths" "[I" ∈ wsX2_init := by decide +kernel
theorem qX2_init_f18 : Cond.fieldLink RX2 18 "KindParser$Grammar" "symbols" "[I" ∈ wsX2_init := by decide +kernel
theorem qX2_init_f21 : Cond.fieldLink RX2 21 "KindParser$Grammar" "hints" "[I" ∈ wsX2_init := by decide +kernel
theorem qX2_init_arboolean : Cond.arrayClass .boolean ∈ wsX2_init := by decide +kernel
theorem qX2_init_f24 : Cond.fieldLink RX2 24 "KindParser$Grammar" "ins" "[Z" ∈ wsX2_init := by decide +kernel
theorem qX2_init_f28 : Cond.fieldLink RX2 28 "KindParser$Grammar" "ground" "[Z" ∈ wsX2_init := by decide +kernel
theorem qX2_init_f31 : Cond.fieldLink RX2 31 "KindParser$Grammar" "size" "I" ∈ wsX2_init := by decide +kernel
def pst_X2 (cI cB cJ cZ : ClassId) (h0  : Nat) : va_W → Prop := fun u => ∃ q1 q2 q3 q4 q5 q6 : Nat, u = [(h0, .inr (2, [.ref q1, .ref q2, .ref q3, .ref q4, .ref q5, .ref q6, .int 0])), (q1, .inl (cI, 20, .inl (fun _ => 0))), (q2, .inl (cI, 20, .inl (fun _ => 0))), (q3, .inl (cI, 100, .inl (fun _ => 0))), (q4, .inl (cI, 100, .inl (fun _ => 0))), (q5, .inl (cZ, 20, .inl (fun _ => 0))), (q6, .inl (cZ, 6, .inl (fun _ => 0)))]
set_option maxHeartbeats 8000000 in
set_option maxRecDepth 100000 in
theorem i_X2 {l : Launch} {D : va_G} {cI cB cJ cZ : ClassId} (h0  : Nat) (z : Nat) : Met l yX2_init wsX2_init rmX2_init (kPc D (kT cI cB cJ cZ) [.ref h0] [(h0, .inr (2, [.null, .null, .null, .null, .null, .null, .int 0]))] z) (kQn D (kT cI cB cJ cZ) (pst_X2 cI cB cJ cZ h0 ) [(h0, .inr (2, [.null, .null, .null, .null, .null, .null, .int 0]))] z) 6 266 (va_A [(h0, .inr (2, [.null, .null, .null, .null, .null, .null, .int 0]))] z) := by
  refine KI.met (rm := rmX2_init) (lv := [(0, .ref h0)]) rfl (by decide) rfl (Nat.le_of_ble_eq_true rfl) rfl ?_
  show KI l (rmX2_init, cX2_init, 1, none, RX2, wsX2_init) D (kT cI cB cJ cZ) _ z _ _ 0 0 0 _ [] _
  refine ki_aload_n dX2_init_0 0 rfl rfl ?_
  refine ki_objInit qX2_init_ol qX2_init_oi qX2_init_oc dX2_init_1 (Nat.le_of_ble_eq_true rfl) (Nat.le_of_ble_eq_true rfl) ?_
  refine ki_aload_n dX2_init_4 0 rfl rfl ?_
  refine ki_bipush (v := 20) dX2_init_5 (by decide) ?_
  refine ki_newa (atype := .int) (ty := .int) (a0 := (20, .inl (fun _ => 0))) (N' := 20) rfl qX2_init_arint 0 rfl (fun _ => rfl) (by decide) (by decide) (by decide) (Nat.le_of_ble_eq_true rfl) (Nat.le_of_ble_eq_true rfl) dX2_init_7 (fun q1 => ?_)
  refine ki_putF (w' := [(h0, .inr (2, [.ref q1, .null, .null, .null, .null, .null, .int 0])), (q1, .inl (cI, 20, .inl (fun _ => 0)))]) 0 0 rfl rfl qX2_init_wX2 (by decide) tyX2 tyX2_ok nmX2 qX2_init_f9 rfl rfl rfl (tyX2_ok 0 (by decide)) rfl rfl (Nat.le_of_ble_eq_true rfl) dX2_init_9 rfl ?_
  refine ki_aload_n dX2_init_12 0 rfl rfl ?_
  refine ki_bipush (v := 20) dX2_init_13 (by decide) ?_
  refine ki_newa (atype := .int) (ty := .int) (a0 := (20, .inl (fun _ => 0))) (N' := 20) rfl qX2_init_arint 0 rfl (fun _ => rfl) (by decide) (by decide) (by decide) (Nat.le_of_ble_eq_true rfl) (Nat.le_of_ble_eq_true rfl) dX2_init_15 (fun q2 => ?_)
  refine ki_putF (w' := [(h0, .inr (2, [.ref q1, .ref q2, .null, .null, .null, .null, .int 0])), (q1, .inl (cI, 20, .inl (fun _ => 0))), (q2, .inl (cI, 20, .inl (fun _ => 0)))]) 0 1 rfl rfl qX2_init_wX2 (by decide) tyX2 tyX2_ok nmX2 qX2_init_f15 rfl rfl rfl (tyX2_ok 1 (by decide)) rfl rfl (Nat.le_of_ble_eq_true rfl) dX2_init_17 rfl ?_
  refine ki_aload_n dX2_init_20 0 rfl rfl ?_
  refine ki_bipush (v := 100) dX2_init_21 (by decide) ?_
  refine ki_newa (atype := .int) (ty := .int) (a0 := (100, .inl (fun _ => 0))) (N' := 100) rfl qX2_init_arint 0 rfl (fun _ => rfl) (by decide) (by decide) (by decide) (Nat.le_of_ble_eq_true rfl) (Nat.le_of_ble_eq_true rfl) dX2_init_23 (fun q3 => ?_)
  refine ki_putF (w' := [(h0, .inr (2, [.ref q1, .ref q2, .ref q3, .null, .null, .null, .int 0])), (q1, .inl (cI, 20, .inl (fun _ => 0))), (q2, .inl (cI, 20, .inl (fun _ => 0))), (q3, .inl (cI, 100, .inl (fun _ => 0)))]) 0 2 rfl rfl qX2_init_wX2 (by decide) tyX2 tyX2_ok nmX2 qX2_init_f18 rfl rfl rfl (tyX2_ok 2 (by decide)) rfl rfl (Nat.le_of_ble_eq_true rfl) dX2_init_25 rfl ?_
  refine ki_aload_n dX2_init_28 0 rfl rfl ?_
  refine ki_bipush (v := 100) dX2_init_29 (by decide) ?_
  refine ki_newa (atype := .int) (ty := .int) (a0 := (100, .inl (fun _ => 0))) (N' := 100) rfl qX2_init_arint 0 rfl (fun _ => rfl) (by decide) (by decide) (by decide) (Nat.le_of_ble_eq_true rfl) (Nat.le_of_ble_eq_true rfl) dX2_init_31 (fun q4 => ?_)
  refine ki_putF (w' := [(h0, .inr (2, [.ref q1, .ref q2, .ref q3, .ref q4, .null, .null, .int 0])), (q1, .inl (cI, 20, .inl (fun _ => 0))), (q2, .inl (cI, 20, .inl (fun _ => 0))), (q3, .inl (cI, 100, .inl (fun _ => 0))), (q4, .inl (cI, 100, .inl (fun _ => 0)))]) 0 3 rfl rfl qX2_init_wX2 (by decide) tyX2 tyX2_ok nmX2 qX2_init_f21 rfl rfl rfl (tyX2_ok 3 (by decide)) rfl rfl (Nat.le_of_ble_eq_true rfl) dX2_init_33 rfl ?_
  refine ki_aload_n dX2_init_36 0 rfl rfl ?_
  refine ki_bipush (v := 20) dX2_init_37 (by decide) ?_
  refine ki_newa (atype := .boolean) (ty := .boolean) (a0 := (20, .inl (fun _ => 0))) (N' := 20) rfl qX2_init_arboolean 3 rfl (fun _ => rfl) (by decide) (by decide) (by decide) (Nat.le_of_ble_eq_true rfl) (Nat.le_of_ble_eq_true rfl) dX2_init_39 (fun q5 => ?_)
  refine ki_putF (w' := [(h0, .inr (2, [.ref q1, .ref q2, .ref q3, .ref q4, .ref q5, .null, .int 0])), (q1, .inl (cI, 20, .inl (fun _ => 0))), (q2, .inl (cI, 20, .inl (fun _ => 0))), (q3, .inl (cI, 100, .inl (fun _ => 0))), (q4, .inl (cI, 100, .inl (fun _ => 0))), (q5, .inl (cZ, 20, .inl (fun _ => 0)))]) 0 4 rfl rfl qX2_init_wX2 (by decide) tyX2 tyX2_ok nmX2 qX2_init_f24 rfl rfl rfl (tyX2_ok 4 (by decide)) rfl rfl (Nat.le_of_ble_eq_true rfl) dX2_init_41 rfl ?_
  refine ki_aload_n dX2_init_44 0 rfl rfl ?_
  refine ki_bipush (v := 6) dX2_init_45 (by decide) ?_
  refine ki_newa (atype := .boolean) (ty := .boolean) (a0 := (6, .inl (fun _ => 0))) (N' := 6) rfl qX2_init_arboolean 3 rfl (fun _ => rfl) (by decide) (by decide) (by decide) (Nat.le_of_ble_eq_true rfl) (Nat.le_of_ble_eq_true rfl) dX2_init_47 (fun q6 => ?_)
  refine ki_putF (w' := [(h0, .inr (2, [.ref q1, .ref q2, .ref q3, .ref q4, .ref q5, .ref q6, .int 0])), (q1, .inl (cI, 20, .inl (fun _ => 0))), (q2, .inl (cI, 20, .inl (fun _ => 0))), (q3, .inl (cI, 100, .inl (fun _ => 0))), (q4, .inl (cI, 100, .inl (fun _ => 0))), (q5, .inl (cZ, 20, .inl (fun _ => 0))), (q6, .inl (cZ, 6, .inl (fun _ => 0)))]) 0 5 rfl rfl qX2_init_wX2 (by decide) tyX2 tyX2_ok nmX2 qX2_init_f28 rfl rfl rfl (tyX2_ok 5 (by decide)) rfl rfl (Nat.le_of_ble_eq_true rfl) dX2_init_49 rfl ?_
  refine ki_aload_n dX2_init_52 0 rfl rfl ?_
  refine ki_iconst (v := 0) dX2_init_53 (by decide) ?_
  refine ki_put (w' := [(h0, .inr (2, [.ref q1, .ref q2, .ref q3, .ref q4, .ref q5, .ref q6, .int 0])), (q1, .inl (cI, 20, .inl (fun _ => 0))), (q2, .inl (cI, 20, .inl (fun _ => 0))), (q3, .inl (cI, 100, .inl (fun _ => 0))), (q4, .inl (cI, 100, .inl (fun _ => 0))), (q5, .inl (cZ, 20, .inl (fun _ => 0))), (q6, .inl (cZ, 6, .inl (fun _ => 0)))]) 0 6 rfl rfl qX2_init_wX2 (by decide) tyX2 tyX2_ok nmX2 qX2_init_f31 rfl (tyX2_ok 6 (by decide)) rfl rfl (Nat.le_of_ble_eq_true rfl) dX2_init_54 rfl ?_
  exact ki_vret ⟨q1, q2, q3, q4, q5, q6, rfl⟩ ⟨Nat.le_of_ble_eq_true rfl, Nat.le_of_ble_eq_true rfl⟩ rfl dX2_init_57
abbrev rmX1_init : Room := { frames := 1, cells := 7, slots := 226, locals := 12 }
theorem hySX1_init : yX1_init.cls ≠ "java/lang/invoke/MethodHandle" ∧ yX1_init.cls ≠ "java/lang/invoke/VarHandle" ∧ (parseMethodDescriptor yX1_init.desc).map (fun d => d.parameters.length) = some 0 := by decide +kernel
theorem qX1_init_ol : Cond.methodLink RX1 3 objectInit ∈ wsX1_init := by decide +kernel
theorem qX1_init_oi : Cond.instanceMethod objectInit ∈ wsX1_init := by decide +kernel
theorem qX1_init_oc : Cond.code objectInit ⟨#[0xb1]⟩ 1 none ∈ wsX1_init := by decide +kernel
theorem qX1_init_arbyte : Cond.arrayClass .byte ∈ wsX1_init := by decide +kernel
theorem qX1_init_f9 : Cond.fieldLink RX1 9 "KindParser$Cut" "text" "[B" ∈ wsX1_init := by decide +kernel
theorem qX1_init_wX1 : ∀ w ∈ u_ws RX1 TX1 10, w ∈ wsX1_init := by decide +kernel
theorem qX1_init_f15 : Cond.fieldLink RX1 15 "KindParser$Cut" "length" "I" ∈ wsX1_init := by decide +kernel
theorem qX1_init_arint : Cond.arrayClass .int ∈ wsX1_init := by decide +kernel
theorem qX1_init_f19 : Cond.fieldLink RX1 19 "KindParser$Cut" "starts" "[I" ∈ wsX1_init := by decide +kernel
theorem qX1_init_f23 : Cond.fieldLink RX1 23 "KindParser$Cut" "lengths" "[I" ∈ wsX1_init := by decide +kernel
theorem qX1_init_f26 : Cond.fieldLink RX1 26 "KindParser$Cut" "signs" "[I" ∈ wsX1_init := by decide +kernel
theorem qX1_init_f29 : Cond.fieldLink RX1 29 "KindParser$Cut" "firstComments" "[I" ∈ wsX1_init := by decide +kernel
theorem qX1_init_f32 : Cond.fieldLink RX1 32 "KindParser$Cut" "commentStarts" "[I" ∈ wsX1_init := by decide +kernel
theorem qX1_init_f35 : Cond.fieldLink RX1 35 "KindParser$Cut" "commentEnds" "[I" ∈ wsX1_init := by decide +kernel
theorem qX1_init_f38 : Cond.fieldLink RX1 38 "KindParser$Cut" "size" "I" ∈ wsX1_init := by decide +kernel
theorem qX1_init_f41 : Cond.fieldLink RX1 41 "KindParser$Cut" "comments" "I" ∈ wsX1_init := by decide +kernel
def pst_X1 (cI cB cJ cZ : ClassId) (h0  : Nat) : va_W → Prop := fun u => ∃ q1 q2 q3 q4 q5 q6 q7 : Nat, u = [(h0, .inr (1, [.ref q1, .int 0, .ref q2, .ref q3, .ref q4, .ref q5, .ref q6, .ref q7, .int 0, .int 0])), (q1, .inl (cB, 80, .inl (fun _ => 0))), (q2, .inl (cI, 16, .inl (fun _ => 0))), (q3, .inl (cI, 16, .inl (fun _ => 0))), (q4, .inl (cI, 16, .inl (fun _ => 0))), (q5, .inl (cI, 18, .inl (fun _ => 0))), (q6, .inl (cI, 40, .inl (fun _ => 0))), (q7, .inl (cI, 40, .inl (fun _ => 0)))]
set_option maxHeartbeats 8000000 in
set_option maxRecDepth 100000 in
theorem i_X1 {l : Launch} {D : va_G} {cI cB cJ cZ : ClassId} (h0  : Nat) (z : Nat) : Met l yX1_init wsX1_init rmX1_init (kPc D (kT cI cB cJ cZ) [.ref h0] [(h0, .inr (1, [.null, .int 0, .null, .null, .null, .null, .null, .null, .int 0, .int 0]))] z) (kQn D (kT cI cB cJ cZ) (pst_X1 cI cB cJ cZ h0 ) [(h0, .inr (1, [.null, .int 0, .null, .null, .null, .null, .null, .null, .int 0, .int 0]))] z) 7 226 (va_A [(h0, .inr (1, [.null, .int 0, .null, .null, .null, .null, .null, .null, .int 0, .int 0]))] z) := by
  refine KI.met (rm := rmX1_init) (lv := [(0, .ref h0)]) rfl (by decide) rfl (Nat.le_of_ble_eq_true rfl) rfl ?_
  show KI l (rmX1_init, cX1_init, 1, none, RX1, wsX1_init) D (kT cI cB cJ cZ) _ z _ _ 0 0 0 _ [] _
  refine ki_aload_n dX1_init_0 0 rfl rfl ?_
  refine ki_objInit qX1_init_ol qX1_init_oi qX1_init_oc dX1_init_1 (Nat.le_of_ble_eq_true rfl) (Nat.le_of_ble_eq_true rfl) ?_
  refine ki_aload_n dX1_init_4 0 rfl rfl ?_
  refine ki_bipush (v := 80) dX1_init_5 (by decide) ?_
  refine ki_newa (atype := .byte) (ty := .byte) (a0 := (80, .inl (fun _ => 0))) (N' := 80) rfl qX1_init_arbyte 1 rfl (fun _ => rfl) (by decide) (by decide) (by decide) (Nat.le_of_ble_eq_true rfl) (Nat.le_of_ble_eq_true rfl) dX1_init_7 (fun q1 => ?_)
  refine ki_putF (w' := [(h0, .inr (1, [.ref q1, .int 0, .null, .null, .null, .null, .null, .null, .int 0, .int 0])), (q1, .inl (cB, 80, .inl (fun _ => 0)))]) 0 0 rfl rfl qX1_init_wX1 (by decide) tyX1 tyX1_ok nmX1 qX1_init_f9 rfl rfl rfl (tyX1_ok 0 (by decide)) rfl rfl (Nat.le_of_ble_eq_true rfl) dX1_init_9 rfl ?_
  refine ki_aload_n dX1_init_12 0 rfl rfl ?_
  refine ki_iconst (v := 0) dX1_init_13 (by decide) ?_
  refine ki_put (w' := [(h0, .inr (1, [.ref q1, .int 0, .null, .null, .null, .null, .null, .null, .int 0, .int 0])), (q1, .inl (cB, 80, .inl (fun _ => 0)))]) 0 1 rfl rfl qX1_init_wX1 (by decide) tyX1 tyX1_ok nmX1 qX1_init_f15 rfl (tyX1_ok 1 (by decide)) rfl rfl (Nat.le_of_ble_eq_true rfl) dX1_init_14 rfl ?_
  refine ki_aload_n dX1_init_17 0 rfl rfl ?_
  refine ki_bipush (v := 16) dX1_init_18 (by decide) ?_
  refine ki_newa (atype := .int) (ty := .int) (a0 := (16, .inl (fun _ => 0))) (N' := 16) rfl qX1_init_arint 0 rfl (fun _ => rfl) (by decide) (by decide) (by decide) (Nat.le_of_ble_eq_true rfl) (Nat.le_of_ble_eq_true rfl) dX1_init_20 (fun q2 => ?_)
  refine ki_putF (w' := [(h0, .inr (1, [.ref q1, .int 0, .ref q2, .null, .null, .null, .null, .null, .int 0, .int 0])), (q1, .inl (cB, 80, .inl (fun _ => 0))), (q2, .inl (cI, 16, .inl (fun _ => 0)))]) 0 2 rfl rfl qX1_init_wX1 (by decide) tyX1 tyX1_ok nmX1 qX1_init_f19 rfl rfl rfl (tyX1_ok 2 (by decide)) rfl rfl (Nat.le_of_ble_eq_true rfl) dX1_init_22 rfl ?_
  refine ki_aload_n dX1_init_25 0 rfl rfl ?_
  refine ki_bipush (v := 16) dX1_init_26 (by decide) ?_
  refine ki_newa (atype := .int) (ty := .int) (a0 := (16, .inl (fun _ => 0))) (N' := 16) rfl qX1_init_arint 0 rfl (fun _ => rfl) (by decide) (by decide) (by decide) (Nat.le_of_ble_eq_true rfl) (Nat.le_of_ble_eq_true rfl) dX1_init_28 (fun q3 => ?_)
  refine ki_putF (w' := [(h0, .inr (1, [.ref q1, .int 0, .ref q2, .ref q3, .null, .null, .null, .null, .int 0, .int 0])), (q1, .inl (cB, 80, .inl (fun _ => 0))), (q2, .inl (cI, 16, .inl (fun _ => 0))), (q3, .inl (cI, 16, .inl (fun _ => 0)))]) 0 3 rfl rfl qX1_init_wX1 (by decide) tyX1 tyX1_ok nmX1 qX1_init_f23 rfl rfl rfl (tyX1_ok 3 (by decide)) rfl rfl (Nat.le_of_ble_eq_true rfl) dX1_init_30 rfl ?_
  refine ki_aload_n dX1_init_33 0 rfl rfl ?_
  refine ki_bipush (v := 16) dX1_init_34 (by decide) ?_
  refine ki_newa (atype := .int) (ty := .int) (a0 := (16, .inl (fun _ => 0))) (N' := 16) rfl qX1_init_arint 0 rfl (fun _ => rfl) (by decide) (by decide) (by decide) (Nat.le_of_ble_eq_true rfl) (Nat.le_of_ble_eq_true rfl) dX1_init_36 (fun q4 => ?_)
  refine ki_putF (w' := [(h0, .inr (1, [.ref q1, .int 0, .ref q2, .ref q3, .ref q4, .null, .null, .null, .int 0, .int 0])), (q1, .inl (cB, 80, .inl (fun _ => 0))), (q2, .inl (cI, 16, .inl (fun _ => 0))), (q3, .inl (cI, 16, .inl (fun _ => 0))), (q4, .inl (cI, 16, .inl (fun _ => 0)))]) 0 4 rfl rfl qX1_init_wX1 (by decide) tyX1 tyX1_ok nmX1 qX1_init_f26 rfl rfl rfl (tyX1_ok 4 (by decide)) rfl rfl (Nat.le_of_ble_eq_true rfl) dX1_init_38 rfl ?_
  refine ki_aload_n dX1_init_41 0 rfl rfl ?_
  refine ki_bipush (v := 18) dX1_init_42 (by decide) ?_
  refine ki_newa (atype := .int) (ty := .int) (a0 := (18, .inl (fun _ => 0))) (N' := 18) rfl qX1_init_arint 0 rfl (fun _ => rfl) (by decide) (by decide) (by decide) (Nat.le_of_ble_eq_true rfl) (Nat.le_of_ble_eq_true rfl) dX1_init_44 (fun q5 => ?_)
  refine ki_putF (w' := [(h0, .inr (1, [.ref q1, .int 0, .ref q2, .ref q3, .ref q4, .ref q5, .null, .null, .int 0, .int 0])), (q1, .inl (cB, 80, .inl (fun _ => 0))), (q2, .inl (cI, 16, .inl (fun _ => 0))), (q3, .inl (cI, 16, .inl (fun _ => 0))), (q4, .inl (cI, 16, .inl (fun _ => 0))), (q5, .inl (cI, 18, .inl (fun _ => 0)))]) 0 5 rfl rfl qX1_init_wX1 (by decide) tyX1 tyX1_ok nmX1 qX1_init_f29 rfl rfl rfl (tyX1_ok 5 (by decide)) rfl rfl (Nat.le_of_ble_eq_true rfl) dX1_init_46 rfl ?_
  refine ki_aload_n dX1_init_49 0 rfl rfl ?_
  refine ki_bipush (v := 40) dX1_init_50 (by decide) ?_
  refine ki_newa (atype := .int) (ty := .int) (a0 := (40, .inl (fun _ => 0))) (N' := 40) rfl qX1_init_arint 0 rfl (fun _ => rfl) (by decide) (by decide) (by decide) (Nat.le_of_ble_eq_true rfl) (Nat.le_of_ble_eq_true rfl) dX1_init_52 (fun q6 => ?_)
  refine ki_putF (w' := [(h0, .inr (1, [.ref q1, .int 0, .ref q2, .ref q3, .ref q4, .ref q5, .ref q6, .null, .int 0, .int 0])), (q1, .inl (cB, 80, .inl (fun _ => 0))), (q2, .inl (cI, 16, .inl (fun _ => 0))), (q3, .inl (cI, 16, .inl (fun _ => 0))), (q4, .inl (cI, 16, .inl (fun _ => 0))), (q5, .inl (cI, 18, .inl (fun _ => 0))), (q6, .inl (cI, 40, .inl (fun _ => 0)))]) 0 6 rfl rfl qX1_init_wX1 (by decide) tyX1 tyX1_ok nmX1 qX1_init_f32 rfl rfl rfl (tyX1_ok 6 (by decide)) rfl rfl (Nat.le_of_ble_eq_true rfl) dX1_init_54 rfl ?_
  refine ki_aload_n dX1_init_57 0 rfl rfl ?_
  refine ki_bipush (v := 40) dX1_init_58 (by decide) ?_
  refine ki_newa (atype := .int) (ty := .int) (a0 := (40, .inl (fun _ => 0))) (N' := 40) rfl qX1_init_arint 0 rfl (fun _ => rfl) (by decide) (by decide) (by decide) (Nat.le_of_ble_eq_true rfl) (Nat.le_of_ble_eq_true rfl) dX1_init_60 (fun q7 => ?_)
  refine ki_putF (w' := [(h0, .inr (1, [.ref q1, .int 0, .ref q2, .ref q3, .ref q4, .ref q5, .ref q6, .ref q7, .int 0, .int 0])), (q1, .inl (cB, 80, .inl (fun _ => 0))), (q2, .inl (cI, 16, .inl (fun _ => 0))), (q3, .inl (cI, 16, .inl (fun _ => 0))), (q4, .inl (cI, 16, .inl (fun _ => 0))), (q5, .inl (cI, 18, .inl (fun _ => 0))), (q6, .inl (cI, 40, .inl (fun _ => 0))), (q7, .inl (cI, 40, .inl (fun _ => 0)))]) 0 7 rfl rfl qX1_init_wX1 (by decide) tyX1 tyX1_ok nmX1 qX1_init_f35 rfl rfl rfl (tyX1_ok 7 (by decide)) rfl rfl (Nat.le_of_ble_eq_true rfl) dX1_init_62 rfl ?_
  refine ki_aload_n dX1_init_65 0 rfl rfl ?_
  refine ki_iconst (v := 0) dX1_init_66 (by decide) ?_
  refine ki_put (w' := [(h0, .inr (1, [.ref q1, .int 0, .ref q2, .ref q3, .ref q4, .ref q5, .ref q6, .ref q7, .int 0, .int 0])), (q1, .inl (cB, 80, .inl (fun _ => 0))), (q2, .inl (cI, 16, .inl (fun _ => 0))), (q3, .inl (cI, 16, .inl (fun _ => 0))), (q4, .inl (cI, 16, .inl (fun _ => 0))), (q5, .inl (cI, 18, .inl (fun _ => 0))), (q6, .inl (cI, 40, .inl (fun _ => 0))), (q7, .inl (cI, 40, .inl (fun _ => 0)))]) 0 8 rfl rfl qX1_init_wX1 (by decide) tyX1 tyX1_ok nmX1 qX1_init_f38 rfl (tyX1_ok 8 (by decide)) rfl rfl (Nat.le_of_ble_eq_true rfl) dX1_init_67 rfl ?_
  refine ki_aload_n dX1_init_70 0 rfl rfl ?_
  refine ki_iconst (v := 0) dX1_init_71 (by decide) ?_
  refine ki_put (w' := [(h0, .inr (1, [.ref q1, .int 0, .ref q2, .ref q3, .ref q4, .ref q5, .ref q6, .ref q7, .int 0, .int 0])), (q1, .inl (cB, 80, .inl (fun _ => 0))), (q2, .inl (cI, 16, .inl (fun _ => 0))), (q3, .inl (cI, 16, .inl (fun _ => 0))), (q4, .inl (cI, 16, .inl (fun _ => 0))), (q5, .inl (cI, 18, .inl (fun _ => 0))), (q6, .inl (cI, 40, .inl (fun _ => 0))), (q7, .inl (cI, 40, .inl (fun _ => 0)))]) 0 9 rfl rfl qX1_init_wX1 (by decide) tyX1 tyX1_ok nmX1 qX1_init_f41 rfl (tyX1_ok 9 (by decide)) rfl rfl (Nat.le_of_ble_eq_true rfl) dX1_init_72 rfl ?_
  exact ki_vret ⟨q1, q2, q3, q4, q5, q6, q7, rfl⟩ ⟨Nat.le_of_ble_eq_true rfl, Nat.le_of_ble_eq_true rfl⟩ rfl dX1_init_75
abbrev rmX0_init : Room := { frames := 1, cells := 4, slots := 7922, locals := 12 }
theorem hySX0_init : yX0_init.cls ≠ "java/lang/invoke/MethodHandle" ∧ yX0_init.cls ≠ "java/lang/invoke/VarHandle" ∧ (parseMethodDescriptor yX0_init.desc).map (fun d => d.parameters.length) = some 2 := by decide +kernel
theorem qX0_init_ol : Cond.methodLink RX0 5 objectInit ∈ wsX0_init := by decide +kernel
theorem qX0_init_oi : Cond.instanceMethod objectInit ∈ wsX0_init := by decide +kernel
theorem qX0_init_oc : Cond.code objectInit ⟨#[0xb1]⟩ 1 none ∈ wsX0_init := by decide +kernel
theorem qX0_init_arlong : Cond.arrayClass .long ∈ wsX0_init := by decide +kernel
theorem qX0_init_f11 : Cond.fieldLink RX0 11 "KindParser$Chart" "prices" "[J" ∈ wsX0_init := by decide +kernel
theorem qX0_init_wX0 : ∀ w ∈ u_ws RX0 TX0 6, w ∈ wsX0_init := by decide +kernel
theorem qX0_init_arbyte : Cond.arrayClass .byte ∈ wsX0_init := by decide +kernel
theorem qX0_init_f15 : Cond.fieldLink RX0 15 "KindParser$Chart" "choices" "[B" ∈ wsX0_init := by decide +kernel
theorem qX0_init_f19 : Cond.fieldLink RX0 19 "KindParser$Chart" "begun" "[J" ∈ wsX0_init := by decide +kernel
theorem qX0_init_f22 : Cond.fieldLink RX0 22 "KindParser$Chart" "traced" "[J" ∈ wsX0_init := by decide +kernel
theorem qX0_init_f25 : Cond.fieldLink RX0 25 "KindParser$Chart" "grammar" "LKindParser$Grammar;" ∈ wsX0_init := by decide +kernel
theorem qX0_init_f29 : Cond.fieldLink RX0 29 "KindParser$Chart" "cut" "LKindParser$Cut;" ∈ wsX0_init := by decide +kernel
def pst_X0 (cI cB cJ cZ : ClassId) (h0 g1 g2 : Nat) : va_W → Prop := fun u => ∃ q1 q2 q3 q4 : Nat, u = [(h0, .inr (0, [.ref g1, .ref g2, .ref q1, .ref q2, .ref q3, .ref q4])), (q1, .inl (cJ, 4046, .inr (.inl (fun _ => 0)))), (q2, .inl (cB, 1734, .inl (fun _ => 0))), (q3, .inl (cJ, 2040, .inr (.inl (fun _ => 0)))), (q4, .inl (cJ, 102, .inr (.inl (fun _ => 0))))]
set_option maxHeartbeats 8000000 in
set_option maxRecDepth 100000 in
theorem i_X0 {l : Launch} {D : va_G} {cI cB cJ cZ : ClassId} (h0 g1 g2 : Nat) (z : Nat) : Met l yX0_init wsX0_init rmX0_init (kPc D (kT cI cB cJ cZ) [.ref h0, .ref g1, .ref g2] [(h0, .inr (0, [.null, .null, .null, .null, .null, .null]))] z) (kQn D (kT cI cB cJ cZ) (pst_X0 cI cB cJ cZ h0 g1 g2) [(h0, .inr (0, [.null, .null, .null, .null, .null, .null]))] z) 4 7922 (va_A [(h0, .inr (0, [.null, .null, .null, .null, .null, .null]))] z) := by
  refine KI.met (rm := rmX0_init) (lv := [(0, .ref h0), (1, .ref g1), (2, .ref g2)]) rfl (by decide) rfl (Nat.le_of_ble_eq_true rfl) rfl ?_
  show KI l (rmX0_init, cX0_init, 3, none, RX0, wsX0_init) D (kT cI cB cJ cZ) _ z _ _ 0 0 0 _ [] _
  refine ki_aload_n dX0_init_0 0 rfl rfl ?_
  refine ki_objInit qX0_init_ol qX0_init_oi qX0_init_oc dX0_init_1 (Nat.le_of_ble_eq_true rfl) (Nat.le_of_ble_eq_true rfl) ?_
  refine ki_aload_n dX0_init_4 0 rfl rfl ?_
  refine ki_sipush (v := 4046) dX0_init_5 (by decide) ?_
  refine ki_newa (atype := .long) (ty := .long) (a0 := (4046, .inr (.inl (fun _ => 0)))) (N' := 4046) rfl qX0_init_arlong 2 rfl (fun _ => rfl) (by decide) (by decide) (by decide) (Nat.le_of_ble_eq_true rfl) (Nat.le_of_ble_eq_true rfl) dX0_init_8 (fun q1 => ?_)
  refine ki_putF (w' := [(h0, .inr (0, [.null, .null, .ref q1, .null, .null, .null])), (q1, .inl (cJ, 4046, .inr (.inl (fun _ => 0))))]) 0 2 rfl rfl qX0_init_wX0 (by decide) tyX0 tyX0_ok nmX0 qX0_init_f11 rfl rfl rfl (tyX0_ok 2 (by decide)) rfl rfl (Nat.le_of_ble_eq_true rfl) dX0_init_10 rfl ?_
  refine ki_aload_n dX0_init_13 0 rfl rfl ?_
  refine ki_sipush (v := 1734) dX0_init_14 (by decide) ?_
  refine ki_newa (atype := .byte) (ty := .byte) (a0 := (1734, .inl (fun _ => 0))) (N' := 1734) rfl qX0_init_arbyte 1 rfl (fun _ => rfl) (by decide) (by decide) (by decide) (Nat.le_of_ble_eq_true rfl) (Nat.le_of_ble_eq_true rfl) dX0_init_17 (fun q2 => ?_)
  refine ki_putF (w' := [(h0, .inr (0, [.null, .null, .ref q1, .ref q2, .null, .null])), (q1, .inl (cJ, 4046, .inr (.inl (fun _ => 0)))), (q2, .inl (cB, 1734, .inl (fun _ => 0)))]) 0 3 rfl rfl qX0_init_wX0 (by decide) tyX0 tyX0_ok nmX0 qX0_init_f15 rfl rfl rfl (tyX0_ok 3 (by decide)) rfl rfl (Nat.le_of_ble_eq_true rfl) dX0_init_19 rfl ?_
  refine ki_aload_n dX0_init_22 0 rfl rfl ?_
  refine ki_sipush (v := 2040) dX0_init_23 (by decide) ?_
  refine ki_newa (atype := .long) (ty := .long) (a0 := (2040, .inr (.inl (fun _ => 0)))) (N' := 2040) rfl qX0_init_arlong 2 rfl (fun _ => rfl) (by decide) (by decide) (by decide) (Nat.le_of_ble_eq_true rfl) (Nat.le_of_ble_eq_true rfl) dX0_init_26 (fun q3 => ?_)
  refine ki_putF (w' := [(h0, .inr (0, [.null, .null, .ref q1, .ref q2, .ref q3, .null])), (q1, .inl (cJ, 4046, .inr (.inl (fun _ => 0)))), (q2, .inl (cB, 1734, .inl (fun _ => 0))), (q3, .inl (cJ, 2040, .inr (.inl (fun _ => 0))))]) 0 4 rfl rfl qX0_init_wX0 (by decide) tyX0 tyX0_ok nmX0 qX0_init_f19 rfl rfl rfl (tyX0_ok 4 (by decide)) rfl rfl (Nat.le_of_ble_eq_true rfl) dX0_init_28 rfl ?_
  refine ki_aload_n dX0_init_31 0 rfl rfl ?_
  refine ki_bipush (v := 102) dX0_init_32 (by decide) ?_
  refine ki_newa (atype := .long) (ty := .long) (a0 := (102, .inr (.inl (fun _ => 0)))) (N' := 102) rfl qX0_init_arlong 2 rfl (fun _ => rfl) (by decide) (by decide) (by decide) (Nat.le_of_ble_eq_true rfl) (Nat.le_of_ble_eq_true rfl) dX0_init_34 (fun q4 => ?_)
  refine ki_putF (w' := [(h0, .inr (0, [.null, .null, .ref q1, .ref q2, .ref q3, .ref q4])), (q1, .inl (cJ, 4046, .inr (.inl (fun _ => 0)))), (q2, .inl (cB, 1734, .inl (fun _ => 0))), (q3, .inl (cJ, 2040, .inr (.inl (fun _ => 0)))), (q4, .inl (cJ, 102, .inr (.inl (fun _ => 0))))]) 0 5 rfl rfl qX0_init_wX0 (by decide) tyX0 tyX0_ok nmX0 qX0_init_f22 rfl rfl rfl (tyX0_ok 5 (by decide)) rfl rfl (Nat.le_of_ble_eq_true rfl) dX0_init_36 rfl ?_
  refine ki_aload_n dX0_init_39 0 rfl rfl ?_
  refine ki_aload_n dX0_init_40 1 rfl rfl ?_
  refine ki_putF (w' := [(h0, .inr (0, [.ref g1, .null, .ref q1, .ref q2, .ref q3, .ref q4])), (q1, .inl (cJ, 4046, .inr (.inl (fun _ => 0)))), (q2, .inl (cB, 1734, .inl (fun _ => 0))), (q3, .inl (cJ, 2040, .inr (.inl (fun _ => 0)))), (q4, .inl (cJ, 102, .inr (.inl (fun _ => 0))))]) 0 0 rfl rfl qX0_init_wX0 (by decide) tyX0 tyX0_ok nmX0 qX0_init_f25 rfl rfl rfl (tyX0_ok 0 (by decide)) rfl rfl (Nat.le_of_ble_eq_true rfl) dX0_init_41 rfl ?_
  refine ki_aload_n dX0_init_44 0 rfl rfl ?_
  refine ki_aload_n dX0_init_45 2 rfl rfl ?_
  refine ki_putF (w' := [(h0, .inr (0, [.ref g1, .ref g2, .ref q1, .ref q2, .ref q3, .ref q4])), (q1, .inl (cJ, 4046, .inr (.inl (fun _ => 0)))), (q2, .inl (cB, 1734, .inl (fun _ => 0))), (q3, .inl (cJ, 2040, .inr (.inl (fun _ => 0)))), (q4, .inl (cJ, 102, .inr (.inl (fun _ => 0))))]) 0 1 rfl rfl qX0_init_wX0 (by decide) tyX0 tyX0_ok nmX0 qX0_init_f29 rfl rfl rfl (tyX0_ok 1 (by decide)) rfl rfl (Nat.le_of_ble_eq_true rfl) dX0_init_46 rfl ?_
  exact ki_vret ⟨q1, q2, q3, q4, rfl⟩ ⟨Nat.le_of_ble_eq_true rfl, Nat.le_of_ble_eq_true rfl⟩ rfl dX0_init_49
abbrev rmX4_init : Room := { frames := 1, cells := 9, slots := 2105, locals := 12 }
theorem hySX4_init : yX4_init.cls ≠ "java/lang/invoke/MethodHandle" ∧ yX4_init.cls ≠ "java/lang/invoke/VarHandle" ∧ (parseMethodDescriptor yX4_init.desc).map (fun d => d.parameters.length) = some 2 := by decide +kernel
theorem qX4_init_ol : Cond.methodLink RX4 3 objectInit ∈ wsX4_init := by decide +kernel
theorem qX4_init_oi : Cond.instanceMethod objectInit ∈ wsX4_init := by decide +kernel
theorem qX4_init_oc : Cond.code objectInit ⟨#[0xb1]⟩ 1 none ∈ wsX4_init := by decide +kernel
theorem qX4_init_arint : Cond.arrayClass .int ∈ wsX4_init := by decide +kernel
theorem qX4_init_f11 : Cond.fieldLink RX4 11 "KindParser$Tree" "cells" "[I" ∈ wsX4_init := by decide +kernel
theorem qX4_init_wX4 : ∀ w ∈ u_ws RX4 TX4 14, w ∈ wsX4_init := by decide +kernel
theorem qX4_init_f15 : Cond.fieldLink RX4 15 "KindParser$Tree" "hints" "[I" ∈ wsX4_init := by decide +kernel
theorem qX4_init_f18 : Cond.fieldLink RX4 18 "KindParser$Tree" "within" "[I" ∈ wsX4_init := by decide +kernel
theorem qX4_init_f21 : Cond.fieldLink RX4 21 "KindParser$Tree" "begins" "[I" ∈ wsX4_init := by decide +kernel
theorem qX4_init_f24 : Cond.fieldLink RX4 24 "KindParser$Tree" "waitSymbols" "[I" ∈ wsX4_init := by decide +kernel
theorem qX4_init_f27 : Cond.fieldLink RX4 27 "KindParser$Tree" "waitParents" "[I" ∈ wsX4_init := by decide +kernel
theorem qX4_init_f30 : Cond.fieldLink RX4 30 "KindParser$Tree" "waitFirsts" "[I" ∈ wsX4_init := by decide +kernel
theorem qX4_init_f33 : Cond.fieldLink RX4 33 "KindParser$Tree" "waitEnds" "[I" ∈ wsX4_init := by decide +kernel
theorem qX4_init_f36 : Cond.fieldLink RX4 36 "KindParser$Tree" "waitHints" "[I" ∈ wsX4_init := by decide +kernel
theorem qX4_init_f39 : Cond.fieldLink RX4 39 "KindParser$Tree" "waiting" "I" ∈ wsX4_init := by decide +kernel
theorem qX4_init_f43 : Cond.fieldLink RX4 43 "KindParser$Tree" "size" "I" ∈ wsX4_init := by decide +kernel
theorem qX4_init_f46 : Cond.fieldLink RX4 46 "KindParser$Tree" "skipped" "I" ∈ wsX4_init := by decide +kernel
theorem qX4_init_f49 : Cond.fieldLink RX4 49 "KindParser$Tree" "grammar" "LKindParser$Grammar;" ∈ wsX4_init := by decide +kernel
theorem qX4_init_f53 : Cond.fieldLink RX4 53 "KindParser$Tree" "chart" "LKindParser$Chart;" ∈ wsX4_init := by decide +kernel
def pst_X4 (cI cB cJ cZ : ClassId) (h0 g1 g2 : Nat) : va_W → Prop := fun u => ∃ q1 q2 q3 q4 q5 q6 q7 q8 q9 : Nat, u = [(h0, .inr (4, [.ref g1, .ref g2, .ref q1, .ref q2, .ref q3, .ref q4, .ref q5, .ref q6, .ref q7, .ref q8, .ref q9, .int 0, .int 0, .int 0])), (q1, .inl (cI, 1050, .inl (fun _ => 0))), (q2, .inl (cI, 150, .inl (fun _ => 0))), (q3, .inl (cI, 150, .inl (fun _ => 0))), (q4, .inl (cI, 5, .inl (fun _ => 0))), (q5, .inl (cI, 150, .inl (fun _ => 0))), (q6, .inl (cI, 150, .inl (fun _ => 0))), (q7, .inl (cI, 150, .inl (fun _ => 0))), (q8, .inl (cI, 150, .inl (fun _ => 0))), (q9, .inl (cI, 150, .inl (fun _ => 0)))]
set_option maxHeartbeats 8000000 in
set_option maxRecDepth 100000 in
theorem i_X4 {l : Launch} {D : va_G} {cI cB cJ cZ : ClassId} (h0 g1 g2 : Nat) (z : Nat) : Met l yX4_init wsX4_init rmX4_init (kPc D (kT cI cB cJ cZ) [.ref h0, .ref g1, .ref g2] [(h0, .inr (4, [.null, .null, .null, .null, .null, .null, .null, .null, .null, .null, .null, .int 0, .int 0, .int 0]))] z) (kQn D (kT cI cB cJ cZ) (pst_X4 cI cB cJ cZ h0 g1 g2) [(h0, .inr (4, [.null, .null, .null, .null, .null, .null, .null, .null, .null, .null, .null, .int 0, .int 0, .int 0]))] z) 9 2105 (va_A [(h0, .inr (4, [.null, .null, .null, .null, .null, .null, .null, .null, .null, .null, .null, .int 0, .int 0, .int 0]))] z) := by
  refine KI.met (rm := rmX4_init) (lv := [(0, .ref h0), (1, .ref g1), (2, .ref g2)]) rfl (by decide) rfl (Nat.le_of_ble_eq_true rfl) rfl ?_
  show KI l (rmX4_init, cX4_init, 3, none, RX4, wsX4_init) D (kT cI cB cJ cZ) _ z _ _ 0 0 0 _ [] _
  refine ki_aload_n dX4_init_0 0 rfl rfl ?_
  refine ki_objInit qX4_init_ol qX4_init_oi qX4_init_oc dX4_init_1 (Nat.le_of_ble_eq_true rfl) (Nat.le_of_ble_eq_true rfl) ?_
  refine ki_aload_n dX4_init_4 0 rfl rfl ?_
  refine ki_sipush (v := 1050) dX4_init_5 (by decide) ?_
  refine ki_newa (atype := .int) (ty := .int) (a0 := (1050, .inl (fun _ => 0))) (N' := 1050) rfl qX4_init_arint 0 rfl (fun _ => rfl) (by decide) (by decide) (by decide) (Nat.le_of_ble_eq_true rfl) (Nat.le_of_ble_eq_true rfl) dX4_init_8 (fun q1 => ?_)
  refine ki_putF (w' := [(h0, .inr (4, [.null, .null, .ref q1, .null, .null, .null, .null, .null, .null, .null, .null, .int 0, .int 0, .int 0])), (q1, .inl (cI, 1050, .inl (fun _ => 0)))]) 0 2 rfl rfl qX4_init_wX4 (by decide) tyX4 tyX4_ok nmX4 qX4_init_f11 rfl rfl rfl (tyX4_ok 2 (by decide)) rfl rfl (Nat.le_of_ble_eq_true rfl) dX4_init_10 rfl ?_
  refine ki_aload_n dX4_init_13 0 rfl rfl ?_
  refine ki_sipush (v := 150) dX4_init_14 (by decide) ?_
  refine ki_newa (atype := .int) (ty := .int) (a0 := (150, .inl (fun _ => 0))) (N' := 150) rfl qX4_init_arint 0 rfl (fun _ => rfl) (by decide) (by decide) (by decide) (Nat.le_of_ble_eq_true rfl) (Nat.le_of_ble_eq_true rfl) dX4_init_17 (fun q2 => ?_)
  refine ki_putF (w' := [(h0, .inr (4, [.null, .null, .ref q1, .ref q2, .null, .null, .null, .null, .null, .null, .null, .int 0, .int 0, .int 0])), (q1, .inl (cI, 1050, .inl (fun _ => 0))), (q2, .inl (cI, 150, .inl (fun _ => 0)))]) 0 3 rfl rfl qX4_init_wX4 (by decide) tyX4 tyX4_ok nmX4 qX4_init_f15 rfl rfl rfl (tyX4_ok 3 (by decide)) rfl rfl (Nat.le_of_ble_eq_true rfl) dX4_init_19 rfl ?_
  refine ki_aload_n dX4_init_22 0 rfl rfl ?_
  refine ki_sipush (v := 150) dX4_init_23 (by decide) ?_
  refine ki_newa (atype := .int) (ty := .int) (a0 := (150, .inl (fun _ => 0))) (N' := 150) rfl qX4_init_arint 0 rfl (fun _ => rfl) (by decide) (by decide) (by decide) (Nat.le_of_ble_eq_true rfl) (Nat.le_of_ble_eq_true rfl) dX4_init_26 (fun q3 => ?_)
  refine ki_putF (w' := [(h0, .inr (4, [.null, .null, .ref q1, .ref q2, .ref q3, .null, .null, .null, .null, .null, .null, .int 0, .int 0, .int 0])), (q1, .inl (cI, 1050, .inl (fun _ => 0))), (q2, .inl (cI, 150, .inl (fun _ => 0))), (q3, .inl (cI, 150, .inl (fun _ => 0)))]) 0 4 rfl rfl qX4_init_wX4 (by decide) tyX4 tyX4_ok nmX4 qX4_init_f18 rfl rfl rfl (tyX4_ok 4 (by decide)) rfl rfl (Nat.le_of_ble_eq_true rfl) dX4_init_28 rfl ?_
  refine ki_aload_n dX4_init_31 0 rfl rfl ?_
  refine ki_iconst (v := 5) dX4_init_32 (by decide) ?_
  refine ki_newa (atype := .int) (ty := .int) (a0 := (5, .inl (fun _ => 0))) (N' := 5) rfl qX4_init_arint 0 rfl (fun _ => rfl) (by decide) (by decide) (by decide) (Nat.le_of_ble_eq_true rfl) (Nat.le_of_ble_eq_true rfl) dX4_init_33 (fun q4 => ?_)
  refine ki_putF (w' := [(h0, .inr (4, [.null, .null, .ref q1, .ref q2, .ref q3, .ref q4, .null, .null, .null, .null, .null, .int 0, .int 0, .int 0])), (q1, .inl (cI, 1050, .inl (fun _ => 0))), (q2, .inl (cI, 150, .inl (fun _ => 0))), (q3, .inl (cI, 150, .inl (fun _ => 0))), (q4, .inl (cI, 5, .inl (fun _ => 0)))]) 0 5 rfl rfl qX4_init_wX4 (by decide) tyX4 tyX4_ok nmX4 qX4_init_f21 rfl rfl rfl (tyX4_ok 5 (by decide)) rfl rfl (Nat.le_of_ble_eq_true rfl) dX4_init_35 rfl ?_
  refine ki_aload_n dX4_init_38 0 rfl rfl ?_
  refine ki_sipush (v := 150) dX4_init_39 (by decide) ?_
  refine ki_newa (atype := .int) (ty := .int) (a0 := (150, .inl (fun _ => 0))) (N' := 150) rfl qX4_init_arint 0 rfl (fun _ => rfl) (by decide) (by decide) (by decide) (Nat.le_of_ble_eq_true rfl) (Nat.le_of_ble_eq_true rfl) dX4_init_42 (fun q5 => ?_)
  refine ki_putF (w' := [(h0, .inr (4, [.null, .null, .ref q1, .ref q2, .ref q3, .ref q4, .ref q5, .null, .null, .null, .null, .int 0, .int 0, .int 0])), (q1, .inl (cI, 1050, .inl (fun _ => 0))), (q2, .inl (cI, 150, .inl (fun _ => 0))), (q3, .inl (cI, 150, .inl (fun _ => 0))), (q4, .inl (cI, 5, .inl (fun _ => 0))), (q5, .inl (cI, 150, .inl (fun _ => 0)))]) 0 6 rfl rfl qX4_init_wX4 (by decide) tyX4 tyX4_ok nmX4 qX4_init_f24 rfl rfl rfl (tyX4_ok 6 (by decide)) rfl rfl (Nat.le_of_ble_eq_true rfl) dX4_init_44 rfl ?_
  refine ki_aload_n dX4_init_47 0 rfl rfl ?_
  refine ki_sipush (v := 150) dX4_init_48 (by decide) ?_
  refine ki_newa (atype := .int) (ty := .int) (a0 := (150, .inl (fun _ => 0))) (N' := 150) rfl qX4_init_arint 0 rfl (fun _ => rfl) (by decide) (by decide) (by decide) (Nat.le_of_ble_eq_true rfl) (Nat.le_of_ble_eq_true rfl) dX4_init_51 (fun q6 => ?_)
  refine ki_putF (w' := [(h0, .inr (4, [.null, .null, .ref q1, .ref q2, .ref q3, .ref q4, .ref q5, .ref q6, .null, .null, .null, .int 0, .int 0, .int 0])), (q1, .inl (cI, 1050, .inl (fun _ => 0))), (q2, .inl (cI, 150, .inl (fun _ => 0))), (q3, .inl (cI, 150, .inl (fun _ => 0))), (q4, .inl (cI, 5, .inl (fun _ => 0))), (q5, .inl (cI, 150, .inl (fun _ => 0))), (q6, .inl (cI, 150, .inl (fun _ => 0)))]) 0 7 rfl rfl qX4_init_wX4 (by decide) tyX4 tyX4_ok nmX4 qX4_init_f27 rfl rfl rfl (tyX4_ok 7 (by decide)) rfl rfl (Nat.le_of_ble_eq_true rfl) dX4_init_53 rfl ?_
  refine ki_aload_n dX4_init_56 0 rfl rfl ?_
  refine ki_sipush (v := 150) dX4_init_57 (by decide) ?_
  refine ki_newa (atype := .int) (ty := .int) (a0 := (150, .inl (fun _ => 0))) (N' := 150) rfl qX4_init_arint 0 rfl (fun _ => rfl) (by decide) (by decide) (by decide) (Nat.le_of_ble_eq_true rfl) (Nat.le_of_ble_eq_true rfl) dX4_init_60 (fun q7 => ?_)
  refine ki_putF (w' := [(h0, .inr (4, [.null, .null, .ref q1, .ref q2, .ref q3, .ref q4, .ref q5, .ref q6, .ref q7, .null, .null, .int 0, .int 0, .int 0])), (q1, .inl (cI, 1050, .inl (fun _ => 0))), (q2, .inl (cI, 150, .inl (fun _ => 0))), (q3, .inl (cI, 150, .inl (fun _ => 0))), (q4, .inl (cI, 5, .inl (fun _ => 0))), (q5, .inl (cI, 150, .inl (fun _ => 0))), (q6, .inl (cI, 150, .inl (fun _ => 0))), (q7, .inl (cI, 150, .inl (fun _ => 0)))]) 0 8 rfl rfl qX4_init_wX4 (by decide) tyX4 tyX4_ok nmX4 qX4_init_f30 rfl rfl rfl (tyX4_ok 8 (by decide)) rfl rfl (Nat.le_of_ble_eq_true rfl) dX4_init_62 rfl ?_
  refine ki_aload_n dX4_init_65 0 rfl rfl ?_
  refine ki_sipush (v := 150) dX4_init_66 (by decide) ?_
  refine ki_newa (atype := .int) (ty := .int) (a0 := (150, .inl (fun _ => 0))) (N' := 150) rfl qX4_init_arint 0 rfl (fun _ => rfl) (by decide) (by decide) (by decide) (Nat.le_of_ble_eq_true rfl) (Nat.le_of_ble_eq_true rfl) dX4_init_69 (fun q8 => ?_)
  refine ki_putF (w' := [(h0, .inr (4, [.null, .null, .ref q1, .ref q2, .ref q3, .ref q4, .ref q5, .ref q6, .ref q7, .ref q8, .null, .int 0, .int 0, .int 0])), (q1, .inl (cI, 1050, .inl (fun _ => 0))), (q2, .inl (cI, 150, .inl (fun _ => 0))), (q3, .inl (cI, 150, .inl (fun _ => 0))), (q4, .inl (cI, 5, .inl (fun _ => 0))), (q5, .inl (cI, 150, .inl (fun _ => 0))), (q6, .inl (cI, 150, .inl (fun _ => 0))), (q7, .inl (cI, 150, .inl (fun _ => 0))), (q8, .inl (cI, 150, .inl (fun _ => 0)))]) 0 9 rfl rfl qX4_init_wX4 (by decide) tyX4 tyX4_ok nmX4 qX4_init_f33 rfl rfl rfl (tyX4_ok 9 (by decide)) rfl rfl (Nat.le_of_ble_eq_true rfl) dX4_init_71 rfl ?_
  refine ki_aload_n dX4_init_74 0 rfl rfl ?_
  refine ki_sipush (v := 150) dX4_init_75 (by decide) ?_
  refine ki_newa (atype := .int) (ty := .int) (a0 := (150, .inl (fun _ => 0))) (N' := 150) rfl qX4_init_arint 0 rfl (fun _ => rfl) (by decide) (by decide) (by decide) (Nat.le_of_ble_eq_true rfl) (Nat.le_of_ble_eq_true rfl) dX4_init_78 (fun q9 => ?_)
  refine ki_putF (w' := [(h0, .inr (4, [.null, .null, .ref q1, .ref q2, .ref q3, .ref q4, .ref q5, .ref q6, .ref q7, .ref q8, .ref q9, .int 0, .int 0, .int 0])), (q1, .inl (cI, 1050, .inl (fun _ => 0))), (q2, .inl (cI, 150, .inl (fun _ => 0))), (q3, .inl (cI, 150, .inl (fun _ => 0))), (q4, .inl (cI, 5, .inl (fun _ => 0))), (q5, .inl (cI, 150, .inl (fun _ => 0))), (q6, .inl (cI, 150, .inl (fun _ => 0))), (q7, .inl (cI, 150, .inl (fun _ => 0))), (q8, .inl (cI, 150, .inl (fun _ => 0))), (q9, .inl (cI, 150, .inl (fun _ => 0)))]) 0 10 rfl rfl qX4_init_wX4 (by decide) tyX4 tyX4_ok nmX4 qX4_init_f36 rfl rfl rfl (tyX4_ok 10 (by decide)) rfl rfl (Nat.le_of_ble_eq_true rfl) dX4_init_80 rfl ?_
  refine ki_aload_n dX4_init_83 0 rfl rfl ?_
  refine ki_iconst (v := 0) dX4_init_84 (by decide) ?_
  refine ki_put (w' := [(h0, .inr (4, [.null, .null, .ref q1, .ref q2, .ref q3, .ref q4, .ref q5, .ref q6, .ref q7, .ref q8, .ref q9, .int 0, .int 0, .int 0])), (q1, .inl (cI, 1050, .inl (fun _ => 0))), (q2, .inl (cI, 150, .inl (fun _ => 0))), (q3, .inl (cI, 150, .inl (fun _ => 0))), (q4, .inl (cI, 5, .inl (fun _ => 0))), (q5, .inl (cI, 150, .inl (fun _ => 0))), (q6, .inl (cI, 150, .inl (fun _ => 0))), (q7, .inl (cI, 150, .inl (fun _ => 0))), (q8, .inl (cI, 150, .inl (fun _ => 0))), (q9, .inl (cI, 150, .inl (fun _ => 0)))]) 0 11 rfl rfl qX4_init_wX4 (by decide) tyX4 tyX4_ok nmX4 qX4_init_f39 rfl (tyX4_ok 11 (by decide)) rfl rfl (Nat.le_of_ble_eq_true rfl) dX4_init_85 rfl ?_
  refine ki_aload_n dX4_init_88 0 rfl rfl ?_
  refine ki_iconst (v := 0) dX4_init_89 (by decide) ?_
  refine ki_put (w' := [(h0, .inr (4, [.null, .null, .ref q1, .ref q2, .ref q3, .ref q4, .ref q5, .ref q6, .ref q7, .ref q8, .ref q9, .int 0, .int 0, .int 0])), (q1, .inl (cI, 1050, .inl (fun _ => 0))), (q2, .inl (cI, 150, .inl (fun _ => 0))), (q3, .inl (cI, 150, .inl (fun _ => 0))), (q4, .inl (cI, 5, .inl (fun _ => 0))), (q5, .inl (cI, 150, .inl (fun _ => 0))), (q6, .inl (cI, 150, .inl (fun _ => 0))), (q7, .inl (cI, 150, .inl (fun _ => 0))), (q8, .inl (cI, 150, .inl (fun _ => 0))), (q9, .inl (cI, 150, .inl (fun _ => 0)))]) 0 12 rfl rfl qX4_init_wX4 (by decide) tyX4 tyX4_ok nmX4 qX4_init_f43 rfl (tyX4_ok 12 (by decide)) rfl rfl (Nat.le_of_ble_eq_true rfl) dX4_init_90 rfl ?_
  refine ki_aload_n dX4_init_93 0 rfl rfl ?_
  refine ki_iconst (v := 0) dX4_init_94 (by decide) ?_
  refine ki_put (w' := [(h0, .inr (4, [.null, .null, .ref q1, .ref q2, .ref q3, .ref q4, .ref q5, .ref q6, .ref q7, .ref q8, .ref q9, .int 0, .int 0, .int 0])), (q1, .inl (cI, 1050, .inl (fun _ => 0))), (q2, .inl (cI, 150, .inl (fun _ => 0))), (q3, .inl (cI, 150, .inl (fun _ => 0))), (q4, .inl (cI, 5, .inl (fun _ => 0))), (q5, .inl (cI, 150, .inl (fun _ => 0))), (q6, .inl (cI, 150, .inl (fun _ => 0))), (q7, .inl (cI, 150, .inl (fun _ => 0))), (q8, .inl (cI, 150, .inl (fun _ => 0))), (q9, .inl (cI, 150, .inl (fun _ => 0)))]) 0 13 rfl rfl qX4_init_wX4 (by decide) tyX4 tyX4_ok nmX4 qX4_init_f46 rfl (tyX4_ok 13 (by decide)) rfl rfl (Nat.le_of_ble_eq_true rfl) dX4_init_95 rfl ?_
  refine ki_aload_n dX4_init_98 0 rfl rfl ?_
  refine ki_aload_n dX4_init_99 1 rfl rfl ?_
  refine ki_putF (w' := [(h0, .inr (4, [.ref g1, .null, .ref q1, .ref q2, .ref q3, .ref q4, .ref q5, .ref q6, .ref q7, .ref q8, .ref q9, .int 0, .int 0, .int 0])), (q1, .inl (cI, 1050, .inl (fun _ => 0))), (q2, .inl (cI, 150, .inl (fun _ => 0))), (q3, .inl (cI, 150, .inl (fun _ => 0))), (q4, .inl (cI, 5, .inl (fun _ => 0))), (q5, .inl (cI, 150, .inl (fun _ => 0))), (q6, .inl (cI, 150, .inl (fun _ => 0))), (q7, .inl (cI, 150, .inl (fun _ => 0))), (q8, .inl (cI, 150, .inl (fun _ => 0))), (q9, .inl (cI, 150, .inl (fun _ => 0)))]) 0 0 rfl rfl qX4_init_wX4 (by decide) tyX4 tyX4_ok nmX4 qX4_init_f49 rfl rfl rfl (tyX4_ok 0 (by decide)) rfl rfl (Nat.le_of_ble_eq_true rfl) dX4_init_100 rfl ?_
  refine ki_aload_n dX4_init_103 0 rfl rfl ?_
  refine ki_aload_n dX4_init_104 2 rfl rfl ?_
  refine ki_putF (w' := [(h0, .inr (4, [.ref g1, .ref g2, .ref q1, .ref q2, .ref q3, .ref q4, .ref q5, .ref q6, .ref q7, .ref q8, .ref q9, .int 0, .int 0, .int 0])), (q1, .inl (cI, 1050, .inl (fun _ => 0))), (q2, .inl (cI, 150, .inl (fun _ => 0))), (q3, .inl (cI, 150, .inl (fun _ => 0))), (q4, .inl (cI, 5, .inl (fun _ => 0))), (q5, .inl (cI, 150, .inl (fun _ => 0))), (q6, .inl (cI, 150, .inl (fun _ => 0))), (q7, .inl (cI, 150, .inl (fun _ => 0))), (q8, .inl (cI, 150, .inl (fun _ => 0))), (q9, .inl (cI, 150, .inl (fun _ => 0)))]) 0 1 rfl rfl qX4_init_wX4 (by decide) tyX4 tyX4_ok nmX4 qX4_init_f53 rfl rfl rfl (tyX4_ok 1 (by decide)) rfl rfl (Nat.le_of_ble_eq_true rfl) dX4_init_105 rfl ?_
  exact ki_vret ⟨q1, q2, q3, q4, q5, q6, q7, q8, q9, rfl⟩ ⟨Nat.le_of_ble_eq_true rfl, Nat.le_of_ble_eq_true rfl⟩ rfl dX4_init_108
abbrev rmX3_init : Room := { frames := 1, cells := 4, slots := 1750, locals := 12 }
theorem hySX3_init : yX3_init.cls ≠ "java/lang/invoke/MethodHandle" ∧ yX3_init.cls ≠ "java/lang/invoke/VarHandle" ∧ (parseMethodDescriptor yX3_init.desc).map (fun d => d.parameters.length) = some 3 := by decide +kernel
theorem qX3_init_ol : Cond.methodLink RX3 3 objectInit ∈ wsX3_init := by decide +kernel
theorem qX3_init_oi : Cond.instanceMethod objectInit ∈ wsX3_init := by decide +kernel
theorem qX3_init_oc : Cond.code objectInit ⟨#[0xb1]⟩ 1 none ∈ wsX3_init := by decide +kernel
theorem qX3_init_arbyte : Cond.arrayClass .byte ∈ wsX3_init := by decide +kernel
theorem qX3_init_f11 : Cond.fieldLink RX3 11 "KindParser$Page" "sheet" "[B" ∈ wsX3_init := by decide +kernel
theorem qX3_init_wX3 : ∀ w ∈ u_ws RX3 TX3 9, w ∈ wsX3_init := by decide +kernel
theorem qX3_init_arint : Cond.arrayClass .int ∈ wsX3_init := by decide +kernel
theorem qX3_init_f15 : Cond.fieldLink RX3 15 "KindParser$Page" "flats" "[I" ∈ wsX3_init := by decide +kernel
theorem qX3_init_arboolean : Cond.arrayClass .boolean ∈ wsX3_init := by decide +kernel
theorem qX3_init_f19 : Cond.fieldLink RX3 19 "KindParser$Page" "broken" "[Z" ∈ wsX3_init := by decide +kernel
theorem qX3_init_f23 : Cond.fieldLink RX3 23 "KindParser$Page" "indents" "[I" ∈ wsX3_init := by decide +kernel
theorem qX3_init_f26 : Cond.fieldLink RX3 26 "KindParser$Page" "size" "I" ∈ wsX3_init := by decide +kernel
theorem qX3_init_f30 : Cond.fieldLink RX3 30 "KindParser$Page" "column" "I" ∈ wsX3_init := by decide +kernel
theorem qX3_init_f33 : Cond.fieldLink RX3 33 "KindParser$Page" "grammar" "LKindParser$Grammar;" ∈ wsX3_init := by decide +kernel
theorem qX3_init_f37 : Cond.fieldLink RX3 37 "KindParser$Page" "cut" "LKindParser$Cut;" ∈ wsX3_init := by decide +kernel
theorem qX3_init_f41 : Cond.fieldLink RX3 41 "KindParser$Page" "tree" "LKindParser$Tree;" ∈ wsX3_init := by decide +kernel
def pst_X3 (cI cB cJ cZ : ClassId) (h0 g1 g2 g3 : Nat) : va_W → Prop := fun u => ∃ q1 q2 q3 q4 : Nat, u = [(h0, .inr (3, [.ref g1, .ref g2, .ref g3, .ref q1, .ref q2, .ref q3, .ref q4, .int 0, .int 0])), (q1, .inl (cB, 1300, .inl (fun _ => 0))), (q2, .inl (cI, 150, .inl (fun _ => 0))), (q3, .inl (cZ, 150, .inl (fun _ => 0))), (q4, .inl (cI, 150, .inl (fun _ => 0)))]
set_option maxHeartbeats 8000000 in
set_option maxRecDepth 100000 in
theorem i_X3 {l : Launch} {D : va_G} {cI cB cJ cZ : ClassId} (h0 g1 g2 g3 : Nat) (z : Nat) : Met l yX3_init wsX3_init rmX3_init (kPc D (kT cI cB cJ cZ) [.ref h0, .ref g1, .ref g2, .ref g3] [(h0, .inr (3, [.null, .null, .null, .null, .null, .null, .null, .int 0, .int 0]))] z) (kQn D (kT cI cB cJ cZ) (pst_X3 cI cB cJ cZ h0 g1 g2 g3) [(h0, .inr (3, [.null, .null, .null, .null, .null, .null, .null, .int 0, .int 0]))] z) 4 1750 (va_A [(h0, .inr (3, [.null, .null, .null, .null, .null, .null, .null, .int 0, .int 0]))] z) := by
  refine KI.met (rm := rmX3_init) (lv := [(0, .ref h0), (1, .ref g1), (2, .ref g2), (3, .ref g3)]) rfl (by decide) rfl (Nat.le_of_ble_eq_true rfl) rfl ?_
  show KI l (rmX3_init, cX3_init, 4, none, RX3, wsX3_init) D (kT cI cB cJ cZ) _ z _ _ 0 0 0 _ [] _
  refine ki_aload_n dX3_init_0 0 rfl rfl ?_
  refine ki_objInit qX3_init_ol qX3_init_oi qX3_init_oc dX3_init_1 (Nat.le_of_ble_eq_true rfl) (Nat.le_of_ble_eq_true rfl) ?_
  refine ki_aload_n dX3_init_4 0 rfl rfl ?_
  refine ki_sipush (v := 1300) dX3_init_5 (by decide) ?_
  refine ki_newa (atype := .byte) (ty := .byte) (a0 := (1300, .inl (fun _ => 0))) (N' := 1300) rfl qX3_init_arbyte 1 rfl (fun _ => rfl) (by decide) (by decide) (by decide) (Nat.le_of_ble_eq_true rfl) (Nat.le_of_ble_eq_true rfl) dX3_init_8 (fun q1 => ?_)
  refine ki_putF (w' := [(h0, .inr (3, [.null, .null, .null, .ref q1, .null, .null, .null, .int 0, .int 0])), (q1, .inl (cB, 1300, .inl (fun _ => 0)))]) 0 3 rfl rfl qX3_init_wX3 (by decide) tyX3 tyX3_ok nmX3 qX3_init_f11 rfl rfl rfl (tyX3_ok 3 (by decide)) rfl rfl (Nat.le_of_ble_eq_true rfl) dX3_init_10 rfl ?_
  refine ki_aload_n dX3_init_13 0 rfl rfl ?_
  refine ki_sipush (v := 150) dX3_init_14 (by decide) ?_
  refine ki_newa (atype := .int) (ty := .int) (a0 := (150, .inl (fun _ => 0))) (N' := 150) rfl qX3_init_arint 0 rfl (fun _ => rfl) (by decide) (by decide) (by decide) (Nat.le_of_ble_eq_true rfl) (Nat.le_of_ble_eq_true rfl) dX3_init_17 (fun q2 => ?_)
  refine ki_putF (w' := [(h0, .inr (3, [.null, .null, .null, .ref q1, .ref q2, .null, .null, .int 0, .int 0])), (q1, .inl (cB, 1300, .inl (fun _ => 0))), (q2, .inl (cI, 150, .inl (fun _ => 0)))]) 0 4 rfl rfl qX3_init_wX3 (by decide) tyX3 tyX3_ok nmX3 qX3_init_f15 rfl rfl rfl (tyX3_ok 4 (by decide)) rfl rfl (Nat.le_of_ble_eq_true rfl) dX3_init_19 rfl ?_
  refine ki_aload_n dX3_init_22 0 rfl rfl ?_
  refine ki_sipush (v := 150) dX3_init_23 (by decide) ?_
  refine ki_newa (atype := .boolean) (ty := .boolean) (a0 := (150, .inl (fun _ => 0))) (N' := 150) rfl qX3_init_arboolean 3 rfl (fun _ => rfl) (by decide) (by decide) (by decide) (Nat.le_of_ble_eq_true rfl) (Nat.le_of_ble_eq_true rfl) dX3_init_26 (fun q3 => ?_)
  refine ki_putF (w' := [(h0, .inr (3, [.null, .null, .null, .ref q1, .ref q2, .ref q3, .null, .int 0, .int 0])), (q1, .inl (cB, 1300, .inl (fun _ => 0))), (q2, .inl (cI, 150, .inl (fun _ => 0))), (q3, .inl (cZ, 150, .inl (fun _ => 0)))]) 0 5 rfl rfl qX3_init_wX3 (by decide) tyX3 tyX3_ok nmX3 qX3_init_f19 rfl rfl rfl (tyX3_ok 5 (by decide)) rfl rfl (Nat.le_of_ble_eq_true rfl) dX3_init_28 rfl ?_
  refine ki_aload_n dX3_init_31 0 rfl rfl ?_
  refine ki_sipush (v := 150) dX3_init_32 (by decide) ?_
  refine ki_newa (atype := .int) (ty := .int) (a0 := (150, .inl (fun _ => 0))) (N' := 150) rfl qX3_init_arint 0 rfl (fun _ => rfl) (by decide) (by decide) (by decide) (Nat.le_of_ble_eq_true rfl) (Nat.le_of_ble_eq_true rfl) dX3_init_35 (fun q4 => ?_)
  refine ki_putF (w' := [(h0, .inr (3, [.null, .null, .null, .ref q1, .ref q2, .ref q3, .ref q4, .int 0, .int 0])), (q1, .inl (cB, 1300, .inl (fun _ => 0))), (q2, .inl (cI, 150, .inl (fun _ => 0))), (q3, .inl (cZ, 150, .inl (fun _ => 0))), (q4, .inl (cI, 150, .inl (fun _ => 0)))]) 0 6 rfl rfl qX3_init_wX3 (by decide) tyX3 tyX3_ok nmX3 qX3_init_f23 rfl rfl rfl (tyX3_ok 6 (by decide)) rfl rfl (Nat.le_of_ble_eq_true rfl) dX3_init_37 rfl ?_
  refine ki_aload_n dX3_init_40 0 rfl rfl ?_
  refine ki_iconst (v := 0) dX3_init_41 (by decide) ?_
  refine ki_put (w' := [(h0, .inr (3, [.null, .null, .null, .ref q1, .ref q2, .ref q3, .ref q4, .int 0, .int 0])), (q1, .inl (cB, 1300, .inl (fun _ => 0))), (q2, .inl (cI, 150, .inl (fun _ => 0))), (q3, .inl (cZ, 150, .inl (fun _ => 0))), (q4, .inl (cI, 150, .inl (fun _ => 0)))]) 0 7 rfl rfl qX3_init_wX3 (by decide) tyX3 tyX3_ok nmX3 qX3_init_f26 rfl (tyX3_ok 7 (by decide)) rfl rfl (Nat.le_of_ble_eq_true rfl) dX3_init_42 rfl ?_
  refine ki_aload_n dX3_init_45 0 rfl rfl ?_
  refine ki_iconst (v := 0) dX3_init_46 (by decide) ?_
  refine ki_put (w' := [(h0, .inr (3, [.null, .null, .null, .ref q1, .ref q2, .ref q3, .ref q4, .int 0, .int 0])), (q1, .inl (cB, 1300, .inl (fun _ => 0))), (q2, .inl (cI, 150, .inl (fun _ => 0))), (q3, .inl (cZ, 150, .inl (fun _ => 0))), (q4, .inl (cI, 150, .inl (fun _ => 0)))]) 0 8 rfl rfl qX3_init_wX3 (by decide) tyX3 tyX3_ok nmX3 qX3_init_f30 rfl (tyX3_ok 8 (by decide)) rfl rfl (Nat.le_of_ble_eq_true rfl) dX3_init_47 rfl ?_
  refine ki_aload_n dX3_init_50 0 rfl rfl ?_
  refine ki_aload_n dX3_init_51 1 rfl rfl ?_
  refine ki_putF (w' := [(h0, .inr (3, [.ref g1, .null, .null, .ref q1, .ref q2, .ref q3, .ref q4, .int 0, .int 0])), (q1, .inl (cB, 1300, .inl (fun _ => 0))), (q2, .inl (cI, 150, .inl (fun _ => 0))), (q3, .inl (cZ, 150, .inl (fun _ => 0))), (q4, .inl (cI, 150, .inl (fun _ => 0)))]) 0 0 rfl rfl qX3_init_wX3 (by decide) tyX3 tyX3_ok nmX3 qX3_init_f33 rfl rfl rfl (tyX3_ok 0 (by decide)) rfl rfl (Nat.le_of_ble_eq_true rfl) dX3_init_52 rfl ?_
  refine ki_aload_n dX3_init_55 0 rfl rfl ?_
  refine ki_aload_n dX3_init_56 2 rfl rfl ?_
  refine ki_putF (w' := [(h0, .inr (3, [.ref g1, .ref g2, .null, .ref q1, .ref q2, .ref q3, .ref q4, .int 0, .int 0])), (q1, .inl (cB, 1300, .inl (fun _ => 0))), (q2, .inl (cI, 150, .inl (fun _ => 0))), (q3, .inl (cZ, 150, .inl (fun _ => 0))), (q4, .inl (cI, 150, .inl (fun _ => 0)))]) 0 1 rfl rfl qX3_init_wX3 (by decide) tyX3 tyX3_ok nmX3 qX3_init_f37 rfl rfl rfl (tyX3_ok 1 (by decide)) rfl rfl (Nat.le_of_ble_eq_true rfl) dX3_init_57 rfl ?_
  refine ki_aload_n dX3_init_60 0 rfl rfl ?_
  refine ki_aload_n dX3_init_61 3 rfl rfl ?_
  refine ki_putF (w' := [(h0, .inr (3, [.ref g1, .ref g2, .ref g3, .ref q1, .ref q2, .ref q3, .ref q4, .int 0, .int 0])), (q1, .inl (cB, 1300, .inl (fun _ => 0))), (q2, .inl (cI, 150, .inl (fun _ => 0))), (q3, .inl (cZ, 150, .inl (fun _ => 0))), (q4, .inl (cI, 150, .inl (fun _ => 0)))]) 0 2 rfl rfl qX3_init_wX3 (by decide) tyX3 tyX3_ok nmX3 qX3_init_f41 rfl rfl rfl (tyX3_ok 2 (by decide)) rfl rfl (Nat.le_of_ble_eq_true rfl) dX3_init_62 rfl ?_
  exact ki_vret ⟨q1, q2, q3, q4, rfl⟩ ⟨Nat.le_of_ble_eq_true rfl, Nat.le_of_ble_eq_true rfl⟩ rfl dX3_init_65
