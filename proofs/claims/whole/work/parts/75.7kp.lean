abbrev rmX5_erase : Room := { frames := 0, cells := 0, slots := 0, locals := 0 }
abbrev xX5_erase : KX := (rmX5_erase, cX5_erase, 2, some .int, RX5, wsX5_erase)
theorem hySX5_erase : yX5_erase.cls ≠ "java/lang/invoke/MethodHandle" ∧ yX5_erase.cls ≠ "java/lang/invoke/VarHandle" ∧ (parseMethodDescriptor yX5_erase.desc).map (fun d => d.parameters.length) = some 0 := by decide +kernel
theorem hyVX5_erase : yX5_erase.cls = RX5 ∧ yX5_erase.cls ≠ "java/lang/invoke/MethodHandle" ∧ yX5_erase.cls ≠ "java/lang/invoke/VarHandle" ∧ (parseMethodDescriptor yX5_erase.desc).map (fun d => d.parameters.length) = some 0 := ⟨rfl, hySX5_erase⟩
theorem qX5_erase_wX5 : ∀ w ∈ u_ws RX5 TX5 9, w ∈ wsX5_erase := by decide +kernel
theorem qX5_erase_f20 : Cond.fieldLink RX5 20 "KindParser" "length" "I" ∈ wsX5_erase := by decide +kernel
set_option maxHeartbeats 4000000 in
set_option maxRecDepth 100000 in
/-- KindParser.erase -/
theorem c_X5_erase {l : Launch} {D : va_G} {cI cB cJ cZ : ClassId} {ad : Nat → Nat} (ws : va_W) (z : Nat) {k_length : Int32} {k_repaired : Int32} {k_spent : Int32} (E : True) (e0 : ws[0]? = some (ad 0, .inr (5, [.ref (ad 1), .ref (ad 8), .int k_length, .ref (ad 9), .ref (ad 17), .ref (ad 22), .ref (ad 32), .int k_repaired, .int k_spent])))  {o : Int32 × (Int32)} (h : f_X5_erase k_length = some o) : Met l yX5_erase wsX5_erase rmX5_erase (kPc D (kT cI cB cJ cZ) [.ref (ad 0)] ws z) (kQi D (kT cI cB cJ cZ) o.1 [(0, (ad 0, .inr (5, [.ref (ad 1), .ref (ad 8), .int o.2, .ref (ad 9), .ref (ad 17), .ref (ad 22), .ref (ad 32), .int k_repaired, .int k_spent])))] ws z) 0 0 (va_A ws z) := by
  refine KW.met (rm := rmX5_erase) (lv := [(0, .ref (ad 0))]) (L := [(0, (ad 0, .inr (5, [.ref (ad 1), .ref (ad 8), .int k_length, .ref (ad 9), .ref (ad 17), .ref (ad 22), .ref (ad 32), .int k_repaired, .int k_spent])))]) rfl (by decide) (Nat.le_of_ble_eq_true rfl) rfl (by intro q hq; simp only [List.mem_cons, List.not_mem_nil, or_false] at hq; rcases hq with rfl <;> assumption) ?_
  unfold f_X5_erase at h
  show KW l xX5_erase D (kT cI cB cJ cZ) ws z (kQi D (kT cI cB cJ cZ) o.1 [(0, (ad 0, .inr (5, [.ref (ad 1), .ref (ad 8), .int o.2, .ref (ad 9), .ref (ad 17), .ref (ad 22), .ref (ad 32), .int k_repaired, .int k_spent])))] ws z) 0 [(0, .ref (ad 0))] [] [(0, (ad 0, .inr (5, [.ref (ad 1), .ref (ad 8), .int k_length, .ref (ad 9), .ref (ad 17), .ref (ad 22), .ref (ad 32), .int k_repaired, .int k_spent])))]
  refine k_aload_n dX5_erase_0 0 rfl rfl ?_
  refine k_get 0 2 rfl rfl qX5_erase_wX5 (by decide) qX5_erase_f20 rfl dX5_erase_1 ?_
  refine k_istore_n (i := 1) (lv' := fun x => [(1, .int x), (0, .ref (ad 0))]) dX5_erase_4 rfl (Nat.le_of_ble_eq_true rfl) (fun _ => rfl) h (fun x1_1 h => ?_)
  refine k_aload_n dX5_erase_5 1 rfl rfl ?_
  refine k_iconst (v := 0) dX5_erase_6 (by decide) ?_
  refine k_put (L' := [(0, (ad 0, .inr (5, [.ref (ad 1), .ref (ad 8), .int 0, .ref (ad 9), .ref (ad 17), .ref (ad 22), .ref (ad 32), .int k_repaired, .int k_spent])))]) 0 2 rfl rfl qX5_erase_wX5 (by decide) tyX5 tyX5_ok nmX5 rfl qX5_erase_f20 rfl (tyX5_ok 2 (by decide)) rfl rfl (Nat.le_of_ble_eq_true rfl) dX5_erase_7 rfl ?_
  refine k_iload_n dX5_erase_10 0 rfl rfl ?_
  obtain rfl := Option.some.inj h
  exact k_iret rfl dX5_erase_11
abbrev rmX5_tokens : Room := { frames := 0, cells := 0, slots := 0, locals := 0 }
abbrev xX5_tokens : KX := (rmX5_tokens, cX5_tokens, 1, some .int, RX5, wsX5_tokens)
theorem hySX5_tokens : yX5_tokens.cls ≠ "java/lang/invoke/MethodHandle" ∧ yX5_tokens.cls ≠ "java/lang/invoke/VarHandle" ∧ (parseMethodDescriptor yX5_tokens.desc).map (fun d => d.parameters.length) = some 0 := by decide +kernel
theorem hyVX5_tokens : yX5_tokens.cls = RX5 ∧ yX5_tokens.cls ≠ "java/lang/invoke/MethodHandle" ∧ yX5_tokens.cls ≠ "java/lang/invoke/VarHandle" ∧ (parseMethodDescriptor yX5_tokens.desc).map (fun d => d.parameters.length) = some 0 := ⟨rfl, hySX5_tokens⟩
theorem qX5_tokens_wX5 : ∀ w ∈ u_ws RX5 TX5 9, w ∈ wsX5_tokens := by decide +kernel
theorem qX5_tokens_f45 : Cond.fieldLink RX5 45 "KindParser" "tree" "LKindParser$Tree;" ∈ wsX5_tokens := by decide +kernel
theorem qX5_tokens_wX4 : ∀ w ∈ u_ws RX4 TX4 14, w ∈ wsX5_tokens := by decide +kernel
theorem qX5_tokens_f27 : Cond.fieldLink RX5 27 "KindParser" "cut" "LKindParser$Cut;" ∈ wsX5_tokens := by decide +kernel
theorem qX5_tokens_wX1 : ∀ w ∈ u_ws RX1 TX1 10, w ∈ wsX5_tokens := by decide +kernel
set_option maxHeartbeats 4000000 in
set_option maxRecDepth 100000 in
theorem wjn_X5_tokens_21 {l : Launch} {D : va_G} {cI cB cJ cZ : ClassId} {ad : Nat → Nat} {ws : va_W} {z : Nat} {k_length : Int32} {k_repaired : Int32} {k_spent : Int32} {c_length : Int32} {c_size : Int32} {c_comments : Int32} {t_waiting : Int32} {t_size : Int32} {t_skipped : Int32} (E : ws[0]? = some (ad 0, .inr (5, [.ref (ad 1), .ref (ad 8), .int k_length, .ref (ad 9), .ref (ad 17), .ref (ad 22), .ref (ad 32), .int k_repaired, .int k_spent])) ∧ ws[9]? = some (ad 9, .inr (1, [.ref (ad 10), .int c_length, .ref (ad 11), .ref (ad 12), .ref (ad 13), .ref (ad 14), .ref (ad 15), .ref (ad 16), .int c_size, .int c_comments])) ∧ ws[22]? = some (ad 22, .inr (4, [.ref (ad 1), .ref (ad 17), .ref (ad 23), .ref (ad 24), .ref (ad 25), .ref (ad 26), .ref (ad 27), .ref (ad 28), .ref (ad 29), .ref (ad 30), .ref (ad 31), .int t_waiting, .int t_size, .int t_skipped]))) {o : Int32}   : ∀ (s0 : Int32), jn_X5_tokens_21 c_size t_size s0 = some o → KW l xX5_tokens D (kT cI cB cJ cZ) ws z (kQi D (kT cI cB cJ cZ) o [] ws z) 21 [] [.int s0] [] := by
  intro s0 h
  unfold jn_X5_tokens_21 at h
  obtain rfl := Option.some.inj h
  exact k_iret rfl dX5_tokens_21
set_option maxHeartbeats 4000000 in
set_option maxRecDepth 100000 in
/-- KindParser.tokens -/
theorem c_X5_tokens {l : Launch} {D : va_G} {cI cB cJ cZ : ClassId} {ad : Nat → Nat} (ws : va_W) (z : Nat) {k_length : Int32} {k_repaired : Int32} {k_spent : Int32} {c_length : Int32} {c_size : Int32} {c_comments : Int32} {t_waiting : Int32} {t_size : Int32} {t_skipped : Int32} (E : ws[0]? = some (ad 0, .inr (5, [.ref (ad 1), .ref (ad 8), .int k_length, .ref (ad 9), .ref (ad 17), .ref (ad 22), .ref (ad 32), .int k_repaired, .int k_spent])) ∧ ws[9]? = some (ad 9, .inr (1, [.ref (ad 10), .int c_length, .ref (ad 11), .ref (ad 12), .ref (ad 13), .ref (ad 14), .ref (ad 15), .ref (ad 16), .int c_size, .int c_comments])) ∧ ws[22]? = some (ad 22, .inr (4, [.ref (ad 1), .ref (ad 17), .ref (ad 23), .ref (ad 24), .ref (ad 25), .ref (ad 26), .ref (ad 27), .ref (ad 28), .ref (ad 29), .ref (ad 30), .ref (ad 31), .int t_waiting, .int t_size, .int t_skipped])))   {o : Int32} (h : f_X5_tokens c_size t_size = some o) : Met l yX5_tokens wsX5_tokens rmX5_tokens (kPc D (kT cI cB cJ cZ) [.ref (ad 0)] ws z) (kQi D (kT cI cB cJ cZ) o [] ws z) 0 0 (va_A ws z) := by
  refine KW.met (rm := rmX5_tokens) (lv := [(0, .ref (ad 0))]) (L := []) rfl (by decide) (Nat.le_of_ble_eq_true rfl) rfl (fun q hq => by cases hq) ?_
  unfold f_X5_tokens at h
  show KW l xX5_tokens D (kT cI cB cJ cZ) ws z (kQi D (kT cI cB cJ cZ) o [] ws z) 0 [(0, .ref (ad 0))] [] []
  refine k_aload_n dX5_tokens_0 0 rfl rfl ?_
  refine k_get 0 5 E.1 rfl qX5_tokens_wX5 (by decide) qX5_tokens_f45 rfl dX5_tokens_1 ?_
  refine k_getN 22 12 E.2.2 rfl qX5_tokens_wX4 (by decide) (host := "KindParser") (by decide +kernel) rfl dX5_tokens_4 ?_
  refine k_if_le 20 dX5_tokens_7 (by decide) h (fun h => ?_) (fun h => ?_)
  · skip
    refine k_iconst (v := 0) dX5_tokens_20 (by decide) ?_
    refine k_sub [] rfl ?_
    exact wjn_X5_tokens_21 (cI := cI) (cB := cB) (cJ := cJ) (cZ := cZ) (ad := ad) E  _ h
  · skip
    refine k_aload_n dX5_tokens_10 0 rfl rfl ?_
    refine k_get 0 3 E.1 rfl qX5_tokens_wX5 (by decide) qX5_tokens_f27 rfl dX5_tokens_11 ?_
    refine k_getN 9 8 E.2.1 rfl qX5_tokens_wX1 (by decide) (host := "KindParser") (by decide +kernel) rfl dX5_tokens_14 ?_
    refine k_goto 21 dX5_tokens_17 (by decide) ?_
    refine k_sub [] rfl ?_
    exact wjn_X5_tokens_21 (cI := cI) (cB := cB) (cJ := cJ) (cZ := cZ) (ad := ad) E  _ h
abbrev rmX5_parts : Room := { frames := 0, cells := 0, slots := 0, locals := 0 }
abbrev xX5_parts : KX := (rmX5_parts, cX5_parts, 1, some .int, RX5, wsX5_parts)
theorem hySX5_parts : yX5_parts.cls ≠ "java/lang/invoke/MethodHandle" ∧ yX5_parts.cls ≠ "java/lang/invoke/VarHandle" ∧ (parseMethodDescriptor yX5_parts.desc).map (fun d => d.parameters.length) = some 0 := by decide +kernel
theorem hyVX5_parts : yX5_parts.cls = RX5 ∧ yX5_parts.cls ≠ "java/lang/invoke/MethodHandle" ∧ yX5_parts.cls ≠ "java/lang/invoke/VarHandle" ∧ (parseMethodDescriptor yX5_parts.desc).map (fun d => d.parameters.length) = some 0 := ⟨rfl, hySX5_parts⟩
theorem qX5_parts_wX5 : ∀ w ∈ u_ws RX5 TX5 9, w ∈ wsX5_parts := by decide +kernel
theorem qX5_parts_f45 : Cond.fieldLink RX5 45 "KindParser" "tree" "LKindParser$Tree;" ∈ wsX5_parts := by decide +kernel
theorem qX5_parts_wX4 : ∀ w ∈ u_ws RX4 TX4 14, w ∈ wsX5_parts := by decide +kernel
set_option maxHeartbeats 4000000 in
set_option maxRecDepth 100000 in
/-- KindParser.parts -/
theorem c_X5_parts {l : Launch} {D : va_G} {cI cB cJ cZ : ClassId} {ad : Nat → Nat} (ws : va_W) (z : Nat) {k_length : Int32} {k_repaired : Int32} {k_spent : Int32} {t_waiting : Int32} {t_size : Int32} {t_skipped : Int32} (E : ws[0]? = some (ad 0, .inr (5, [.ref (ad 1), .ref (ad 8), .int k_length, .ref (ad 9), .ref (ad 17), .ref (ad 22), .ref (ad 32), .int k_repaired, .int k_spent])) ∧ ws[22]? = some (ad 22, .inr (4, [.ref (ad 1), .ref (ad 17), .ref (ad 23), .ref (ad 24), .ref (ad 25), .ref (ad 26), .ref (ad 27), .ref (ad 28), .ref (ad 29), .ref (ad 30), .ref (ad 31), .int t_waiting, .int t_size, .int t_skipped])))   {o : Int32} (h : f_X5_parts t_size = some o) : Met l yX5_parts wsX5_parts rmX5_parts (kPc D (kT cI cB cJ cZ) [.ref (ad 0)] ws z) (kQi D (kT cI cB cJ cZ) o [] ws z) 0 0 (va_A ws z) := by
  refine KW.met (rm := rmX5_parts) (lv := [(0, .ref (ad 0))]) (L := []) rfl (by decide) (Nat.le_of_ble_eq_true rfl) rfl (fun q hq => by cases hq) ?_
  unfold f_X5_parts at h
  show KW l xX5_parts D (kT cI cB cJ cZ) ws z (kQi D (kT cI cB cJ cZ) o [] ws z) 0 [(0, .ref (ad 0))] [] []
  refine k_aload_n dX5_parts_0 0 rfl rfl ?_
  refine k_get 0 5 E.1 rfl qX5_parts_wX5 (by decide) qX5_parts_f45 rfl dX5_parts_1 ?_
  refine k_getN 22 12 E.2 rfl qX5_parts_wX4 (by decide) (host := "KindParser") (by decide +kernel) rfl dX5_parts_4 ?_
  obtain rfl := Option.some.inj h
  exact k_iret rfl dX5_parts_7
abbrev rmX5_grounded : Room := { frames := 2, cells := 0, slots := 0, locals := 41 }
abbrev xX5_grounded : KX := (rmX5_grounded, cX5_grounded, 2, some .boolean, RX5, wsX5_grounded)
theorem hySX5_grounded : yX5_grounded.cls ≠ "java/lang/invoke/MethodHandle" ∧ yX5_grounded.cls ≠ "java/lang/invoke/VarHandle" ∧ (parseMethodDescriptor yX5_grounded.desc).map (fun d => d.parameters.length) = some 1 := by decide +kernel
theorem hyVX5_grounded : yX5_grounded.cls = RX5 ∧ yX5_grounded.cls ≠ "java/lang/invoke/MethodHandle" ∧ yX5_grounded.cls ≠ "java/lang/invoke/VarHandle" ∧ (parseMethodDescriptor yX5_grounded.desc).map (fun d => d.parameters.length) = some 1 := ⟨rfl, hySX5_grounded⟩
theorem qX5_grounded_wX5 : ∀ w ∈ u_ws RX5 TX5 9, w ∈ wsX5_grounded := by decide +kernel
theorem qX5_grounded_f12 : Cond.fieldLink RX5 12 "KindParser" "grammar" "LKindParser$Grammar;" ∈ wsX5_grounded := by decide +kernel
set_option maxHeartbeats 4000000 in
set_option maxRecDepth 100000 in
/-- KindParser.grounded -/
theorem c_X5_grounded {l : Launch} {D : va_G} {cI cB cJ cZ : ClassId} {ad : Nat → Nat} (ws : va_W) (z : Nat) {k_length : Int32} {k_repaired : Int32} {k_spent : Int32} {g_size : Int32} {g_ground : Nat → Int32} (E : ws[0]? = some (ad 0, .inr (5, [.ref (ad 1), .ref (ad 8), .int k_length, .ref (ad 9), .ref (ad 17), .ref (ad 22), .ref (ad 32), .int k_repaired, .int k_spent])) ∧ ws[1]? = some (ad 1, .inr (2, [.ref (ad 2), .ref (ad 3), .ref (ad 4), .ref (ad 5), .ref (ad 6), .ref (ad 7), .int g_size])) ∧ ws[7]? = some (ad 7, .inl (cZ, 6, .inl g_ground)))  {a1 : Int32} {o : Int32} (h : f_X5_grounded a1 g_ground = some o) : Met l yX5_grounded wsX5_grounded rmX5_grounded (kPc D (kT cI cB cJ cZ) [.ref (ad 0), .int a1] ws z) (kQi D (kT cI cB cJ cZ) o [] ws z) 0 0 (va_A ws z) := by
  refine KW.met (rm := rmX5_grounded) (lv := [(0, .ref (ad 0)), (1, .int a1)]) (L := []) rfl (by decide) (Nat.le_of_ble_eq_true rfl) rfl (fun q hq => by cases hq) ?_
  unfold f_X5_grounded at h
  show KW l xX5_grounded D (kT cI cB cJ cZ) ws z (kQi D (kT cI cB cJ cZ) o [] ws z) 0 [(0, .ref (ad 0)), (1, .int a1)] [] []
  refine k_aload_n dX5_grounded_0 0 rfl rfl ?_
  refine k_get 0 0 E.1 rfl qX5_grounded_wX5 (by decide) qX5_grounded_f12 rfl dX5_grounded_1 ?_
  refine k_iload_n dX5_grounded_4 1 rfl rfl ?_
  obtain ⟨r1, hr1, h⟩ := Option.bind_eq_some_iff.mp h
  refine k_calliV (As := [.int a1]) (st := []) (Lc := []) (L' := []) (r := r1) gX5_grounded_X2_hasGround rfl rfl rfl hyVX2_hasGround ⟨Nat.le_of_ble_eq_true rfl, Nat.le_of_ble_eq_true rfl⟩ rfl rfl (Nat.le_of_ble_eq_true rfl) 1 E.2.1 rfl dX5_grounded_5 (fun w z hw => c_X2_hasGround (cI := cI) (cB := cB) (cJ := cJ) (cZ := cZ) (ad := ad) w z ⟨((hw 1).trans E.2.1), ((hw 7).trans E.2.2)⟩  hr1) rfl rfl ?_
  obtain ⟨hz, h⟩ := zc_some h
  obtain rfl := Option.some.inj h
  exact k_zret rfl hz dX5_grounded_8
