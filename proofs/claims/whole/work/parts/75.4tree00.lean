abbrev rmX4_cell : Room := { frames := 0, cells := 0, slots := 0, locals := 0 }
abbrev xX4_cell : KX := (rmX4_cell, cX4_cell, 3, some .int, RX4, wsX4_cell)
theorem hySX4_cell : yX4_cell.cls ≠ "java/lang/invoke/MethodHandle" ∧ yX4_cell.cls ≠ "java/lang/invoke/VarHandle" ∧ (parseMethodDescriptor yX4_cell.desc).map (fun d => d.parameters.length) = some 2 := by decide +kernel
theorem hyVX4_cell : yX4_cell.cls = RX4 ∧ yX4_cell.cls ≠ "java/lang/invoke/MethodHandle" ∧ yX4_cell.cls ≠ "java/lang/invoke/VarHandle" ∧ (parseMethodDescriptor yX4_cell.desc).map (fun d => d.parameters.length) = some 2 := ⟨rfl, hySX4_cell⟩
theorem qX4_cell_wX4 : ∀ w ∈ u_ws RX4 TX4 14, w ∈ wsX4_cell := by decide +kernel
theorem qX4_cell_f11 : Cond.fieldLink RX4 11 "KindParser$Tree" "cells" "[I" ∈ wsX4_cell := by decide +kernel
set_option maxHeartbeats 4000000 in
set_option maxRecDepth 100000 in
/-- KindParser$Tree.cell -/
theorem c_X4_cell {l : Launch} {D : va_G} {cI cB cJ cZ : ClassId} {ad : Nat → Nat} (ws : va_W) (z : Nat) {t_waiting : Int32} {t_size : Int32} {t_skipped : Int32} {t_cells : Nat → Int32} (E : ws[22]? = some (ad 22, .inr (4, [.ref (ad 1), .ref (ad 17), .ref (ad 23), .ref (ad 24), .ref (ad 25), .ref (ad 26), .ref (ad 27), .ref (ad 28), .ref (ad 29), .ref (ad 30), .ref (ad 31), .int t_waiting, .int t_size, .int t_skipped])) ∧ ws[23]? = some (ad 23, .inl (cI, 1050, .inl t_cells)))  {a1 : Int32} {a2 : Int32} {o : Int32} (h : f_X4_cell a1 a2 t_cells = some o) : Met l yX4_cell wsX4_cell rmX4_cell (kPc D (kT cI cB cJ cZ) [.ref (ad 22), .int a1, .int a2] ws z) (kQi D (kT cI cB cJ cZ) o [] ws z) 0 0 (va_A ws z) := by
  refine KW.met (rm := rmX4_cell) (lv := [(0, .ref (ad 22)), (1, .int a1), (2, .int a2)]) (L := []) rfl (by decide) (Nat.le_of_ble_eq_true rfl) rfl (fun q hq => by cases hq) ?_
  unfold f_X4_cell at h
  show KW l xX4_cell D (kT cI cB cJ cZ) ws z (kQi D (kT cI cB cJ cZ) o [] ws z) 0 [(0, .ref (ad 22)), (1, .int a1), (2, .int a2)] [] []
  refine k_aload_n dX4_cell_0 0 rfl rfl ?_
  refine k_get 22 2 E.1 rfl qX4_cell_wX4 (by decide) qX4_cell_f11 rfl dX4_cell_1 ?_
  refine k_iload_n dX4_cell_4 1 rfl rfl ?_
  refine k_bipush (v := 7) dX4_cell_5 (by decide) ?_
  refine k_imul dX4_cell_7 ?_
  refine k_iload_n dX4_cell_8 2 rfl rfl ?_
  refine k_iadd dX4_cell_9 ?_
  refine k_iald 23 0 E.2 rfl dX4_cell_10 h (fun v1 h => ?_)
  obtain rfl := Option.some.inj h
  exact k_iret rfl dX4_cell_11
abbrev rmX4_isLeaf : Room := { frames := 1, cells := 0, slots := 0, locals := 22 }
abbrev xX4_isLeaf : KX := (rmX4_isLeaf, cX4_isLeaf, 2, some .boolean, RX4, wsX4_isLeaf)
theorem hySX4_isLeaf : yX4_isLeaf.cls ≠ "java/lang/invoke/MethodHandle" ∧ yX4_isLeaf.cls ≠ "java/lang/invoke/VarHandle" ∧ (parseMethodDescriptor yX4_isLeaf.desc).map (fun d => d.parameters.length) = some 1 := by decide +kernel
theorem hyVX4_isLeaf : yX4_isLeaf.cls = RX4 ∧ yX4_isLeaf.cls ≠ "java/lang/invoke/MethodHandle" ∧ yX4_isLeaf.cls ≠ "java/lang/invoke/VarHandle" ∧ (parseMethodDescriptor yX4_isLeaf.desc).map (fun d => d.parameters.length) = some 1 := ⟨rfl, hySX4_isLeaf⟩
set_option maxHeartbeats 4000000 in
set_option maxRecDepth 100000 in
theorem wjn_X4_isLeaf_15 {l : Launch} {D : va_G} {cI cB cJ cZ : ClassId} {ad : Nat → Nat} {ws : va_W} {z : Nat} {t_waiting : Int32} {t_size : Int32} {t_skipped : Int32} {t_cells : Nat → Int32} (E : ws[22]? = some (ad 22, .inr (4, [.ref (ad 1), .ref (ad 17), .ref (ad 23), .ref (ad 24), .ref (ad 25), .ref (ad 26), .ref (ad 27), .ref (ad 28), .ref (ad 29), .ref (ad 30), .ref (ad 31), .int t_waiting, .int t_size, .int t_skipped])) ∧ ws[23]? = some (ad 23, .inl (cI, 1050, .inl t_cells))) {o : Int32}   : ∀ (s0 : Int32), jn_X4_isLeaf_15 t_cells s0 = some o → KW l xX4_isLeaf D (kT cI cB cJ cZ) ws z (kQi D (kT cI cB cJ cZ) o [] ws z) 15 [] [.int s0] [] := by
  intro s0 h
  unfold jn_X4_isLeaf_15 at h
  obtain ⟨hz, h⟩ := zc_some h
  obtain rfl := Option.some.inj h
  exact k_zret rfl hz dX4_isLeaf_15
set_option maxHeartbeats 4000000 in
set_option maxRecDepth 100000 in
/-- KindParser$Tree.isLeaf -/
theorem c_X4_isLeaf {l : Launch} {D : va_G} {cI cB cJ cZ : ClassId} {ad : Nat → Nat} (ws : va_W) (z : Nat) {t_waiting : Int32} {t_size : Int32} {t_skipped : Int32} {t_cells : Nat → Int32} (E : ws[22]? = some (ad 22, .inr (4, [.ref (ad 1), .ref (ad 17), .ref (ad 23), .ref (ad 24), .ref (ad 25), .ref (ad 26), .ref (ad 27), .ref (ad 28), .ref (ad 29), .ref (ad 30), .ref (ad 31), .int t_waiting, .int t_size, .int t_skipped])) ∧ ws[23]? = some (ad 23, .inl (cI, 1050, .inl t_cells)))  {a1 : Int32} {o : Int32} (h : f_X4_isLeaf a1 t_cells = some o) : Met l yX4_isLeaf wsX4_isLeaf rmX4_isLeaf (kPc D (kT cI cB cJ cZ) [.ref (ad 22), .int a1] ws z) (kQi D (kT cI cB cJ cZ) o [] ws z) 0 0 (va_A ws z) := by
  refine KW.met (rm := rmX4_isLeaf) (lv := [(0, .ref (ad 22)), (1, .int a1)]) (L := []) rfl (by decide) (Nat.le_of_ble_eq_true rfl) rfl (fun q hq => by cases hq) ?_
  unfold f_X4_isLeaf at h
  show KW l xX4_isLeaf D (kT cI cB cJ cZ) ws z (kQi D (kT cI cB cJ cZ) o [] ws z) 0 [(0, .ref (ad 22)), (1, .int a1)] [] []
  refine k_aload_n dX4_isLeaf_0 0 rfl rfl ?_
  refine k_iload_n dX4_isLeaf_1 1 rfl rfl ?_
  refine k_iconst (v := 0) dX4_isLeaf_2 (by decide) ?_
  obtain ⟨r1, hr1, h⟩ := Option.bind_eq_some_iff.mp h
  refine k_calliV (As := [.int a1, .int 0]) (st := []) (Lc := []) (L' := []) (r := r1) gX4_isLeaf_X4_cell rfl rfl rfl hyVX4_cell ⟨Nat.le_of_ble_eq_true rfl, Nat.le_of_ble_eq_true rfl⟩ rfl rfl (Nat.le_of_ble_eq_true rfl) 22 E.1 rfl dX4_isLeaf_3 (fun w z hw => c_X4_cell (cI := cI) (cB := cB) (cJ := cJ) (cZ := cZ) (ad := ad) w z ⟨((hw 22).trans E.1), ((hw 23).trans E.2)⟩  hr1) rfl rfl ?_
  refine k_iconst (v := (-1)) dX4_isLeaf_6 (by decide) ?_
  refine k_icmp_ne 14 dX4_isLeaf_7 (by decide) h (fun h => ?_) (fun h => ?_)
  · skip
    refine k_iconst (v := 1) dX4_isLeaf_10 (by decide) ?_
    refine k_goto 15 dX4_isLeaf_11 (by decide) ?_
    refine k_sub [] rfl ?_
    exact wjn_X4_isLeaf_15 (cI := cI) (cB := cB) (cJ := cJ) (cZ := cZ) (ad := ad) E  _ h
  · skip
    refine k_iconst (v := 0) dX4_isLeaf_14 (by decide) ?_
    refine k_sub [] rfl ?_
    exact wjn_X4_isLeaf_15 (cI := cI) (cB := cB) (cJ := cJ) (cZ := cZ) (ad := ad) E  _ h
abbrev rmX4_drop : Room := { frames := 0, cells := 0, slots := 0, locals := 0 }
abbrev xX4_drop : KX := (rmX4_drop, cX4_drop, 1, none, RX4, wsX4_drop)
theorem hySX4_drop : yX4_drop.cls ≠ "java/lang/invoke/MethodHandle" ∧ yX4_drop.cls ≠ "java/lang/invoke/VarHandle" ∧ (parseMethodDescriptor yX4_drop.desc).map (fun d => d.parameters.length) = some 0 := by decide +kernel
theorem hyVX4_drop : yX4_drop.cls = RX4 ∧ yX4_drop.cls ≠ "java/lang/invoke/MethodHandle" ∧ yX4_drop.cls ≠ "java/lang/invoke/VarHandle" ∧ (parseMethodDescriptor yX4_drop.desc).map (fun d => d.parameters.length) = some 0 := ⟨rfl, hySX4_drop⟩
theorem qX4_drop_wX4 : ∀ w ∈ u_ws RX4 TX4 14, w ∈ wsX4_drop := by decide +kernel
theorem qX4_drop_f43 : Cond.fieldLink RX4 43 "KindParser$Tree" "size" "I" ∈ wsX4_drop := by decide +kernel
theorem qX4_drop_f46 : Cond.fieldLink RX4 46 "KindParser$Tree" "skipped" "I" ∈ wsX4_drop := by decide +kernel
set_option maxHeartbeats 4000000 in
set_option maxRecDepth 100000 in
/-- KindParser$Tree.drop -/
theorem c_X4_drop {l : Launch} {D : va_G} {cI cB cJ cZ : ClassId} {ad : Nat → Nat} (ws : va_W) (z : Nat) {t_waiting : Int32} {t_size : Int32} {t_skipped : Int32} (E : True) (e22 : ws[22]? = some (ad 22, .inr (4, [.ref (ad 1), .ref (ad 17), .ref (ad 23), .ref (ad 24), .ref (ad 25), .ref (ad 26), .ref (ad 27), .ref (ad 28), .ref (ad 29), .ref (ad 30), .ref (ad 31), .int t_waiting, .int t_size, .int t_skipped])))  {o : (Int32) × (Int32)} (h : f_X4_drop t_size t_skipped = some o) : Met l yX4_drop wsX4_drop rmX4_drop (kPc D (kT cI cB cJ cZ) [.ref (ad 22)] ws z) (kQv D (kT cI cB cJ cZ) [(22, (ad 22, .inr (4, [.ref (ad 1), .ref (ad 17), .ref (ad 23), .ref (ad 24), .ref (ad 25), .ref (ad 26), .ref (ad 27), .ref (ad 28), .ref (ad 29), .ref (ad 30), .ref (ad 31), .int t_waiting, .int o.1, .int o.2])))] ws z) 0 0 (va_A ws z) := by
  refine KW.met (rm := rmX4_drop) (lv := [(0, .ref (ad 22))]) (L := [(22, (ad 22, .inr (4, [.ref (ad 1), .ref (ad 17), .ref (ad 23), .ref (ad 24), .ref (ad 25), .ref (ad 26), .ref (ad 27), .ref (ad 28), .ref (ad 29), .ref (ad 30), .ref (ad 31), .int t_waiting, .int t_size, .int t_skipped])))]) rfl (by decide) (Nat.le_of_ble_eq_true rfl) rfl (by intro q hq; simp only [List.mem_cons, List.not_mem_nil, or_false] at hq; rcases hq with rfl <;> assumption) ?_
  unfold f_X4_drop at h
  show KW l xX4_drop D (kT cI cB cJ cZ) ws z (kQv D (kT cI cB cJ cZ) [(22, (ad 22, .inr (4, [.ref (ad 1), .ref (ad 17), .ref (ad 23), .ref (ad 24), .ref (ad 25), .ref (ad 26), .ref (ad 27), .ref (ad 28), .ref (ad 29), .ref (ad 30), .ref (ad 31), .int t_waiting, .int o.1, .int o.2])))] ws z) 0 [(0, .ref (ad 22))] [] [(22, (ad 22, .inr (4, [.ref (ad 1), .ref (ad 17), .ref (ad 23), .ref (ad 24), .ref (ad 25), .ref (ad 26), .ref (ad 27), .ref (ad 28), .ref (ad 29), .ref (ad 30), .ref (ad 31), .int t_waiting, .int t_size, .int t_skipped])))]
  refine k_aload_n dX4_drop_0 0 rfl rfl ?_
  refine k_iconst (v := 0) dX4_drop_1 (by decide) ?_
  refine k_put (L' := [(22, (ad 22, .inr (4, [.ref (ad 1), .ref (ad 17), .ref (ad 23), .ref (ad 24), .ref (ad 25), .ref (ad 26), .ref (ad 27), .ref (ad 28), .ref (ad 29), .ref (ad 30), .ref (ad 31), .int t_waiting, .int 0, .int t_skipped])))]) 22 12 rfl rfl qX4_drop_wX4 (by decide) tyX4 tyX4_ok nmX4 rfl qX4_drop_f43 rfl (tyX4_ok 12 (by decide)) rfl rfl (Nat.le_of_ble_eq_true rfl) dX4_drop_2 rfl ?_
  refine k_aload_n dX4_drop_5 0 rfl rfl ?_
  refine k_iconst (v := 0) dX4_drop_6 (by decide) ?_
  refine k_put (L' := [(22, (ad 22, .inr (4, [.ref (ad 1), .ref (ad 17), .ref (ad 23), .ref (ad 24), .ref (ad 25), .ref (ad 26), .ref (ad 27), .ref (ad 28), .ref (ad 29), .ref (ad 30), .ref (ad 31), .int t_waiting, .int 0, .int 0])))]) 22 13 rfl rfl qX4_drop_wX4 (by decide) tyX4 tyX4_ok nmX4 rfl qX4_drop_f46 rfl (tyX4_ok 13 (by decide)) rfl rfl (Nat.le_of_ble_eq_true rfl) dX4_drop_7 rfl ?_
  obtain rfl := Option.some.inj h
  exact k_vret rfl dX4_drop_10
abbrev rmX4_await : Room := { frames := 0, cells := 0, slots := 0, locals := 0 }
abbrev xX4_await : KX := (rmX4_await, cX4_await, 6, some .boolean, RX4, wsX4_await)
theorem hySX4_await : yX4_await.cls ≠ "java/lang/invoke/MethodHandle" ∧ yX4_await.cls ≠ "java/lang/invoke/VarHandle" ∧ (parseMethodDescriptor yX4_await.desc).map (fun d => d.parameters.length) = some 5 := by decide +kernel
theorem hyVX4_await : yX4_await.cls = RX4 ∧ yX4_await.cls ≠ "java/lang/invoke/MethodHandle" ∧ yX4_await.cls ≠ "java/lang/invoke/VarHandle" ∧ (parseMethodDescriptor yX4_await.desc).map (fun d => d.parameters.length) = some 5 := ⟨rfl, hySX4_await⟩
theorem qX4_await_wX4 : ∀ w ∈ u_ws RX4 TX4 14, w ∈ wsX4_await := by decide +kernel
theorem qX4_await_f43 : Cond.fieldLink RX4 43 "KindParser$Tree" "size" "I" ∈ wsX4_await := by decide +kernel
theorem qX4_await_f39 : Cond.fieldLink RX4 39 "KindParser$Tree" "waiting" "I" ∈ wsX4_await := by decide +kernel
theorem qX4_await_f24 : Cond.fieldLink RX4 24 "KindParser$Tree" "waitSymbols" "[I" ∈ wsX4_await := by decide +kernel
theorem qX4_await_f27 : Cond.fieldLink RX4 27 "KindParser$Tree" "waitParents" "[I" ∈ wsX4_await := by decide +kernel
theorem qX4_await_f30 : Cond.fieldLink RX4 30 "KindParser$Tree" "waitFirsts" "[I" ∈ wsX4_await := by decide +kernel
theorem qX4_await_f33 : Cond.fieldLink RX4 33 "KindParser$Tree" "waitEnds" "[I" ∈ wsX4_await := by decide +kernel
theorem qX4_await_f36 : Cond.fieldLink RX4 36 "KindParser$Tree" "waitHints" "[I" ∈ wsX4_await := by decide +kernel
set_option maxHeartbeats 4000000 in
set_option maxRecDepth 100000 in
/-- KindParser$Tree.await -/
theorem c_X4_await {l : Launch} {D : va_G} {cI cB cJ cZ : ClassId} {ad : Nat → Nat} (ws : va_W) (z : Nat) {t_waiting : Int32} {t_size : Int32} {t_skipped : Int32} {t_waitSymbols : Nat → Int32} {t_waitParents : Nat → Int32} {t_waitFirsts : Nat → Int32} {t_waitEnds : Nat → Int32} {t_waitHints : Nat → Int32} (E : True) (e22 : ws[22]? = some (ad 22, .inr (4, [.ref (ad 1), .ref (ad 17), .ref (ad 23), .ref (ad 24), .ref (ad 25), .ref (ad 26), .ref (ad 27), .ref (ad 28), .ref (ad 29), .ref (ad 30), .ref (ad 31), .int t_waiting, .int t_size, .int t_skipped]))) (e27 : ws[27]? = some (ad 27, .inl (cI, 150, .inl t_waitSymbols))) (e28 : ws[28]? = some (ad 28, .inl (cI, 150, .inl t_waitParents))) (e29 : ws[29]? = some (ad 29, .inl (cI, 150, .inl t_waitFirsts))) (e30 : ws[30]? = some (ad 30, .inl (cI, 150, .inl t_waitEnds))) (e31 : ws[31]? = some (ad 31, .inl (cI, 150, .inl t_waitHints))) {a1 : Int32} {a2 : Int32} {a3 : Int32} {a4 : Int32} {a5 : Int32} {o : Int32 × (Int32) × (Nat → Int32) × (Nat → Int32) × (Nat → Int32) × (Nat → Int32) × (Nat → Int32)} (h : f_X4_await a1 a2 a3 a4 a5 t_size t_waiting t_waitSymbols t_waitParents t_waitFirsts t_waitEnds t_waitHints = some o) : Met l yX4_await wsX4_await rmX4_await (kPc D (kT cI cB cJ cZ) [.ref (ad 22), .int a1, .int a2, .int a3, .int a4, .int a5] ws z) (kQi D (kT cI cB cJ cZ) o.1 [(22, (ad 22, .inr (4, [.ref (ad 1), .ref (ad 17), .ref (ad 23), .ref (ad 24), .ref (ad 25), .ref (ad 26), .ref (ad 27), .ref (ad 28), .ref (ad 29), .ref (ad 30), .ref (ad 31), .int o.2.1, .int t_size, .int t_skipped]))), (27, (ad 27, .inl (cI, 150, .inl o.2.2.1))), (28, (ad 28, .inl (cI, 150, .inl o.2.2.2.1))), (29, (ad 29, .inl (cI, 150, .inl o.2.2.2.2.1))), (30, (ad 30, .inl (cI, 150, .inl o.2.2.2.2.2.1))), (31, (ad 31, .inl (cI, 150, .inl o.2.2.2.2.2.2)))] ws z) 0 0 (va_A ws z) := by
  refine KW.met (rm := rmX4_await) (lv := [(0, .ref (ad 22)), (1, .int a1), (2, .int a2), (3, .int a3), (4, .int a4), (5, .int a5)]) (L := [(22, (ad 22, .inr (4, [.ref (ad 1), .ref (ad 17), .ref (ad 23), .ref (ad 24), .ref (ad 25), .ref (ad 26), .ref (ad 27), .ref (ad 28), .ref (ad 29), .ref (ad 30), .ref (ad 31), .int t_waiting, .int t_size, .int t_skipped]))), (27, (ad 27, .inl (cI, 150, .inl t_waitSymbols))), (28, (ad 28, .inl (cI, 150, .inl t_waitParents))), (29, (ad 29, .inl (cI, 150, .inl t_waitFirsts))), (30, (ad 30, .inl (cI, 150, .inl t_waitEnds))), (31, (ad 31, .inl (cI, 150, .inl t_waitHints)))]) rfl (by decide) (Nat.le_of_ble_eq_true rfl) rfl (by intro q hq; simp only [List.mem_cons, List.not_mem_nil, or_false] at hq; rcases hq with rfl | rfl | rfl | rfl | rfl | rfl <;> assumption) ?_
  unfold f_X4_await at h
  show KW l xX4_await D (kT cI cB cJ cZ) ws z (kQi D (kT cI cB cJ cZ) o.1 [(22, (ad 22, .inr (4, [.ref (ad 1), .ref (ad 17), .ref (ad 23), .ref (ad 24), .ref (ad 25), .ref (ad 26), .ref (ad 27), .ref (ad 28), .ref (ad 29), .ref (ad 30), .ref (ad 31), .int o.2.1, .int t_size, .int t_skipped]))), (27, (ad 27, .inl (cI, 150, .inl o.2.2.1))), (28, (ad 28, .inl (cI, 150, .inl o.2.2.2.1))), (29, (ad 29, .inl (cI, 150, .inl o.2.2.2.2.1))), (30, (ad 30, .inl (cI, 150, .inl o.2.2.2.2.2.1))), (31, (ad 31, .inl (cI, 150, .inl o.2.2.2.2.2.2)))] ws z) 0 [(0, .ref (ad 22)), (1, .int a1), (2, .int a2), (3, .int a3), (4, .int a4), (5, .int a5)] [] [(22, (ad 22, .inr (4, [.ref (ad 1), .ref (ad 17), .ref (ad 23), .ref (ad 24), .ref (ad 25), .ref (ad 26), .ref (ad 27), .ref (ad 28), .ref (ad 29), .ref (ad 30), .ref (ad 31), .int t_waiting, .int t_size, .int t_skipped]))), (27, (ad 27, .inl (cI, 150, .inl t_waitSymbols))), (28, (ad 28, .inl (cI, 150, .inl t_waitParents))), (29, (ad 29, .inl (cI, 150, .inl t_waitFirsts))), (30, (ad 30, .inl (cI, 150, .inl t_waitEnds))), (31, (ad 31, .inl (cI, 150, .inl t_waitHints)))]
  refine k_aload_n dX4_await_0 0 rfl rfl ?_
  refine k_get 22 12 rfl rfl qX4_await_wX4 (by decide) qX4_await_f43 rfl dX4_await_1 ?_
  refine k_aload_n dX4_await_4 0 rfl rfl ?_
  refine k_get 22 11 rfl rfl qX4_await_wX4 (by decide) qX4_await_f39 rfl dX4_await_5 ?_
  refine k_iadd dX4_await_8 ?_
  refine k_sipush (v := 150) dX4_await_9 (by decide) ?_
  refine k_icmp_lt 17 dX4_await_12 (by decide) h (fun h => ?_) (fun h => ?_)
  · skip
    refine k_aload_n dX4_await_17 0 rfl rfl ?_
    refine k_get 22 6 rfl rfl qX4_await_wX4 (by decide) qX4_await_f24 rfl dX4_await_18 ?_
    refine k_aload_n dX4_await_21 0 rfl rfl ?_
    refine k_get 22 11 rfl rfl qX4_await_wX4 (by decide) qX4_await_f39 rfl dX4_await_22 ?_
    refine k_iload_n dX4_await_25 1 rfl rfl ?_
    refine k_iast (L' := fun f => [(22, (ad 22, .inr (4, [.ref (ad 1), .ref (ad 17), .ref (ad 23), .ref (ad 24), .ref (ad 25), .ref (ad 26), .ref (ad 27), .ref (ad 28), .ref (ad 29), .ref (ad 30), .ref (ad 31), .int t_waiting, .int t_size, .int t_skipped]))), (27, (ad 27, .inl (cI, 150, .inl f))), (28, (ad 28, .inl (cI, 150, .inl t_waitParents))), (29, (ad 29, .inl (cI, 150, .inl t_waitFirsts))), (30, (ad 30, .inl (cI, 150, .inl t_waitEnds))), (31, (ad 31, .inl (cI, 150, .inl t_waitHints)))]) 27 0 rfl rfl rfl dX4_await_26 h (fun _ => rfl) (fun t_waitSymbols_1 h => ?_)
    refine k_aload_n dX4_await_27 0 rfl rfl ?_
    refine k_get 22 7 rfl rfl qX4_await_wX4 (by decide) qX4_await_f27 rfl dX4_await_28 ?_
    refine k_aload_n dX4_await_31 0 rfl rfl ?_
    refine k_get 22 11 rfl rfl qX4_await_wX4 (by decide) qX4_await_f39 rfl dX4_await_32 ?_
    refine k_iload_n dX4_await_35 2 rfl rfl ?_
    refine k_iast (L' := fun f => [(22, (ad 22, .inr (4, [.ref (ad 1), .ref (ad 17), .ref (ad 23), .ref (ad 24), .ref (ad 25), .ref (ad 26), .ref (ad 27), .ref (ad 28), .ref (ad 29), .ref (ad 30), .ref (ad 31), .int t_waiting, .int t_size, .int t_skipped]))), (27, (ad 27, .inl (cI, 150, .inl t_waitSymbols_1))), (28, (ad 28, .inl (cI, 150, .inl f))), (29, (ad 29, .inl (cI, 150, .inl t_waitFirsts))), (30, (ad 30, .inl (cI, 150, .inl t_waitEnds))), (31, (ad 31, .inl (cI, 150, .inl t_waitHints)))]) 28 0 rfl rfl rfl dX4_await_36 h (fun _ => rfl) (fun t_waitParents_2 h => ?_)
    refine k_aload_n dX4_await_37 0 rfl rfl ?_
    refine k_get 22 8 rfl rfl qX4_await_wX4 (by decide) qX4_await_f30 rfl dX4_await_38 ?_
    refine k_aload_n dX4_await_41 0 rfl rfl ?_
    refine k_get 22 11 rfl rfl qX4_await_wX4 (by decide) qX4_await_f39 rfl dX4_await_42 ?_
    refine k_iload_n dX4_await_45 3 rfl rfl ?_
    refine k_iast (L' := fun f => [(22, (ad 22, .inr (4, [.ref (ad 1), .ref (ad 17), .ref (ad 23), .ref (ad 24), .ref (ad 25), .ref (ad 26), .ref (ad 27), .ref (ad 28), .ref (ad 29), .ref (ad 30), .ref (ad 31), .int t_waiting, .int t_size, .int t_skipped]))), (27, (ad 27, .inl (cI, 150, .inl t_waitSymbols_1))), (28, (ad 28, .inl (cI, 150, .inl t_waitParents_2))), (29, (ad 29, .inl (cI, 150, .inl f))), (30, (ad 30, .inl (cI, 150, .inl t_waitEnds))), (31, (ad 31, .inl (cI, 150, .inl t_waitHints)))]) 29 0 rfl rfl rfl dX4_await_46 h (fun _ => rfl) (fun t_waitFirsts_3 h => ?_)
    refine k_aload_n dX4_await_47 0 rfl rfl ?_
    refine k_get 22 9 rfl rfl qX4_await_wX4 (by decide) qX4_await_f33 rfl dX4_await_48 ?_
    refine k_aload_n dX4_await_51 0 rfl rfl ?_
    refine k_get 22 11 rfl rfl qX4_await_wX4 (by decide) qX4_await_f39 rfl dX4_await_52 ?_
    refine k_iload dX4_await_55 4 rfl ?_
    refine k_iast (L' := fun f => [(22, (ad 22, .inr (4, [.ref (ad 1), .ref (ad 17), .ref (ad 23), .ref (ad 24), .ref (ad 25), .ref (ad 26), .ref (ad 27), .ref (ad 28), .ref (ad 29), .ref (ad 30), .ref (ad 31), .int t_waiting, .int t_size, .int t_skipped]))), (27, (ad 27, .inl (cI, 150, .inl t_waitSymbols_1))), (28, (ad 28, .inl (cI, 150, .inl t_waitParents_2))), (29, (ad 29, .inl (cI, 150, .inl t_waitFirsts_3))), (30, (ad 30, .inl (cI, 150, .inl f))), (31, (ad 31, .inl (cI, 150, .inl t_waitHints)))]) 30 0 rfl rfl rfl dX4_await_57 h (fun _ => rfl) (fun t_waitEnds_4 h => ?_)
    refine k_aload_n dX4_await_58 0 rfl rfl ?_
    refine k_get 22 10 rfl rfl qX4_await_wX4 (by decide) qX4_await_f36 rfl dX4_await_59 ?_
    refine k_aload_n dX4_await_62 0 rfl rfl ?_
    refine k_get 22 11 rfl rfl qX4_await_wX4 (by decide) qX4_await_f39 rfl dX4_await_63 ?_
    refine k_iload dX4_await_66 5 rfl ?_
    refine k_iast (L' := fun f => [(22, (ad 22, .inr (4, [.ref (ad 1), .ref (ad 17), .ref (ad 23), .ref (ad 24), .ref (ad 25), .ref (ad 26), .ref (ad 27), .ref (ad 28), .ref (ad 29), .ref (ad 30), .ref (ad 31), .int t_waiting, .int t_size, .int t_skipped]))), (27, (ad 27, .inl (cI, 150, .inl t_waitSymbols_1))), (28, (ad 28, .inl (cI, 150, .inl t_waitParents_2))), (29, (ad 29, .inl (cI, 150, .inl t_waitFirsts_3))), (30, (ad 30, .inl (cI, 150, .inl t_waitEnds_4))), (31, (ad 31, .inl (cI, 150, .inl f)))]) 31 0 rfl rfl rfl dX4_await_68 h (fun _ => rfl) (fun t_waitHints_5 h => ?_)
    refine k_aload_n dX4_await_69 0 rfl rfl ?_
    refine k_dup dX4_await_70 rfl ?_
    refine k_get 22 11 rfl rfl qX4_await_wX4 (by decide) qX4_await_f39 rfl dX4_await_71 ?_
    refine k_iconst (v := 1) dX4_await_74 (by decide) ?_
    refine k_iadd dX4_await_75 ?_
    refine k_put (L' := [(22, (ad 22, .inr (4, [.ref (ad 1), .ref (ad 17), .ref (ad 23), .ref (ad 24), .ref (ad 25), .ref (ad 26), .ref (ad 27), .ref (ad 28), .ref (ad 29), .ref (ad 30), .ref (ad 31), .int (t_waiting + 1), .int t_size, .int t_skipped]))), (27, (ad 27, .inl (cI, 150, .inl t_waitSymbols_1))), (28, (ad 28, .inl (cI, 150, .inl t_waitParents_2))), (29, (ad 29, .inl (cI, 150, .inl t_waitFirsts_3))), (30, (ad 30, .inl (cI, 150, .inl t_waitEnds_4))), (31, (ad 31, .inl (cI, 150, .inl t_waitHints_5)))]) 22 11 rfl rfl qX4_await_wX4 (by decide) tyX4 tyX4_ok nmX4 rfl qX4_await_f39 rfl (tyX4_ok 11 (by decide)) rfl rfl (Nat.le_of_ble_eq_true rfl) dX4_await_76 rfl ?_
    refine k_iconst (v := 1) dX4_await_79 (by decide) ?_
    obtain ⟨hz, h⟩ := zc_some h
    obtain rfl := Option.some.inj h
    exact k_zret rfl hz dX4_await_80
  · skip
    refine k_iconst (v := 0) dX4_await_15 (by decide) ?_
    obtain ⟨hz, h⟩ := zc_some h
    obtain rfl := Option.some.inj h
    exact k_zret rfl hz dX4_await_16
abbrev rmX4_placeNode : Room := { frames := 3, cells := 0, slots := 0, locals := 84 }
abbrev xX4_placeNode : KX := (rmX4_placeNode, cX4_placeNode, 11, some .boolean, RX4, wsX4_placeNode)
theorem hySX4_placeNode : yX4_placeNode.cls ≠ "java/lang/invoke/MethodHandle" ∧ yX4_placeNode.cls ≠ "java/lang/invoke/VarHandle" ∧ (parseMethodDescriptor yX4_placeNode.desc).map (fun d => d.parameters.length) = some 4 := by decide +kernel
theorem hyVX4_placeNode : yX4_placeNode.cls = RX4 ∧ yX4_placeNode.cls ≠ "java/lang/invoke/MethodHandle" ∧ yX4_placeNode.cls ≠ "java/lang/invoke/VarHandle" ∧ (parseMethodDescriptor yX4_placeNode.desc).map (fun d => d.parameters.length) = some 4 := ⟨rfl, hySX4_placeNode⟩
theorem qX4_placeNode_wX4 : ∀ w ∈ u_ws RX4 TX4 14, w ∈ wsX4_placeNode := by decide +kernel
theorem qX4_placeNode_f53 : Cond.fieldLink RX4 53 "KindParser$Tree" "chart" "LKindParser$Chart;" ∈ wsX4_placeNode := by decide +kernel
theorem qX4_placeNode_f18 : Cond.fieldLink RX4 18 "KindParser$Tree" "within" "[I" ∈ wsX4_placeNode := by decide +kernel
theorem qX4_placeNode_f49 : Cond.fieldLink RX4 49 "KindParser$Tree" "grammar" "LKindParser$Grammar;" ∈ wsX4_placeNode := by decide +kernel
theorem qX4_placeNode_wX2 : ∀ w ∈ u_ws RX2 TX2 7, w ∈ wsX4_placeNode := by decide +kernel
theorem qX4_placeNode_f11 : Cond.fieldLink RX4 11 "KindParser$Tree" "cells" "[I" ∈ wsX4_placeNode := by decide +kernel
theorem qX4_placeNode_f21 : Cond.fieldLink RX4 21 "KindParser$Tree" "begins" "[I" ∈ wsX4_placeNode := by decide +kernel
set_option maxHeartbeats 4000000 in
set_option maxRecDepth 100000 in
theorem wjn_X4_placeNode_30 {l : Launch} {D : va_G} {cI cB cJ cZ : ClassId} {ad : Nat → Nat} {ws : va_W} {z : Nat} {g_size : Int32} {g_lengths : Nat → Int32} {g_symbols : Nat → Int32} {g_hints : Nat → Int32} {h_prices : Nat → Int64} {h_choices : Nat → Int32} {t_size : Int32} {t_skipped : Int32} {t_within : Nat → Int32} (E : ws[1]? = some (ad 1, .inr (2, [.ref (ad 2), .ref (ad 3), .ref (ad 4), .ref (ad 5), .ref (ad 6), .ref (ad 7), .int g_size])) ∧ ws[3]? = some (ad 3, .inl (cI, 20, .inl g_lengths)) ∧ ws[4]? = some (ad 4, .inl (cI, 100, .inl g_symbols)) ∧ ws[5]? = some (ad 5, .inl (cI, 100, .inl g_hints)) ∧ ws[17]? = some (ad 17, .inr (0, [.ref (ad 1), .ref (ad 9), .ref (ad 18), .ref (ad 19), .ref (ad 20), .ref (ad 21)])) ∧ ws[18]? = some (ad 18, .inl (cJ, 4046, .inr (.inl h_prices))) ∧ ws[19]? = some (ad 19, .inl (cB, 1734, .inl h_choices)) ∧ ws[25]? = some (ad 25, .inl (cI, 150, .inl t_within))) {o : Int32 × (Nat → Int64) × (Int32) × (Nat → Int32) × (Nat → Int32) × (Nat → Int32) × (Nat → Int32) × (Nat → Int32) × (Nat → Int32) × (Nat → Int32)}   : ∀ (h_traced : Nat → Int64) (t_waiting : Int32) (t_cells : Nat → Int32) (t_begins : Nat → Int32) (t_waitSymbols : Nat → Int32) (t_waitParents : Nat → Int32) (t_waitFirsts : Nat → Int32) (t_waitEnds : Nat → Int32) (t_waitHints : Nat → Int32), jn_X4_placeNode_30 g_lengths g_symbols g_hints h_prices h_choices t_size t_within h_traced t_waiting t_cells t_begins t_waitSymbols t_waitParents t_waitFirsts t_waitEnds t_waitHints = some o → KW l xX4_placeNode D (kT cI cB cJ cZ) ws z (kQi D (kT cI cB cJ cZ) o.1 [(21, (ad 21, .inl (cJ, 102, .inr (.inl o.2.1)))), (22, (ad 22, .inr (4, [.ref (ad 1), .ref (ad 17), .ref (ad 23), .ref (ad 24), .ref (ad 25), .ref (ad 26), .ref (ad 27), .ref (ad 28), .ref (ad 29), .ref (ad 30), .ref (ad 31), .int o.2.2.1, .int t_size, .int t_skipped]))), (23, (ad 23, .inl (cI, 1050, .inl o.2.2.2.1))), (26, (ad 26, .inl (cI, 5, .inl o.2.2.2.2.1))), (27, (ad 27, .inl (cI, 150, .inl o.2.2.2.2.2.1))), (28, (ad 28, .inl (cI, 150, .inl o.2.2.2.2.2.2.1))), (29, (ad 29, .inl (cI, 150, .inl o.2.2.2.2.2.2.2.1))), (30, (ad 30, .inl (cI, 150, .inl o.2.2.2.2.2.2.2.2.1))), (31, (ad 31, .inl (cI, 150, .inl o.2.2.2.2.2.2.2.2.2)))] ws z) 30 [] [] [(21, (ad 21, .inl (cJ, 102, .inr (.inl h_traced)))), (22, (ad 22, .inr (4, [.ref (ad 1), .ref (ad 17), .ref (ad 23), .ref (ad 24), .ref (ad 25), .ref (ad 26), .ref (ad 27), .ref (ad 28), .ref (ad 29), .ref (ad 30), .ref (ad 31), .int t_waiting, .int t_size, .int t_skipped]))), (23, (ad 23, .inl (cI, 1050, .inl t_cells))), (26, (ad 26, .inl (cI, 5, .inl t_begins))), (27, (ad 27, .inl (cI, 150, .inl t_waitSymbols))), (28, (ad 28, .inl (cI, 150, .inl t_waitParents))), (29, (ad 29, .inl (cI, 150, .inl t_waitFirsts))), (30, (ad 30, .inl (cI, 150, .inl t_waitEnds))), (31, (ad 31, .inl (cI, 150, .inl t_waitHints)))] := by
  intro h_traced t_waiting t_cells t_begins t_waitSymbols t_waitParents t_waitFirsts t_waitEnds t_waitHints h
  unfold jn_X4_placeNode_30 at h
  refine k_iconst (v := 0) dX4_placeNode_30 (by decide) ?_
  obtain ⟨hz, h⟩ := zc_some h
  obtain rfl := Option.some.inj h
  exact k_zret rfl hz dX4_placeNode_31
set_option maxHeartbeats 4000000 in
set_option maxRecDepth 100000 in
theorem wlp_X4_placeNode_100 {l : Launch} {D : va_G} {cI cB cJ cZ : ClassId} {ad : Nat → Nat} {ws : va_W} {z : Nat} {g_size : Int32} {g_lengths : Nat → Int32} {g_symbols : Nat → Int32} {g_hints : Nat → Int32} {h_prices : Nat → Int64} {h_choices : Nat → Int32} {t_size : Int32} {t_skipped : Int32} {t_within : Nat → Int32} (E : ws[1]? = some (ad 1, .inr (2, [.ref (ad 2), .ref (ad 3), .ref (ad 4), .ref (ad 5), .ref (ad 6), .ref (ad 7), .int g_size])) ∧ ws[3]? = some (ad 3, .inl (cI, 20, .inl g_lengths)) ∧ ws[4]? = some (ad 4, .inl (cI, 100, .inl g_symbols)) ∧ ws[5]? = some (ad 5, .inl (cI, 100, .inl g_hints)) ∧ ws[17]? = some (ad 17, .inr (0, [.ref (ad 1), .ref (ad 9), .ref (ad 18), .ref (ad 19), .ref (ad 20), .ref (ad 21)])) ∧ ws[18]? = some (ad 18, .inl (cJ, 4046, .inr (.inl h_prices))) ∧ ws[19]? = some (ad 19, .inl (cB, 1734, .inl h_choices)) ∧ ws[25]? = some (ad 25, .inl (cI, 150, .inl t_within))) {o : Int32 × (Nat → Int64) × (Int32) × (Nat → Int32) × (Nat → Int32) × (Nat → Int32) × (Nat → Int32) × (Nat → Int32) × (Nat → Int32) × (Nat → Int32)} {k167 : (Int32) → (Nat → Int64) → (Int32) → (Nat → Int32) → (Nat → Int32) → (Nat → Int32) → (Nat → Int32) → (Nat → Int32) → (Nat → Int32) → (Nat → Int32) → Option (Int32 × (Nat → Int64) × (Int32) × (Nat → Int32) × (Nat → Int32) × (Nat → Int32) × (Nat → Int32) × (Nat → Int32) × (Nat → Int32) × (Nat → Int32))} (hk167 : ∀ (x7 : Int32) (h_traced : Nat → Int64) (t_waiting : Int32) (t_cells : Nat → Int32) (t_begins : Nat → Int32) (t_waitSymbols : Nat → Int32) (t_waitParents : Nat → Int32) (t_waitFirsts : Nat → Int32) (t_waitEnds : Nat → Int32) (t_waitHints : Nat → Int32), k167 x7 h_traced t_waiting t_cells t_begins t_waitSymbols t_waitParents t_waitFirsts t_waitEnds t_waitHints = some o → KW l xX4_placeNode D (kT cI cB cJ cZ) ws z (kQi D (kT cI cB cJ cZ) o.1 [(21, (ad 21, .inl (cJ, 102, .inr (.inl o.2.1)))), (22, (ad 22, .inr (4, [.ref (ad 1), .ref (ad 17), .ref (ad 23), .ref (ad 24), .ref (ad 25), .ref (ad 26), .ref (ad 27), .ref (ad 28), .ref (ad 29), .ref (ad 30), .ref (ad 31), .int o.2.2.1, .int t_size, .int t_skipped]))), (23, (ad 23, .inl (cI, 1050, .inl o.2.2.2.1))), (26, (ad 26, .inl (cI, 5, .inl o.2.2.2.2.1))), (27, (ad 27, .inl (cI, 150, .inl o.2.2.2.2.2.1))), (28, (ad 28, .inl (cI, 150, .inl o.2.2.2.2.2.2.1))), (29, (ad 29, .inl (cI, 150, .inl o.2.2.2.2.2.2.2.1))), (30, (ad 30, .inl (cI, 150, .inl o.2.2.2.2.2.2.2.2.1))), (31, (ad 31, .inl (cI, 150, .inl o.2.2.2.2.2.2.2.2.2)))] ws z) 167 [(7, .int x7)] [] [(21, (ad 21, .inl (cJ, 102, .inr (.inl h_traced)))), (22, (ad 22, .inr (4, [.ref (ad 1), .ref (ad 17), .ref (ad 23), .ref (ad 24), .ref (ad 25), .ref (ad 26), .ref (ad 27), .ref (ad 28), .ref (ad 29), .ref (ad 30), .ref (ad 31), .int t_waiting, .int t_size, .int t_skipped]))), (23, (ad 23, .inl (cI, 1050, .inl t_cells))), (26, (ad 26, .inl (cI, 5, .inl t_begins))), (27, (ad 27, .inl (cI, 150, .inl t_waitSymbols))), (28, (ad 28, .inl (cI, 150, .inl t_waitParents))), (29, (ad 29, .inl (cI, 150, .inl t_waitFirsts))), (30, (ad 30, .inl (cI, 150, .inl t_waitEnds))), (31, (ad 31, .inl (cI, 150, .inl t_waitHints)))]) : ∀ (n : Nat) (x1 : Int32) (x5 : Int32) (x7 : Int32) (x8 : Int32) (x9 : Int32) (h_traced : Nat → Int64) (t_waiting : Int32) (t_cells : Nat → Int32) (t_begins : Nat → Int32) (t_waitSymbols : Nat → Int32) (t_waitParents : Nat → Int32) (t_waitFirsts : Nat → Int32) (t_waitEnds : Nat → Int32) (t_waitHints : Nat → Int32), lp_X4_placeNode_100 g_lengths g_symbols g_hints h_prices h_choices t_size t_within k167 n x1 x5 x7 x8 x9 h_traced t_waiting t_cells t_begins t_waitSymbols t_waitParents t_waitFirsts t_waitEnds t_waitHints = some o → KW l xX4_placeNode D (kT cI cB cJ cZ) ws z (kQi D (kT cI cB cJ cZ) o.1 [(21, (ad 21, .inl (cJ, 102, .inr (.inl o.2.1)))), (22, (ad 22, .inr (4, [.ref (ad 1), .ref (ad 17), .ref (ad 23), .ref (ad 24), .ref (ad 25), .ref (ad 26), .ref (ad 27), .ref (ad 28), .ref (ad 29), .ref (ad 30), .ref (ad 31), .int o.2.2.1, .int t_size, .int t_skipped]))), (23, (ad 23, .inl (cI, 1050, .inl o.2.2.2.1))), (26, (ad 26, .inl (cI, 5, .inl o.2.2.2.2.1))), (27, (ad 27, .inl (cI, 150, .inl o.2.2.2.2.2.1))), (28, (ad 28, .inl (cI, 150, .inl o.2.2.2.2.2.2.1))), (29, (ad 29, .inl (cI, 150, .inl o.2.2.2.2.2.2.2.1))), (30, (ad 30, .inl (cI, 150, .inl o.2.2.2.2.2.2.2.2.1))), (31, (ad 31, .inl (cI, 150, .inl o.2.2.2.2.2.2.2.2.2)))] ws z) 100 [(0, .ref (ad 22)), (1, .int x1), (5, .int x5), (7, .int x7), (8, .int x8), (9, .int x9)] [] [(21, (ad 21, .inl (cJ, 102, .inr (.inl h_traced)))), (22, (ad 22, .inr (4, [.ref (ad 1), .ref (ad 17), .ref (ad 23), .ref (ad 24), .ref (ad 25), .ref (ad 26), .ref (ad 27), .ref (ad 28), .ref (ad 29), .ref (ad 30), .ref (ad 31), .int t_waiting, .int t_size, .int t_skipped]))), (23, (ad 23, .inl (cI, 1050, .inl t_cells))), (26, (ad 26, .inl (cI, 5, .inl t_begins))), (27, (ad 27, .inl (cI, 150, .inl t_waitSymbols))), (28, (ad 28, .inl (cI, 150, .inl t_waitParents))), (29, (ad 29, .inl (cI, 150, .inl t_waitFirsts))), (30, (ad 30, .inl (cI, 150, .inl t_waitEnds))), (31, (ad 31, .inl (cI, 150, .inl t_waitHints)))] := by
  intro n
  induction n with
  | zero => intro x1 x5 x7 x8 x9 h_traced t_waiting t_cells t_begins t_waitSymbols t_waitParents t_waitFirsts t_waitEnds t_waitHints h; exact absurd h (by simp [lp_X4_placeNode_100])
  | succ n hk100 =>
    intro x1 x5 x7 x8 x9 h_traced t_waiting t_cells t_begins t_waitSymbols t_waitParents t_waitFirsts t_waitEnds t_waitHints h
    unfold lp_X4_placeNode_100 at h
    refine k_iload dX4_placeNode_100 5 rfl ?_
    refine k_if_lt 167 dX4_placeNode_102 (by decide) h (fun h => ?_) (fun h => ?_)
    · skip
      refine k_sub [3] rfl ?_
      exact hk167 _ _ _ _ _ _ _ _ _ _ h
    · skip
      refine k_iload dX4_placeNode_105 3 rfl ?_
      refine k_if_eq 167 dX4_placeNode_107 (by decide) h (fun h => ?_) (fun h => ?_)
      · skip
        refine k_sub [3] rfl ?_
        exact hk167 _ _ _ _ _ _ _ _ _ _ h
      · skip
        refine k_aload_n dX4_placeNode_110 0 rfl rfl ?_
        refine k_get 22 0 rfl rfl qX4_placeNode_wX4 (by decide) qX4_placeNode_f49 rfl dX4_placeNode_111 ?_
        refine k_iload dX4_placeNode_114 2 rfl ?_
        refine k_iload dX4_placeNode_116 5 rfl ?_
        obtain ⟨r13, hr13, h⟩ := Option.bind_eq_some_iff.mp h
        refine k_calliV (As := [.int x5, .int x9]) (st := []) (Lc := []) (L' := [(21, (ad 21, .inl (cJ, 102, .inr (.inl h_traced)))), (22, (ad 22, .inr (4, [.ref (ad 1), .ref (ad 17), .ref (ad 23), .ref (ad 24), .ref (ad 25), .ref (ad 26), .ref (ad 27), .ref (ad 28), .ref (ad 29), .ref (ad 30), .ref (ad 31), .int t_waiting, .int t_size, .int t_skipped]))), (23, (ad 23, .inl (cI, 1050, .inl t_cells))), (26, (ad 26, .inl (cI, 5, .inl t_begins))), (27, (ad 27, .inl (cI, 150, .inl t_waitSymbols))), (28, (ad 28, .inl (cI, 150, .inl t_waitParents))), (29, (ad 29, .inl (cI, 150, .inl t_waitFirsts))), (30, (ad 30, .inl (cI, 150, .inl t_waitEnds))), (31, (ad 31, .inl (cI, 150, .inl t_waitHints)))]) (r := r13) gX4_placeNode_X2_hintOf rfl rfl rfl hyVX2_hintOf ⟨Nat.le_of_ble_eq_true rfl, Nat.le_of_ble_eq_true rfl⟩ rfl rfl (Nat.le_of_ble_eq_true rfl) 1 E.1 rfl dX4_placeNode_118 (fun w z hw => c_X2_hintOf (cI := cI) (cB := cB) (cJ := cJ) (cZ := cZ) (ad := ad) w z ⟨((hw 1).trans E.1), ((hw 5).trans E.2.2.2.1)⟩  hr13) rfl rfl ?_
        refine k_istore (i := 10) (lv' := fun x => [(10, .int x), (0, .ref (ad 22)), (1, .int x1), (5, .int x5), (7, .int x7), (8, .int x8), (9, .int x9)]) dX4_placeNode_121 (Nat.le_of_ble_eq_true rfl) (fun _ => rfl) h (fun x10_14 h => ?_)
        refine k_aload_n dX4_placeNode_123 1 rfl rfl ?_
        refine k_aload_n dX4_placeNode_124 1 rfl rfl ?_
        refine k_get 22 0 rfl rfl qX4_placeNode_wX4 (by decide) qX4_placeNode_f49 rfl dX4_placeNode_125 ?_
        refine k_iload dX4_placeNode_128 3 rfl ?_
        refine k_iload dX4_placeNode_130 6 rfl ?_
        obtain ⟨r15, hr15, h⟩ := Option.bind_eq_some_iff.mp h
        refine k_calliV (As := [.int x5, .int x9]) (st := [.ref (ad 22)]) (Lc := []) (L' := [(21, (ad 21, .inl (cJ, 102, .inr (.inl h_traced)))), (22, (ad 22, .inr (4, [.ref (ad 1), .ref (ad 17), .ref (ad 23), .ref (ad 24), .ref (ad 25), .ref (ad 26), .ref (ad 27), .ref (ad 28), .ref (ad 29), .ref (ad 30), .ref (ad 31), .int t_waiting, .int t_size, .int t_skipped]))), (23, (ad 23, .inl (cI, 1050, .inl t_cells))), (26, (ad 26, .inl (cI, 5, .inl t_begins))), (27, (ad 27, .inl (cI, 150, .inl t_waitSymbols))), (28, (ad 28, .inl (cI, 150, .inl t_waitParents))), (29, (ad 29, .inl (cI, 150, .inl t_waitFirsts))), (30, (ad 30, .inl (cI, 150, .inl t_waitEnds))), (31, (ad 31, .inl (cI, 150, .inl t_waitHints)))]) (r := r15) gX4_placeNode_X2_symbolOf rfl rfl rfl hyVX2_symbolOf ⟨Nat.le_of_ble_eq_true rfl, Nat.le_of_ble_eq_true rfl⟩ rfl rfl (Nat.le_of_ble_eq_true rfl) 1 E.1 rfl dX4_placeNode_132 (fun w z hw => c_X2_symbolOf (cI := cI) (cB := cB) (cJ := cJ) (cZ := cZ) (ad := ad) w z ⟨((hw 1).trans E.1), ((hw 4).trans E.2.2.1)⟩  hr15) rfl rfl ?_
        refine k_iload_n dX4_placeNode_135 2 rfl rfl ?_
        refine k_aload_n dX4_placeNode_136 1 rfl rfl ?_
        refine k_get 22 5 rfl rfl qX4_placeNode_wX4 (by decide) qX4_placeNode_f21 rfl dX4_placeNode_137 ?_
        refine k_iload dX4_placeNode_140 6 rfl ?_
        refine k_iald 26 0 rfl rfl dX4_placeNode_142 h (fun v16 h => ?_)
        refine k_iload dX4_placeNode_143 5 rfl ?_
        refine k_iload dX4_placeNode_145 0 rfl ?_
        obtain ⟨r17, hr17, h⟩ := Option.bind_eq_some_iff.mp h
        refine k_calliV (As := [.int r15, .int x1, .int v16, .int x8, .int x10_14]) (st := []) (Lc := [(22, (ad 22, .inr (4, [.ref (ad 1), .ref (ad 17), .ref (ad 23), .ref (ad 24), .ref (ad 25), .ref (ad 26), .ref (ad 27), .ref (ad 28), .ref (ad 29), .ref (ad 30), .ref (ad 31), .int r17.2.1, .int t_size, .int t_skipped]))), (27, (ad 27, .inl (cI, 150, .inl r17.2.2.1))), (28, (ad 28, .inl (cI, 150, .inl r17.2.2.2.1))), (29, (ad 29, .inl (cI, 150, .inl r17.2.2.2.2.1))), (30, (ad 30, .inl (cI, 150, .inl r17.2.2.2.2.2.1))), (31, (ad 31, .inl (cI, 150, .inl r17.2.2.2.2.2.2)))]) (L' := [(21, (ad 21, .inl (cJ, 102, .inr (.inl h_traced)))), (22, (ad 22, .inr (4, [.ref (ad 1), .ref (ad 17), .ref (ad 23), .ref (ad 24), .ref (ad 25), .ref (ad 26), .ref (ad 27), .ref (ad 28), .ref (ad 29), .ref (ad 30), .ref (ad 31), .int r17.2.1, .int t_size, .int t_skipped]))), (23, (ad 23, .inl (cI, 1050, .inl t_cells))), (26, (ad 26, .inl (cI, 5, .inl t_begins))), (27, (ad 27, .inl (cI, 150, .inl r17.2.2.1))), (28, (ad 28, .inl (cI, 150, .inl r17.2.2.2.1))), (29, (ad 29, .inl (cI, 150, .inl r17.2.2.2.2.1))), (30, (ad 30, .inl (cI, 150, .inl r17.2.2.2.2.2.1))), (31, (ad 31, .inl (cI, 150, .inl r17.2.2.2.2.2.2)))]) (r := r17.1) gX4_placeNode_X4_await rfl rfl rfl hyVX4_await ⟨Nat.le_of_ble_eq_true rfl, Nat.le_of_ble_eq_true rfl⟩ rfl rfl (Nat.le_of_ble_eq_true rfl) 22 rfl rfl dX4_placeNode_147 (fun w z hw => c_X4_await (cI := cI) (cB := cB) (cJ := cJ) (cZ := cZ) (ad := ad) w z trivial (hw 22) (hw 27) (hw 28) (hw 29) (hw 30) (hw 31) hr17) rfl rfl ?_
        refine k_istore (i := 7) (lv' := fun x => [(7, .int x), (10, .int x10_14), (0, .ref (ad 22)), (1, .int x1), (5, .int x5), (8, .int x8), (9, .int x9)]) dX4_placeNode_150 (Nat.le_of_ble_eq_true rfl) (fun _ => rfl) h (fun x7_18 h => ?_)
        refine k_aload_n dX4_placeNode_152 2 rfl rfl ?_
        refine k_get 22 5 rfl rfl qX4_placeNode_wX4 (by decide) qX4_placeNode_f21 rfl dX4_placeNode_153 ?_
        refine k_iload dX4_placeNode_156 6 rfl ?_
        refine k_iald 26 0 rfl rfl dX4_placeNode_158 h (fun v19 h => ?_)
        refine k_istore (i := 8) (lv' := fun x => [(8, .int x), (7, .int x7_18), (10, .int x10_14), (0, .ref (ad 22)), (1, .int x1), (5, .int x5), (9, .int x9)]) dX4_placeNode_159 (Nat.le_of_ble_eq_true rfl) (fun _ => rfl) h (fun x8_20 h => ?_)
        refine k_iinc (i := 9) (lv' := fun x => [(9, .int x), (8, .int x8_20), (7, .int x7_18), (10, .int x10_14), (0, .ref (ad 22)), (1, .int x1), (5, .int x5)]) dX4_placeNode_161 6 rfl (Nat.le_of_ble_eq_true rfl) (fun _ => rfl) h (fun x9_21 h => ?_)
        refine k_goto 100 dX4_placeNode_164 (by decide) ?_
        refine k_sub [4, 5, 6, 2, 1, 0] rfl ?_
        exact hk100 _ _ _ _ _ _ _ _ _ _ _ _ _ _ h
set_option maxHeartbeats 4000000 in
set_option maxRecDepth 100000 in
theorem wjn_X4_placeNode_167 {l : Launch} {D : va_G} {cI cB cJ cZ : ClassId} {ad : Nat → Nat} {ws : va_W} {z : Nat} {g_size : Int32} {g_lengths : Nat → Int32} {g_symbols : Nat → Int32} {g_hints : Nat → Int32} {h_prices : Nat → Int64} {h_choices : Nat → Int32} {t_size : Int32} {t_skipped : Int32} {t_within : Nat → Int32} (E : ws[1]? = some (ad 1, .inr (2, [.ref (ad 2), .ref (ad 3), .ref (ad 4), .ref (ad 5), .ref (ad 6), .ref (ad 7), .int g_size])) ∧ ws[3]? = some (ad 3, .inl (cI, 20, .inl g_lengths)) ∧ ws[4]? = some (ad 4, .inl (cI, 100, .inl g_symbols)) ∧ ws[5]? = some (ad 5, .inl (cI, 100, .inl g_hints)) ∧ ws[17]? = some (ad 17, .inr (0, [.ref (ad 1), .ref (ad 9), .ref (ad 18), .ref (ad 19), .ref (ad 20), .ref (ad 21)])) ∧ ws[18]? = some (ad 18, .inl (cJ, 4046, .inr (.inl h_prices))) ∧ ws[19]? = some (ad 19, .inl (cB, 1734, .inl h_choices)) ∧ ws[25]? = some (ad 25, .inl (cI, 150, .inl t_within))) {o : Int32 × (Nat → Int64) × (Int32) × (Nat → Int32) × (Nat → Int32) × (Nat → Int32) × (Nat → Int32) × (Nat → Int32) × (Nat → Int32) × (Nat → Int32)}   : ∀ (x7 : Int32) (h_traced : Nat → Int64) (t_waiting : Int32) (t_cells : Nat → Int32) (t_begins : Nat → Int32) (t_waitSymbols : Nat → Int32) (t_waitParents : Nat → Int32) (t_waitFirsts : Nat → Int32) (t_waitEnds : Nat → Int32) (t_waitHints : Nat → Int32), jn_X4_placeNode_167 g_lengths g_symbols g_hints h_prices h_choices t_size t_within x7 h_traced t_waiting t_cells t_begins t_waitSymbols t_waitParents t_waitFirsts t_waitEnds t_waitHints = some o → KW l xX4_placeNode D (kT cI cB cJ cZ) ws z (kQi D (kT cI cB cJ cZ) o.1 [(21, (ad 21, .inl (cJ, 102, .inr (.inl o.2.1)))), (22, (ad 22, .inr (4, [.ref (ad 1), .ref (ad 17), .ref (ad 23), .ref (ad 24), .ref (ad 25), .ref (ad 26), .ref (ad 27), .ref (ad 28), .ref (ad 29), .ref (ad 30), .ref (ad 31), .int o.2.2.1, .int t_size, .int t_skipped]))), (23, (ad 23, .inl (cI, 1050, .inl o.2.2.2.1))), (26, (ad 26, .inl (cI, 5, .inl o.2.2.2.2.1))), (27, (ad 27, .inl (cI, 150, .inl o.2.2.2.2.2.1))), (28, (ad 28, .inl (cI, 150, .inl o.2.2.2.2.2.2.1))), (29, (ad 29, .inl (cI, 150, .inl o.2.2.2.2.2.2.2.1))), (30, (ad 30, .inl (cI, 150, .inl o.2.2.2.2.2.2.2.2.1))), (31, (ad 31, .inl (cI, 150, .inl o.2.2.2.2.2.2.2.2.2)))] ws z) 167 [(7, .int x7)] [] [(21, (ad 21, .inl (cJ, 102, .inr (.inl h_traced)))), (22, (ad 22, .inr (4, [.ref (ad 1), .ref (ad 17), .ref (ad 23), .ref (ad 24), .ref (ad 25), .ref (ad 26), .ref (ad 27), .ref (ad 28), .ref (ad 29), .ref (ad 30), .ref (ad 31), .int t_waiting, .int t_size, .int t_skipped]))), (23, (ad 23, .inl (cI, 1050, .inl t_cells))), (26, (ad 26, .inl (cI, 5, .inl t_begins))), (27, (ad 27, .inl (cI, 150, .inl t_waitSymbols))), (28, (ad 28, .inl (cI, 150, .inl t_waitParents))), (29, (ad 29, .inl (cI, 150, .inl t_waitFirsts))), (30, (ad 30, .inl (cI, 150, .inl t_waitEnds))), (31, (ad 31, .inl (cI, 150, .inl t_waitHints)))] := by
  intro x7 h_traced t_waiting t_cells t_begins t_waitSymbols t_waitParents t_waitFirsts t_waitEnds t_waitHints h
  unfold jn_X4_placeNode_167 at h
  refine k_iload dX4_placeNode_167 0 rfl ?_
  obtain ⟨hz, h⟩ := zc_some h
  obtain rfl := Option.some.inj h
  exact k_zret rfl hz dX4_placeNode_169
set_option maxHeartbeats 4000000 in
set_option maxRecDepth 100000 in
/-- KindParser$Tree.placeNode -/
theorem c_X4_placeNode {l : Launch} {D : va_G} {cI cB cJ cZ : ClassId} {ad : Nat → Nat} (ws : va_W) (z : Nat) {g_size : Int32} {g_lengths : Nat → Int32} {g_symbols : Nat → Int32} {g_hints : Nat → Int32} {h_prices : Nat → Int64} {h_choices : Nat → Int32} {h_traced : Nat → Int64} {t_waiting : Int32} {t_size : Int32} {t_skipped : Int32} {t_cells : Nat → Int32} {t_within : Nat → Int32} {t_begins : Nat → Int32} {t_waitSymbols : Nat → Int32} {t_waitParents : Nat → Int32} {t_waitFirsts : Nat → Int32} {t_waitEnds : Nat → Int32} {t_waitHints : Nat → Int32} (E : ws[1]? = some (ad 1, .inr (2, [.ref (ad 2), .ref (ad 3), .ref (ad 4), .ref (ad 5), .ref (ad 6), .ref (ad 7), .int g_size])) ∧ ws[3]? = some (ad 3, .inl (cI, 20, .inl g_lengths)) ∧ ws[4]? = some (ad 4, .inl (cI, 100, .inl g_symbols)) ∧ ws[5]? = some (ad 5, .inl (cI, 100, .inl g_hints)) ∧ ws[17]? = some (ad 17, .inr (0, [.ref (ad 1), .ref (ad 9), .ref (ad 18), .ref (ad 19), .ref (ad 20), .ref (ad 21)])) ∧ ws[18]? = some (ad 18, .inl (cJ, 4046, .inr (.inl h_prices))) ∧ ws[19]? = some (ad 19, .inl (cB, 1734, .inl h_choices)) ∧ ws[25]? = some (ad 25, .inl (cI, 150, .inl t_within))) (e21 : ws[21]? = some (ad 21, .inl (cJ, 102, .inr (.inl h_traced)))) (e22 : ws[22]? = some (ad 22, .inr (4, [.ref (ad 1), .ref (ad 17), .ref (ad 23), .ref (ad 24), .ref (ad 25), .ref (ad 26), .ref (ad 27), .ref (ad 28), .ref (ad 29), .ref (ad 30), .ref (ad 31), .int t_waiting, .int t_size, .int t_skipped]))) (e23 : ws[23]? = some (ad 23, .inl (cI, 1050, .inl t_cells))) (e26 : ws[26]? = some (ad 26, .inl (cI, 5, .inl t_begins))) (e27 : ws[27]? = some (ad 27, .inl (cI, 150, .inl t_waitSymbols))) (e28 : ws[28]? = some (ad 28, .inl (cI, 150, .inl t_waitParents))) (e29 : ws[29]? = some (ad 29, .inl (cI, 150, .inl t_waitFirsts))) (e30 : ws[30]? = some (ad 30, .inl (cI, 150, .inl t_waitEnds))) (e31 : ws[31]? = some (ad 31, .inl (cI, 150, .inl t_waitHints))) {a1 : Int32} {a2 : Int32} {a3 : Int32} {a4 : Int32} {o : Int32 × (Nat → Int64) × (Int32) × (Nat → Int32) × (Nat → Int32) × (Nat → Int32) × (Nat → Int32) × (Nat → Int32) × (Nat → Int32) × (Nat → Int32)} (h : f_X4_placeNode a1 a2 a3 a4 g_lengths g_symbols g_hints h_prices h_choices t_size t_within h_traced t_waiting t_cells t_begins t_waitSymbols t_waitParents t_waitFirsts t_waitEnds t_waitHints = some o) : Met l yX4_placeNode wsX4_placeNode rmX4_placeNode (kPc D (kT cI cB cJ cZ) [.ref (ad 22), .int a1, .int a2, .int a3, .int a4] ws z) (kQi D (kT cI cB cJ cZ) o.1 [(21, (ad 21, .inl (cJ, 102, .inr (.inl o.2.1)))), (22, (ad 22, .inr (4, [.ref (ad 1), .ref (ad 17), .ref (ad 23), .ref (ad 24), .ref (ad 25), .ref (ad 26), .ref (ad 27), .ref (ad 28), .ref (ad 29), .ref (ad 30), .ref (ad 31), .int o.2.2.1, .int t_size, .int t_skipped]))), (23, (ad 23, .inl (cI, 1050, .inl o.2.2.2.1))), (26, (ad 26, .inl (cI, 5, .inl o.2.2.2.2.1))), (27, (ad 27, .inl (cI, 150, .inl o.2.2.2.2.2.1))), (28, (ad 28, .inl (cI, 150, .inl o.2.2.2.2.2.2.1))), (29, (ad 29, .inl (cI, 150, .inl o.2.2.2.2.2.2.2.1))), (30, (ad 30, .inl (cI, 150, .inl o.2.2.2.2.2.2.2.2.1))), (31, (ad 31, .inl (cI, 150, .inl o.2.2.2.2.2.2.2.2.2)))] ws z) 0 0 (va_A ws z) := by
  refine KW.met (rm := rmX4_placeNode) (lv := [(0, .ref (ad 22)), (1, .int a1), (2, .int a2), (3, .int a3), (4, .int a4)]) (L := [(21, (ad 21, .inl (cJ, 102, .inr (.inl h_traced)))), (22, (ad 22, .inr (4, [.ref (ad 1), .ref (ad 17), .ref (ad 23), .ref (ad 24), .ref (ad 25), .ref (ad 26), .ref (ad 27), .ref (ad 28), .ref (ad 29), .ref (ad 30), .ref (ad 31), .int t_waiting, .int t_size, .int t_skipped]))), (23, (ad 23, .inl (cI, 1050, .inl t_cells))), (26, (ad 26, .inl (cI, 5, .inl t_begins))), (27, (ad 27, .inl (cI, 150, .inl t_waitSymbols))), (28, (ad 28, .inl (cI, 150, .inl t_waitParents))), (29, (ad 29, .inl (cI, 150, .inl t_waitFirsts))), (30, (ad 30, .inl (cI, 150, .inl t_waitEnds))), (31, (ad 31, .inl (cI, 150, .inl t_waitHints)))]) rfl (by decide) (Nat.le_of_ble_eq_true rfl) rfl (by intro q hq; simp only [List.mem_cons, List.not_mem_nil, or_false] at hq; rcases hq with rfl | rfl | rfl | rfl | rfl | rfl | rfl | rfl | rfl <;> assumption) ?_
  unfold f_X4_placeNode at h
  show KW l xX4_placeNode D (kT cI cB cJ cZ) ws z (kQi D (kT cI cB cJ cZ) o.1 [(21, (ad 21, .inl (cJ, 102, .inr (.inl o.2.1)))), (22, (ad 22, .inr (4, [.ref (ad 1), .ref (ad 17), .ref (ad 23), .ref (ad 24), .ref (ad 25), .ref (ad 26), .ref (ad 27), .ref (ad 28), .ref (ad 29), .ref (ad 30), .ref (ad 31), .int o.2.2.1, .int t_size, .int t_skipped]))), (23, (ad 23, .inl (cI, 1050, .inl o.2.2.2.1))), (26, (ad 26, .inl (cI, 5, .inl o.2.2.2.2.1))), (27, (ad 27, .inl (cI, 150, .inl o.2.2.2.2.2.1))), (28, (ad 28, .inl (cI, 150, .inl o.2.2.2.2.2.2.1))), (29, (ad 29, .inl (cI, 150, .inl o.2.2.2.2.2.2.2.1))), (30, (ad 30, .inl (cI, 150, .inl o.2.2.2.2.2.2.2.2.1))), (31, (ad 31, .inl (cI, 150, .inl o.2.2.2.2.2.2.2.2.2)))] ws z) 0 [(0, .ref (ad 22)), (1, .int a1), (2, .int a2), (3, .int a3), (4, .int a4)] [] [(21, (ad 21, .inl (cJ, 102, .inr (.inl h_traced)))), (22, (ad 22, .inr (4, [.ref (ad 1), .ref (ad 17), .ref (ad 23), .ref (ad 24), .ref (ad 25), .ref (ad 26), .ref (ad 27), .ref (ad 28), .ref (ad 29), .ref (ad 30), .ref (ad 31), .int t_waiting, .int t_size, .int t_skipped]))), (23, (ad 23, .inl (cI, 1050, .inl t_cells))), (26, (ad 26, .inl (cI, 5, .inl t_begins))), (27, (ad 27, .inl (cI, 150, .inl t_waitSymbols))), (28, (ad 28, .inl (cI, 150, .inl t_waitParents))), (29, (ad 29, .inl (cI, 150, .inl t_waitFirsts))), (30, (ad 30, .inl (cI, 150, .inl t_waitEnds))), (31, (ad 31, .inl (cI, 150, .inl t_waitHints)))]
  refine k_aload_n dX4_placeNode_0 0 rfl rfl ?_
  refine k_get 22 1 rfl rfl qX4_placeNode_wX4 (by decide) qX4_placeNode_f53 rfl dX4_placeNode_1 ?_
  refine k_iload_n dX4_placeNode_4 2 rfl rfl ?_
  refine k_iload_n dX4_placeNode_5 3 rfl rfl ?_
  refine k_iload dX4_placeNode_6 4 rfl ?_
  obtain ⟨r1, hr1, h⟩ := Option.bind_eq_some_iff.mp h
  refine k_calliV (As := [.int a2, .int a3, .int a4]) (st := []) (Lc := []) (L' := [(21, (ad 21, .inl (cJ, 102, .inr (.inl h_traced)))), (22, (ad 22, .inr (4, [.ref (ad 1), .ref (ad 17), .ref (ad 23), .ref (ad 24), .ref (ad 25), .ref (ad 26), .ref (ad 27), .ref (ad 28), .ref (ad 29), .ref (ad 30), .ref (ad 31), .int t_waiting, .int t_size, .int t_skipped]))), (23, (ad 23, .inl (cI, 1050, .inl t_cells))), (26, (ad 26, .inl (cI, 5, .inl t_begins))), (27, (ad 27, .inl (cI, 150, .inl t_waitSymbols))), (28, (ad 28, .inl (cI, 150, .inl t_waitParents))), (29, (ad 29, .inl (cI, 150, .inl t_waitFirsts))), (30, (ad 30, .inl (cI, 150, .inl t_waitEnds))), (31, (ad 31, .inl (cI, 150, .inl t_waitHints)))]) (r := r1) gX4_placeNode_X0_ruleFor rfl rfl rfl hyVX0_ruleFor ⟨Nat.le_of_ble_eq_true rfl, Nat.le_of_ble_eq_true rfl⟩ rfl rfl (Nat.le_of_ble_eq_true rfl) 17 E.2.2.2.2.1 rfl dX4_placeNode_8 (fun w z hw => c_X0_ruleFor (cI := cI) (cB := cB) (cJ := cJ) (cZ := cZ) (ad := ad) w z ⟨((hw 17).trans E.2.2.2.2.1), ((hw 19).trans E.2.2.2.2.2.2.1)⟩  hr1) rfl rfl ?_
  refine k_istore (i := 5) (lv' := fun x => [(5, .int x), (0, .ref (ad 22)), (1, .int a1), (2, .int a2), (3, .int a3), (4, .int a4)]) dX4_placeNode_11 (Nat.le_of_ble_eq_true rfl) (fun _ => rfl) h (fun x5_2 h => ?_)
  refine k_iload dX4_placeNode_13 0 rfl ?_
  refine k_iconst (v := (-1)) dX4_placeNode_15 (by decide) ?_
  refine k_icmp_eq 30 dX4_placeNode_16 (by decide) h (fun h => ?_) (fun h => ?_)
  · skip
    refine k_sub [] rfl ?_
    exact wjn_X4_placeNode_30 (cI := cI) (cB := cB) (cJ := cJ) (cZ := cZ) (ad := ad) E  _ _ _ _ _ _ _ _ _ h
  · skip
    refine k_aload_n dX4_placeNode_19 1 rfl rfl ?_
    refine k_get 22 4 rfl rfl qX4_placeNode_wX4 (by decide) qX4_placeNode_f18 rfl dX4_placeNode_20 ?_
    refine k_iload_n dX4_placeNode_23 2 rfl rfl ?_
    refine k_iald 25 0 E.2.2.2.2.2.2.2 rfl dX4_placeNode_24 h (fun v4 h => ?_)
    refine k_bipush (v := 36) dX4_placeNode_25 (by decide) ?_
    refine k_icmp_le 32 dX4_placeNode_27 (by decide) h (fun h => ?_) (fun h => ?_)
    · skip
      refine k_aload_n dX4_placeNode_32 1 rfl rfl ?_
      refine k_get 22 0 rfl rfl qX4_placeNode_wX4 (by decide) qX4_placeNode_f49 rfl dX4_placeNode_33 ?_
      refine k_getN 1 1 E.1 rfl qX4_placeNode_wX2 (by decide) (host := "KindParser") (by decide +kernel) rfl dX4_placeNode_36 ?_
      refine k_iload dX4_placeNode_39 0 rfl ?_
      refine k_iald 3 0 E.2.1 rfl dX4_placeNode_41 h (fun v5 h => ?_)
      refine k_istore (i := 6) (lv' := fun x => [(6, .int x), (5, .int x5_2), (0, .ref (ad 22)), (1, .int a1), (2, .int a2), (3, .int a3), (4, .int a4)]) dX4_placeNode_42 (Nat.le_of_ble_eq_true rfl) (fun _ => rfl) h (fun x6_6 h => ?_)
      refine k_aload_n dX4_placeNode_44 2 rfl rfl ?_
      refine k_get 22 2 rfl rfl qX4_placeNode_wX4 (by decide) qX4_placeNode_f11 rfl dX4_placeNode_45 ?_
      refine k_iload_n dX4_placeNode_48 3 rfl rfl ?_
      refine k_bipush (v := 7) dX4_placeNode_49 (by decide) ?_
      refine k_imul dX4_placeNode_51 ?_
      refine k_iconst (v := 0) dX4_placeNode_52 (by decide) ?_
      refine k_iadd dX4_placeNode_53 ?_
      refine k_iload dX4_placeNode_54 1 rfl ?_
      refine k_iast (L' := fun f => [(21, (ad 21, .inl (cJ, 102, .inr (.inl h_traced)))), (22, (ad 22, .inr (4, [.ref (ad 1), .ref (ad 17), .ref (ad 23), .ref (ad 24), .ref (ad 25), .ref (ad 26), .ref (ad 27), .ref (ad 28), .ref (ad 29), .ref (ad 30), .ref (ad 31), .int t_waiting, .int t_size, .int t_skipped]))), (23, (ad 23, .inl (cI, 1050, .inl f))), (26, (ad 26, .inl (cI, 5, .inl t_begins))), (27, (ad 27, .inl (cI, 150, .inl t_waitSymbols))), (28, (ad 28, .inl (cI, 150, .inl t_waitParents))), (29, (ad 29, .inl (cI, 150, .inl t_waitFirsts))), (30, (ad 30, .inl (cI, 150, .inl t_waitEnds))), (31, (ad 31, .inl (cI, 150, .inl t_waitHints)))]) 23 0 rfl rfl rfl dX4_placeNode_56 h (fun _ => rfl) (fun t_cells_7 h => ?_)
      refine k_aload_n dX4_placeNode_57 2 rfl rfl ?_
      refine k_get 22 2 rfl rfl qX4_placeNode_wX4 (by decide) qX4_placeNode_f11 rfl dX4_placeNode_58 ?_
      refine k_iload_n dX4_placeNode_61 3 rfl rfl ?_
      refine k_bipush (v := 7) dX4_placeNode_62 (by decide) ?_
      refine k_imul dX4_placeNode_64 ?_
      refine k_bipush (v := 6) dX4_placeNode_65 (by decide) ?_
      refine k_iadd dX4_placeNode_67 ?_
      refine k_iload dX4_placeNode_68 0 rfl ?_
      refine k_iast (L' := fun f => [(21, (ad 21, .inl (cJ, 102, .inr (.inl h_traced)))), (22, (ad 22, .inr (4, [.ref (ad 1), .ref (ad 17), .ref (ad 23), .ref (ad 24), .ref (ad 25), .ref (ad 26), .ref (ad 27), .ref (ad 28), .ref (ad 29), .ref (ad 30), .ref (ad 31), .int t_waiting, .int t_size, .int t_skipped]))), (23, (ad 23, .inl (cI, 1050, .inl f))), (26, (ad 26, .inl (cI, 5, .inl t_begins))), (27, (ad 27, .inl (cI, 150, .inl t_waitSymbols))), (28, (ad 28, .inl (cI, 150, .inl t_waitParents))), (29, (ad 29, .inl (cI, 150, .inl t_waitFirsts))), (30, (ad 30, .inl (cI, 150, .inl t_waitEnds))), (31, (ad 31, .inl (cI, 150, .inl t_waitHints)))]) 23 0 rfl rfl rfl dX4_placeNode_70 h (fun _ => rfl) (fun t_cells_8 h => ?_)
      refine k_aload_n dX4_placeNode_71 2 rfl rfl ?_
      refine k_get 22 1 rfl rfl qX4_placeNode_wX4 (by decide) qX4_placeNode_f53 rfl dX4_placeNode_72 ?_
      refine k_iload dX4_placeNode_75 1 rfl ?_
      refine k_iload_n dX4_placeNode_77 5 rfl rfl ?_
      refine k_iload dX4_placeNode_78 6 rfl ?_
      refine k_aload_n dX4_placeNode_80 2 rfl rfl ?_
      refine k_get 22 5 rfl rfl qX4_placeNode_wX4 (by decide) qX4_placeNode_f21 rfl dX4_placeNode_81 ?_
      obtain ⟨r9, hr9, h⟩ := Option.bind_eq_some_iff.mp h
      refine k_callvV (As := [.int x5_2, .int a3, .int a4, .ref (ad 26)]) (st := []) (Lc := [(21, (ad 21, .inl (cJ, 102, .inr (.inl r9.1)))), (26, (ad 26, .inl (cI, 5, .inl r9.2)))]) (L' := [(21, (ad 21, .inl (cJ, 102, .inr (.inl r9.1)))), (22, (ad 22, .inr (4, [.ref (ad 1), .ref (ad 17), .ref (ad 23), .ref (ad 24), .ref (ad 25), .ref (ad 26), .ref (ad 27), .ref (ad 28), .ref (ad 29), .ref (ad 30), .ref (ad 31), .int t_waiting, .int t_size, .int t_skipped]))), (23, (ad 23, .inl (cI, 1050, .inl t_cells_8))), (26, (ad 26, .inl (cI, 5, .inl r9.2))), (27, (ad 27, .inl (cI, 150, .inl t_waitSymbols))), (28, (ad 28, .inl (cI, 150, .inl t_waitParents))), (29, (ad 29, .inl (cI, 150, .inl t_waitFirsts))), (30, (ad 30, .inl (cI, 150, .inl t_waitEnds))), (31, (ad 31, .inl (cI, 150, .inl t_waitHints)))]) gX4_placeNode_X0_split rfl rfl rfl hyVX0_split ⟨Nat.le_of_ble_eq_true rfl, Nat.le_of_ble_eq_true rfl⟩ rfl rfl (Nat.le_of_ble_eq_true rfl) 17 E.2.2.2.2.1 rfl dX4_placeNode_84 (fun w z hw => c_X0_split (cI := cI) (cB := cB) (cJ := cJ) (cZ := cZ) (ad := ad) w z ⟨((hw 1).trans E.1), ((hw 3).trans E.2.1), ((hw 4).trans E.2.2.1), ((hw 17).trans E.2.2.2.2.1), ((hw 18).trans E.2.2.2.2.2.1)⟩ (hw 21) (hw 26) hr9) rfl rfl ?_
      refine k_iconst (v := 1) dX4_placeNode_87 (by decide) ?_
      refine k_istore (i := 7) (lv' := fun x => [(7, .int x), (6, .int x6_6), (5, .int x5_2), (0, .ref (ad 22)), (1, .int a1), (2, .int a2), (3, .int a3), (4, .int a4)]) dX4_placeNode_88 (Nat.le_of_ble_eq_true rfl) (fun _ => rfl) h (fun x7_10 h => ?_)
      refine k_iload dX4_placeNode_90 7 rfl ?_
      refine k_istore (i := 8) (lv' := fun x => [(8, .int x), (7, .int x7_10), (6, .int x6_6), (5, .int x5_2), (0, .ref (ad 22)), (1, .int a1), (2, .int a2), (3, .int a3), (4, .int a4)]) dX4_placeNode_92 (Nat.le_of_ble_eq_true rfl) (fun _ => rfl) h (fun x8_11 h => ?_)
      refine k_iload dX4_placeNode_94 2 rfl ?_
      refine k_iconst (v := 1) dX4_placeNode_96 (by decide) ?_
      refine k_isub dX4_placeNode_97 ?_
      refine k_istore (i := 9) (lv' := fun x => [(9, .int x), (8, .int x8_11), (7, .int x7_10), (6, .int x6_6), (5, .int x5_2), (0, .ref (ad 22)), (1, .int a1), (2, .int a2), (3, .int a3), (4, .int a4)]) dX4_placeNode_98 (Nat.le_of_ble_eq_true rfl) (fun _ => rfl) h (fun x9_12 h => ?_)
      refine k_sub [5, 6, 4, 2, 1, 0] rfl ?_
      refine wlp_X4_placeNode_100 (cI := cI) (cB := cB) (cJ := cJ) (cZ := cZ) (ad := ad) E ?_ FU _ _ _ _ _ _ _ _ _ _ _ _ _ _ h
      · intro x7 h_traced t_waiting t_cells t_begins t_waitSymbols t_waitParents t_waitFirsts t_waitEnds t_waitHints h
        refine k_sub [0] rfl ?_
        exact wjn_X4_placeNode_167 (cI := cI) (cB := cB) (cJ := cJ) (cZ := cZ) (ad := ad) E  _ _ _ _ _ _ _ _ _ _ h
    · skip
      refine k_sub [] rfl ?_
      exact wjn_X4_placeNode_30 (cI := cI) (cB := cB) (cJ := cJ) (cZ := cZ) (ad := ad) E  _ _ _ _ _ _ _ _ _ h
abbrev rmX4_leafState : Room := { frames := 1, cells := 0, slots := 0, locals := 22 }
abbrev xX4_leafState : KX := (rmX4_leafState, cX4_leafState, 3, some .int, RX4, wsX4_leafState)
theorem hySX4_leafState : yX4_leafState.cls ≠ "java/lang/invoke/MethodHandle" ∧ yX4_leafState.cls ≠ "java/lang/invoke/VarHandle" ∧ (parseMethodDescriptor yX4_leafState.desc).map (fun d => d.parameters.length) = some 1 := by decide +kernel
theorem hyVX4_leafState : yX4_leafState.cls = RX4 ∧ yX4_leafState.cls ≠ "java/lang/invoke/MethodHandle" ∧ yX4_leafState.cls ≠ "java/lang/invoke/VarHandle" ∧ (parseMethodDescriptor yX4_leafState.desc).map (fun d => d.parameters.length) = some 1 := ⟨rfl, hySX4_leafState⟩
set_option maxHeartbeats 4000000 in
set_option maxRecDepth 100000 in
theorem wjn_X4_leafState_28 {l : Launch} {D : va_G} {cI cB cJ cZ : ClassId} {ad : Nat → Nat} {ws : va_W} {z : Nat} {t_waiting : Int32} {t_size : Int32} {t_skipped : Int32} {t_cells : Nat → Int32} (E : ws[22]? = some (ad 22, .inr (4, [.ref (ad 1), .ref (ad 17), .ref (ad 23), .ref (ad 24), .ref (ad 25), .ref (ad 26), .ref (ad 27), .ref (ad 28), .ref (ad 29), .ref (ad 30), .ref (ad 31), .int t_waiting, .int t_size, .int t_skipped])) ∧ ws[23]? = some (ad 23, .inl (cI, 1050, .inl t_cells))) {o : Int32}   : ∀ (s0 : Int32), jn_X4_leafState_28 t_cells s0 = some o → KW l xX4_leafState D (kT cI cB cJ cZ) ws z (kQi D (kT cI cB cJ cZ) o [] ws z) 28 [] [.int s0] [] := by
  intro s0 h
  unfold jn_X4_leafState_28 at h
  obtain rfl := Option.some.inj h
  exact k_iret rfl dX4_leafState_28
set_option maxHeartbeats 4000000 in
set_option maxRecDepth 100000 in
/-- KindParser$Tree.leafState -/
theorem c_X4_leafState {l : Launch} {D : va_G} {cI cB cJ cZ : ClassId} {ad : Nat → Nat} (ws : va_W) (z : Nat) {t_waiting : Int32} {t_size : Int32} {t_skipped : Int32} {t_cells : Nat → Int32} (E : ws[22]? = some (ad 22, .inr (4, [.ref (ad 1), .ref (ad 17), .ref (ad 23), .ref (ad 24), .ref (ad 25), .ref (ad 26), .ref (ad 27), .ref (ad 28), .ref (ad 29), .ref (ad 30), .ref (ad 31), .int t_waiting, .int t_size, .int t_skipped])) ∧ ws[23]? = some (ad 23, .inl (cI, 1050, .inl t_cells)))  {a1 : Int32} {o : Int32} (h : f_X4_leafState a1 t_cells = some o) : Met l yX4_leafState wsX4_leafState rmX4_leafState (kPc D (kT cI cB cJ cZ) [.ref (ad 22), .int a1] ws z) (kQi D (kT cI cB cJ cZ) o [] ws z) 0 0 (va_A ws z) := by
  refine KW.met (rm := rmX4_leafState) (lv := [(0, .ref (ad 22)), (1, .int a1)]) (L := []) rfl (by decide) (Nat.le_of_ble_eq_true rfl) rfl (fun q hq => by cases hq) ?_
  unfold f_X4_leafState at h
  show KW l xX4_leafState D (kT cI cB cJ cZ) ws z (kQi D (kT cI cB cJ cZ) o [] ws z) 0 [(0, .ref (ad 22)), (1, .int a1)] [] []
  refine k_aload_n dX4_leafState_0 0 rfl rfl ?_
  refine k_iload_n dX4_leafState_1 1 rfl rfl ?_
  refine k_iconst (v := 4) dX4_leafState_2 (by decide) ?_
  obtain ⟨r1, hr1, h⟩ := Option.bind_eq_some_iff.mp h
  refine k_calliV (As := [.int a1, .int 4]) (st := []) (Lc := []) (L' := []) (r := r1) gX4_leafState_X4_cell rfl rfl rfl hyVX4_cell ⟨Nat.le_of_ble_eq_true rfl, Nat.le_of_ble_eq_true rfl⟩ rfl rfl (Nat.le_of_ble_eq_true rfl) 22 E.1 rfl dX4_leafState_3 (fun w z hw => c_X4_cell (cI := cI) (cB := cB) (cJ := cJ) (cZ := cZ) (ad := ad) w z ⟨((hw 22).trans E.1), ((hw 23).trans E.2)⟩  hr1) rfl rfl ?_
  refine k_istore_n (i := 2) (lv' := fun x => [(2, .int x), (0, .ref (ad 22)), (1, .int a1)]) dX4_leafState_6 rfl (Nat.le_of_ble_eq_true rfl) (fun _ => rfl) h (fun x2_2 h => ?_)
  refine k_iload_n dX4_leafState_7 0 rfl rfl ?_
  refine k_if_ne 13 dX4_leafState_8 (by decide) h (fun h => ?_) (fun h => ?_)
  · skip
    refine k_iconst (v := 2) dX4_leafState_11 (by decide) ?_
    obtain rfl := Option.some.inj h
    exact k_iret rfl dX4_leafState_12
  · skip
    refine k_aload_n dX4_leafState_13 1 rfl rfl ?_
    refine k_iload_n dX4_leafState_14 2 rfl rfl ?_
    refine k_iconst (v := 5) dX4_leafState_15 (by decide) ?_
    obtain ⟨r3, hr3, h⟩ := Option.bind_eq_some_iff.mp h
    refine k_calliV (As := [.int a1, .int 5]) (st := []) (Lc := []) (L' := []) (r := r3) gX4_leafState_X4_cell rfl rfl rfl hyVX4_cell ⟨Nat.le_of_ble_eq_true rfl, Nat.le_of_ble_eq_true rfl⟩ rfl rfl (Nat.le_of_ble_eq_true rfl) 22 E.1 rfl dX4_leafState_16 (fun w z hw => c_X4_cell (cI := cI) (cB := cB) (cJ := cJ) (cZ := cZ) (ad := ad) w z ⟨((hw 22).trans E.1), ((hw 23).trans E.2)⟩  hr3) rfl rfl ?_
    refine k_iload_n dX4_leafState_19 0 rfl rfl ?_
    refine k_icmp_ne 27 dX4_leafState_20 (by decide) h (fun h => ?_) (fun h => ?_)
    · skip
      refine k_iconst (v := 1) dX4_leafState_23 (by decide) ?_
      refine k_goto 28 dX4_leafState_24 (by decide) ?_
      refine k_sub [] rfl ?_
      exact wjn_X4_leafState_28 (cI := cI) (cB := cB) (cJ := cJ) (cZ := cZ) (ad := ad) E  _ h
    · skip
      refine k_iconst (v := 0) dX4_leafState_27 (by decide) ?_
      refine k_sub [] rfl ?_
      exact wjn_X4_leafState_28 (cI := cI) (cB := cB) (cJ := cJ) (cZ := cZ) (ad := ad) E  _ h
abbrev rmX4_placeNext : Room := { frames := 4, cells := 0, slots := 0, locals := 114 }
abbrev xX4_placeNext : KX := (rmX4_placeNext, cX4_placeNext, 7, some .boolean, RX4, wsX4_placeNext)
theorem hySX4_placeNext : yX4_placeNext.cls ≠ "java/lang/invoke/MethodHandle" ∧ yX4_placeNext.cls ≠ "java/lang/invoke/VarHandle" ∧ (parseMethodDescriptor yX4_placeNext.desc).map (fun d => d.parameters.length) = some 0 := by decide +kernel
theorem hyVX4_placeNext : yX4_placeNext.cls = RX4 ∧ yX4_placeNext.cls ≠ "java/lang/invoke/MethodHandle" ∧ yX4_placeNext.cls ≠ "java/lang/invoke/VarHandle" ∧ (parseMethodDescriptor yX4_placeNext.desc).map (fun d => d.parameters.length) = some 0 := ⟨rfl, hySX4_placeNext⟩
theorem qX4_placeNext_wX4 : ∀ w ∈ u_ws RX4 TX4 14, w ∈ wsX4_placeNext := by decide +kernel
theorem qX4_placeNext_f39 : Cond.fieldLink RX4 39 "KindParser$Tree" "waiting" "I" ∈ wsX4_placeNext := by decide +kernel
theorem qX4_placeNext_f43 : Cond.fieldLink RX4 43 "KindParser$Tree" "size" "I" ∈ wsX4_placeNext := by decide +kernel
theorem qX4_placeNext_f24 : Cond.fieldLink RX4 24 "KindParser$Tree" "waitSymbols" "[I" ∈ wsX4_placeNext := by decide +kernel
theorem qX4_placeNext_f27 : Cond.fieldLink RX4 27 "KindParser$Tree" "waitParents" "[I" ∈ wsX4_placeNext := by decide +kernel
theorem qX4_placeNext_f30 : Cond.fieldLink RX4 30 "KindParser$Tree" "waitFirsts" "[I" ∈ wsX4_placeNext := by decide +kernel
theorem qX4_placeNext_f33 : Cond.fieldLink RX4 33 "KindParser$Tree" "waitEnds" "[I" ∈ wsX4_placeNext := by decide +kernel
theorem qX4_placeNext_f11 : Cond.fieldLink RX4 11 "KindParser$Tree" "cells" "[I" ∈ wsX4_placeNext := by decide +kernel
theorem qX4_placeNext_f53 : Cond.fieldLink RX4 53 "KindParser$Tree" "chart" "LKindParser$Chart;" ∈ wsX4_placeNext := by decide +kernel
theorem qX4_placeNext_f15 : Cond.fieldLink RX4 15 "KindParser$Tree" "hints" "[I" ∈ wsX4_placeNext := by decide +kernel
theorem qX4_placeNext_f36 : Cond.fieldLink RX4 36 "KindParser$Tree" "waitHints" "[I" ∈ wsX4_placeNext := by decide +kernel
theorem qX4_placeNext_f18 : Cond.fieldLink RX4 18 "KindParser$Tree" "within" "[I" ∈ wsX4_placeNext := by decide +kernel
theorem qX4_placeNext_iX5 : Cond.initialized RX5 ∈ wsX4_placeNext := by decide +kernel
theorem qX4_placeNext_sX5_isKind : Cond.static yX5_isKind ∈ wsX4_placeNext := by decide +kernel
set_option maxHeartbeats 4000000 in
set_option maxRecDepth 100000 in
theorem wjn_X4_placeNext_17 {l : Launch} {D : va_G} {cI cB cJ cZ : ClassId} {ad : Nat → Nat} {ws : va_W} {z : Nat} {g_size : Int32} {g_lengths : Nat → Int32} {g_symbols : Nat → Int32} {g_hints : Nat → Int32} {h_prices : Nat → Int64} {h_choices : Nat → Int32} {t_skipped : Int32} (E : ws[1]? = some (ad 1, .inr (2, [.ref (ad 2), .ref (ad 3), .ref (ad 4), .ref (ad 5), .ref (ad 6), .ref (ad 7), .int g_size])) ∧ ws[3]? = some (ad 3, .inl (cI, 20, .inl g_lengths)) ∧ ws[4]? = some (ad 4, .inl (cI, 100, .inl g_symbols)) ∧ ws[5]? = some (ad 5, .inl (cI, 100, .inl g_hints)) ∧ ws[17]? = some (ad 17, .inr (0, [.ref (ad 1), .ref (ad 9), .ref (ad 18), .ref (ad 19), .ref (ad 20), .ref (ad 21)])) ∧ ws[18]? = some (ad 18, .inl (cJ, 4046, .inr (.inl h_prices))) ∧ ws[19]? = some (ad 19, .inl (cB, 1734, .inl h_choices))) {o : Int32 × (Nat → Int64) × (Int32) × (Int32) × (Nat → Int32) × (Nat → Int32) × (Nat → Int32) × (Nat → Int32) × (Nat → Int32) × (Nat → Int32) × (Nat → Int32) × (Nat → Int32) × (Nat → Int32)}   : ∀ (h_traced : Nat → Int64) (t_waiting : Int32) (t_size : Int32) (t_cells : Nat → Int32) (t_hints : Nat → Int32) (t_within : Nat → Int32) (t_begins : Nat → Int32) (t_waitSymbols : Nat → Int32) (t_waitParents : Nat → Int32) (t_waitFirsts : Nat → Int32) (t_waitEnds : Nat → Int32) (t_waitHints : Nat → Int32), jn_X4_placeNext_17 g_lengths g_symbols g_hints h_prices h_choices h_traced t_waiting t_size t_cells t_hints t_within t_begins t_waitSymbols t_waitParents t_waitFirsts t_waitEnds t_waitHints = some o → KW l xX4_placeNext D (kT cI cB cJ cZ) ws z (kQi D (kT cI cB cJ cZ) o.1 [(21, (ad 21, .inl (cJ, 102, .inr (.inl o.2.1)))), (22, (ad 22, .inr (4, [.ref (ad 1), .ref (ad 17), .ref (ad 23), .ref (ad 24), .ref (ad 25), .ref (ad 26), .ref (ad 27), .ref (ad 28), .ref (ad 29), .ref (ad 30), .ref (ad 31), .int o.2.2.1, .int o.2.2.2.1, .int t_skipped]))), (23, (ad 23, .inl (cI, 1050, .inl o.2.2.2.2.1))), (24, (ad 24, .inl (cI, 150, .inl o.2.2.2.2.2.1))), (25, (ad 25, .inl (cI, 150, .inl o.2.2.2.2.2.2.1))), (26, (ad 26, .inl (cI, 5, .inl o.2.2.2.2.2.2.2.1))), (27, (ad 27, .inl (cI, 150, .inl o.2.2.2.2.2.2.2.2.1))), (28, (ad 28, .inl (cI, 150, .inl o.2.2.2.2.2.2.2.2.2.1))), (29, (ad 29, .inl (cI, 150, .inl o.2.2.2.2.2.2.2.2.2.2.1))), (30, (ad 30, .inl (cI, 150, .inl o.2.2.2.2.2.2.2.2.2.2.2.1))), (31, (ad 31, .inl (cI, 150, .inl o.2.2.2.2.2.2.2.2.2.2.2.2)))] ws z) 17 [] [] [(21, (ad 21, .inl (cJ, 102, .inr (.inl h_traced)))), (22, (ad 22, .inr (4, [.ref (ad 1), .ref (ad 17), .ref (ad 23), .ref (ad 24), .ref (ad 25), .ref (ad 26), .ref (ad 27), .ref (ad 28), .ref (ad 29), .ref (ad 30), .ref (ad 31), .int t_waiting, .int t_size, .int t_skipped]))), (23, (ad 23, .inl (cI, 1050, .inl t_cells))), (24, (ad 24, .inl (cI, 150, .inl t_hints))), (25, (ad 25, .inl (cI, 150, .inl t_within))), (26, (ad 26, .inl (cI, 5, .inl t_begins))), (27, (ad 27, .inl (cI, 150, .inl t_waitSymbols))), (28, (ad 28, .inl (cI, 150, .inl t_waitParents))), (29, (ad 29, .inl (cI, 150, .inl t_waitFirsts))), (30, (ad 30, .inl (cI, 150, .inl t_waitEnds))), (31, (ad 31, .inl (cI, 150, .inl t_waitHints)))] := by
  intro h_traced t_waiting t_size t_cells t_hints t_within t_begins t_waitSymbols t_waitParents t_waitFirsts t_waitEnds t_waitHints h
  unfold jn_X4_placeNext_17 at h
  refine k_iconst (v := 0) dX4_placeNext_17 (by decide) ?_
  obtain ⟨hz, h⟩ := zc_some h
  obtain rfl := Option.some.inj h
  exact k_zret rfl hz dX4_placeNext_18
set_option maxHeartbeats 4000000 in
set_option maxRecDepth 100000 in
theorem wjn_X4_placeNext_195 {l : Launch} {D : va_G} {cI cB cJ cZ : ClassId} {ad : Nat → Nat} {ws : va_W} {z : Nat} {g_size : Int32} {g_lengths : Nat → Int32} {g_symbols : Nat → Int32} {g_hints : Nat → Int32} {h_prices : Nat → Int64} {h_choices : Nat → Int32} {t_skipped : Int32} (E : ws[1]? = some (ad 1, .inr (2, [.ref (ad 2), .ref (ad 3), .ref (ad 4), .ref (ad 5), .ref (ad 6), .ref (ad 7), .int g_size])) ∧ ws[3]? = some (ad 3, .inl (cI, 20, .inl g_lengths)) ∧ ws[4]? = some (ad 4, .inl (cI, 100, .inl g_symbols)) ∧ ws[5]? = some (ad 5, .inl (cI, 100, .inl g_hints)) ∧ ws[17]? = some (ad 17, .inr (0, [.ref (ad 1), .ref (ad 9), .ref (ad 18), .ref (ad 19), .ref (ad 20), .ref (ad 21)])) ∧ ws[18]? = some (ad 18, .inl (cJ, 4046, .inr (.inl h_prices))) ∧ ws[19]? = some (ad 19, .inl (cB, 1734, .inl h_choices))) {o : Int32 × (Nat → Int64) × (Int32) × (Int32) × (Nat → Int32) × (Nat → Int32) × (Nat → Int32) × (Nat → Int32) × (Nat → Int32) × (Nat → Int32) × (Nat → Int32) × (Nat → Int32) × (Nat → Int32)}   : ∀ (x1 : Int32) (x2 : Int32) (x4 : Int32) (x5 : Int32) (x6 : Int32) (s1 : Int32) (s2 : Int32) (h_traced : Nat → Int64) (t_waiting : Int32) (t_size : Int32) (t_cells : Nat → Int32) (t_hints : Nat → Int32) (t_within : Nat → Int32) (t_begins : Nat → Int32) (t_waitSymbols : Nat → Int32) (t_waitParents : Nat → Int32) (t_waitFirsts : Nat → Int32) (t_waitEnds : Nat → Int32) (t_waitHints : Nat → Int32), jn_X4_placeNext_195 g_lengths g_symbols g_hints h_prices h_choices x1 x2 x4 x5 x6 s1 s2 h_traced t_waiting t_size t_cells t_hints t_within t_begins t_waitSymbols t_waitParents t_waitFirsts t_waitEnds t_waitHints = some o → KW l xX4_placeNext D (kT cI cB cJ cZ) ws z (kQi D (kT cI cB cJ cZ) o.1 [(21, (ad 21, .inl (cJ, 102, .inr (.inl o.2.1)))), (22, (ad 22, .inr (4, [.ref (ad 1), .ref (ad 17), .ref (ad 23), .ref (ad 24), .ref (ad 25), .ref (ad 26), .ref (ad 27), .ref (ad 28), .ref (ad 29), .ref (ad 30), .ref (ad 31), .int o.2.2.1, .int o.2.2.2.1, .int t_skipped]))), (23, (ad 23, .inl (cI, 1050, .inl o.2.2.2.2.1))), (24, (ad 24, .inl (cI, 150, .inl o.2.2.2.2.2.1))), (25, (ad 25, .inl (cI, 150, .inl o.2.2.2.2.2.2.1))), (26, (ad 26, .inl (cI, 5, .inl o.2.2.2.2.2.2.2.1))), (27, (ad 27, .inl (cI, 150, .inl o.2.2.2.2.2.2.2.2.1))), (28, (ad 28, .inl (cI, 150, .inl o.2.2.2.2.2.2.2.2.2.1))), (29, (ad 29, .inl (cI, 150, .inl o.2.2.2.2.2.2.2.2.2.2.1))), (30, (ad 30, .inl (cI, 150, .inl o.2.2.2.2.2.2.2.2.2.2.2.1))), (31, (ad 31, .inl (cI, 150, .inl o.2.2.2.2.2.2.2.2.2.2.2.2)))] ws z) 195 [(0, .ref (ad 22)), (1, .int x1), (2, .int x2), (4, .int x4), (5, .int x5), (6, .int x6)] [.int s2, .int s1, .ref (ad 25)] [(21, (ad 21, .inl (cJ, 102, .inr (.inl h_traced)))), (22, (ad 22, .inr (4, [.ref (ad 1), .ref (ad 17), .ref (ad 23), .ref (ad 24), .ref (ad 25), .ref (ad 26), .ref (ad 27), .ref (ad 28), .ref (ad 29), .ref (ad 30), .ref (ad 31), .int t_waiting, .int t_size, .int t_skipped]))), (23, (ad 23, .inl (cI, 1050, .inl t_cells))), (24, (ad 24, .inl (cI, 150, .inl t_hints))), (25, (ad 25, .inl (cI, 150, .inl t_within))), (26, (ad 26, .inl (cI, 5, .inl t_begins))), (27, (ad 27, .inl (cI, 150, .inl t_waitSymbols))), (28, (ad 28, .inl (cI, 150, .inl t_waitParents))), (29, (ad 29, .inl (cI, 150, .inl t_waitFirsts))), (30, (ad 30, .inl (cI, 150, .inl t_waitEnds))), (31, (ad 31, .inl (cI, 150, .inl t_waitHints)))] := by
  intro x1 x2 x4 x5 x6 s1 s2 h_traced t_waiting t_size t_cells t_hints t_within t_begins t_waitSymbols t_waitParents t_waitFirsts t_waitEnds t_waitHints h
  unfold jn_X4_placeNext_195 at h
  refine k_iast (L' := fun f => [(21, (ad 21, .inl (cJ, 102, .inr (.inl h_traced)))), (22, (ad 22, .inr (4, [.ref (ad 1), .ref (ad 17), .ref (ad 23), .ref (ad 24), .ref (ad 25), .ref (ad 26), .ref (ad 27), .ref (ad 28), .ref (ad 29), .ref (ad 30), .ref (ad 31), .int t_waiting, .int t_size, .int t_skipped]))), (23, (ad 23, .inl (cI, 1050, .inl t_cells))), (24, (ad 24, .inl (cI, 150, .inl t_hints))), (25, (ad 25, .inl (cI, 150, .inl f))), (26, (ad 26, .inl (cI, 5, .inl t_begins))), (27, (ad 27, .inl (cI, 150, .inl t_waitSymbols))), (28, (ad 28, .inl (cI, 150, .inl t_waitParents))), (29, (ad 29, .inl (cI, 150, .inl t_waitFirsts))), (30, (ad 30, .inl (cI, 150, .inl t_waitEnds))), (31, (ad 31, .inl (cI, 150, .inl t_waitHints)))]) 25 0 rfl rfl rfl dX4_placeNext_195 h (fun _ => rfl) (fun t_within_22 h => ?_)
  refine k_iload_n dX4_placeNext_196 2 rfl rfl ?_
  obtain ⟨r23, hr23, h⟩ := Option.bind_eq_some_iff.mp h
  refine k_calliSN (As := [.int x2]) (st := []) (Lc := []) (L' := [(21, (ad 21, .inl (cJ, 102, .inr (.inl h_traced)))), (22, (ad 22, .inr (4, [.ref (ad 1), .ref (ad 17), .ref (ad 23), .ref (ad 24), .ref (ad 25), .ref (ad 26), .ref (ad 27), .ref (ad 28), .ref (ad 29), .ref (ad 30), .ref (ad 31), .int t_waiting, .int t_size, .int t_skipped]))), (23, (ad 23, .inl (cI, 1050, .inl t_cells))), (24, (ad 24, .inl (cI, 150, .inl t_hints))), (25, (ad 25, .inl (cI, 150, .inl t_within_22))), (26, (ad 26, .inl (cI, 5, .inl t_begins))), (27, (ad 27, .inl (cI, 150, .inl t_waitSymbols))), (28, (ad 28, .inl (cI, 150, .inl t_waitParents))), (29, (ad 29, .inl (cI, 150, .inl t_waitFirsts))), (30, (ad 30, .inl (cI, 150, .inl t_waitEnds))), (31, (ad 31, .inl (cI, 150, .inl t_waitHints)))]) (r := r23) (host := "KindParser") gX4_placeNext_X5_isKind_n82 (by decide +kernel) qX4_placeNext_iX5 qX4_placeNext_sX5_isKind rfl rfl rfl hySX5_isKind ⟨Nat.le_of_ble_eq_true rfl, Nat.le_of_ble_eq_true rfl⟩ rfl rfl (Nat.le_of_ble_eq_true rfl) dX4_placeNext_197 (fun w z hw => c_X5_isKind (cI := cI) (cB := cB) (cJ := cJ) (cZ := cZ) (ad := ad) w z trivial  hr23) rfl rfl ?_
  refine k_if_eq 214 dX4_placeNext_200 (by decide) h (fun h => ?_) (fun h => ?_)
  · skip
    refine k_aload_n dX4_placeNext_214 0 rfl rfl ?_
    refine k_get 22 2 rfl rfl qX4_placeNext_wX4 (by decide) qX4_placeNext_f11 rfl dX4_placeNext_215 ?_
    refine k_iload dX4_placeNext_218 5 rfl ?_
    refine k_iconst (v := 0) dX4_placeNext_220 (by decide) ?_
    refine k_iadd dX4_placeNext_221 ?_
    refine k_iconst (v := (-1)) dX4_placeNext_222 (by decide) ?_
    refine k_iast (L' := fun f => [(21, (ad 21, .inl (cJ, 102, .inr (.inl h_traced)))), (22, (ad 22, .inr (4, [.ref (ad 1), .ref (ad 17), .ref (ad 23), .ref (ad 24), .ref (ad 25), .ref (ad 26), .ref (ad 27), .ref (ad 28), .ref (ad 29), .ref (ad 30), .ref (ad 31), .int t_waiting, .int t_size, .int t_skipped]))), (23, (ad 23, .inl (cI, 1050, .inl f))), (24, (ad 24, .inl (cI, 150, .inl t_hints))), (25, (ad 25, .inl (cI, 150, .inl t_within_22))), (26, (ad 26, .inl (cI, 5, .inl t_begins))), (27, (ad 27, .inl (cI, 150, .inl t_waitSymbols))), (28, (ad 28, .inl (cI, 150, .inl t_waitParents))), (29, (ad 29, .inl (cI, 150, .inl t_waitFirsts))), (30, (ad 30, .inl (cI, 150, .inl t_waitEnds))), (31, (ad 31, .inl (cI, 150, .inl t_waitHints)))]) 23 0 rfl rfl rfl dX4_placeNext_223 h (fun _ => rfl) (fun t_cells_24 h => ?_)
    refine k_aload_n dX4_placeNext_224 0 rfl rfl ?_
    refine k_get 22 2 rfl rfl qX4_placeNext_wX4 (by decide) qX4_placeNext_f11 rfl dX4_placeNext_225 ?_
    refine k_iload dX4_placeNext_228 5 rfl ?_
    refine k_bipush (v := 6) dX4_placeNext_230 (by decide) ?_
    refine k_iadd dX4_placeNext_232 ?_
    refine k_aload_n dX4_placeNext_233 0 rfl rfl ?_
    refine k_iload_n dX4_placeNext_234 1 rfl rfl ?_
    obtain ⟨r25, hr25, h⟩ := Option.bind_eq_some_iff.mp h
    refine k_calliV (As := [.int x1]) (st := [.int (x6 + 6), .ref (ad 23)]) (Lc := []) (L' := [(21, (ad 21, .inl (cJ, 102, .inr (.inl h_traced)))), (22, (ad 22, .inr (4, [.ref (ad 1), .ref (ad 17), .ref (ad 23), .ref (ad 24), .ref (ad 25), .ref (ad 26), .ref (ad 27), .ref (ad 28), .ref (ad 29), .ref (ad 30), .ref (ad 31), .int t_waiting, .int t_size, .int t_skipped]))), (23, (ad 23, .inl (cI, 1050, .inl t_cells_24))), (24, (ad 24, .inl (cI, 150, .inl t_hints))), (25, (ad 25, .inl (cI, 150, .inl t_within_22))), (26, (ad 26, .inl (cI, 5, .inl t_begins))), (27, (ad 27, .inl (cI, 150, .inl t_waitSymbols))), (28, (ad 28, .inl (cI, 150, .inl t_waitParents))), (29, (ad 29, .inl (cI, 150, .inl t_waitFirsts))), (30, (ad 30, .inl (cI, 150, .inl t_waitEnds))), (31, (ad 31, .inl (cI, 150, .inl t_waitHints)))]) (r := r25) gX4_placeNext_X4_leafState rfl rfl rfl hyVX4_leafState ⟨Nat.le_of_ble_eq_true rfl, Nat.le_of_ble_eq_true rfl⟩ rfl rfl (Nat.le_of_ble_eq_true rfl) 22 rfl rfl dX4_placeNext_235 (fun w z hw => c_X4_leafState (cI := cI) (cB := cB) (cJ := cJ) (cZ := cZ) (ad := ad) w z ⟨(hw 22), (hw 23)⟩  hr25) rfl rfl ?_
    refine k_iast (L' := fun f => [(21, (ad 21, .inl (cJ, 102, .inr (.inl h_traced)))), (22, (ad 22, .inr (4, [.ref (ad 1), .ref (ad 17), .ref (ad 23), .ref (ad 24), .ref (ad 25), .ref (ad 26), .ref (ad 27), .ref (ad 28), .ref (ad 29), .ref (ad 30), .ref (ad 31), .int t_waiting, .int t_size, .int t_skipped]))), (23, (ad 23, .inl (cI, 1050, .inl f))), (24, (ad 24, .inl (cI, 150, .inl t_hints))), (25, (ad 25, .inl (cI, 150, .inl t_within_22))), (26, (ad 26, .inl (cI, 5, .inl t_begins))), (27, (ad 27, .inl (cI, 150, .inl t_waitSymbols))), (28, (ad 28, .inl (cI, 150, .inl t_waitParents))), (29, (ad 29, .inl (cI, 150, .inl t_waitFirsts))), (30, (ad 30, .inl (cI, 150, .inl t_waitEnds))), (31, (ad 31, .inl (cI, 150, .inl t_waitHints)))]) 23 0 rfl rfl rfl dX4_placeNext_238 h (fun _ => rfl) (fun t_cells_26 h => ?_)
    refine k_iconst (v := 1) dX4_placeNext_239 (by decide) ?_
    obtain ⟨hz, h⟩ := zc_some h
    obtain rfl := Option.some.inj h
    exact k_zret rfl hz dX4_placeNext_240
  · skip
    refine k_aload_n dX4_placeNext_203 0 rfl rfl ?_
    refine k_iload_n dX4_placeNext_204 1 rfl rfl ?_
    refine k_iload_n dX4_placeNext_205 2 rfl rfl ?_
    refine k_iload dX4_placeNext_206 3 rfl ?_
    refine k_iload dX4_placeNext_208 4 rfl ?_
    obtain ⟨r28, hr28, h⟩ := Option.bind_eq_some_iff.mp h
    refine k_calliV (As := [.int x1, .int x2, .int x4, .int x5]) (st := []) (Lc := [(21, (ad 21, .inl (cJ, 102, .inr (.inl r28.2.1)))), (22, (ad 22, .inr (4, [.ref (ad 1), .ref (ad 17), .ref (ad 23), .ref (ad 24), .ref (ad 25), .ref (ad 26), .ref (ad 27), .ref (ad 28), .ref (ad 29), .ref (ad 30), .ref (ad 31), .int r28.2.2.1, .int t_size, .int t_skipped]))), (23, (ad 23, .inl (cI, 1050, .inl r28.2.2.2.1))), (26, (ad 26, .inl (cI, 5, .inl r28.2.2.2.2.1))), (27, (ad 27, .inl (cI, 150, .inl r28.2.2.2.2.2.1))), (28, (ad 28, .inl (cI, 150, .inl r28.2.2.2.2.2.2.1))), (29, (ad 29, .inl (cI, 150, .inl r28.2.2.2.2.2.2.2.1))), (30, (ad 30, .inl (cI, 150, .inl r28.2.2.2.2.2.2.2.2.1))), (31, (ad 31, .inl (cI, 150, .inl r28.2.2.2.2.2.2.2.2.2)))]) (L' := [(21, (ad 21, .inl (cJ, 102, .inr (.inl r28.2.1)))), (22, (ad 22, .inr (4, [.ref (ad 1), .ref (ad 17), .ref (ad 23), .ref (ad 24), .ref (ad 25), .ref (ad 26), .ref (ad 27), .ref (ad 28), .ref (ad 29), .ref (ad 30), .ref (ad 31), .int r28.2.2.1, .int t_size, .int t_skipped]))), (23, (ad 23, .inl (cI, 1050, .inl r28.2.2.2.1))), (24, (ad 24, .inl (cI, 150, .inl t_hints))), (25, (ad 25, .inl (cI, 150, .inl t_within_22))), (26, (ad 26, .inl (cI, 5, .inl r28.2.2.2.2.1))), (27, (ad 27, .inl (cI, 150, .inl r28.2.2.2.2.2.1))), (28, (ad 28, .inl (cI, 150, .inl r28.2.2.2.2.2.2.1))), (29, (ad 29, .inl (cI, 150, .inl r28.2.2.2.2.2.2.2.1))), (30, (ad 30, .inl (cI, 150, .inl r28.2.2.2.2.2.2.2.2.1))), (31, (ad 31, .inl (cI, 150, .inl r28.2.2.2.2.2.2.2.2.2)))]) (r := r28.1) gX4_placeNext_X4_placeNode rfl rfl rfl hyVX4_placeNode ⟨Nat.le_of_ble_eq_true rfl, Nat.le_of_ble_eq_true rfl⟩ rfl rfl (Nat.le_of_ble_eq_true rfl) 22 rfl rfl dX4_placeNext_210 (fun w z hw => c_X4_placeNode (cI := cI) (cB := cB) (cJ := cJ) (cZ := cZ) (ad := ad) w z ⟨((hw 1).trans E.1), ((hw 3).trans E.2.1), ((hw 4).trans E.2.2.1), ((hw 5).trans E.2.2.2.1), ((hw 17).trans E.2.2.2.2.1), ((hw 18).trans E.2.2.2.2.2.1), ((hw 19).trans E.2.2.2.2.2.2), (hw 25)⟩ (hw 21) (hw 22) (hw 23) (hw 26) (hw 27) (hw 28) (hw 29) (hw 30) (hw 31) hr28) rfl rfl ?_
    obtain ⟨hz, h⟩ := zc_some h
    obtain rfl := Option.some.inj h
    exact k_zret rfl hz dX4_placeNext_213
set_option maxHeartbeats 4000000 in
set_option maxRecDepth 100000 in
/-- KindParser$Tree.placeNext -/
theorem c_X4_placeNext {l : Launch} {D : va_G} {cI cB cJ cZ : ClassId} {ad : Nat → Nat} (ws : va_W) (z : Nat) {g_size : Int32} {g_lengths : Nat → Int32} {g_symbols : Nat → Int32} {g_hints : Nat → Int32} {h_prices : Nat → Int64} {h_choices : Nat → Int32} {h_traced : Nat → Int64} {t_waiting : Int32} {t_size : Int32} {t_skipped : Int32} {t_cells : Nat → Int32} {t_hints : Nat → Int32} {t_within : Nat → Int32} {t_begins : Nat → Int32} {t_waitSymbols : Nat → Int32} {t_waitParents : Nat → Int32} {t_waitFirsts : Nat → Int32} {t_waitEnds : Nat → Int32} {t_waitHints : Nat → Int32} (E : ws[1]? = some (ad 1, .inr (2, [.ref (ad 2), .ref (ad 3), .ref (ad 4), .ref (ad 5), .ref (ad 6), .ref (ad 7), .int g_size])) ∧ ws[3]? = some (ad 3, .inl (cI, 20, .inl g_lengths)) ∧ ws[4]? = some (ad 4, .inl (cI, 100, .inl g_symbols)) ∧ ws[5]? = some (ad 5, .inl (cI, 100, .inl g_hints)) ∧ ws[17]? = some (ad 17, .inr (0, [.ref (ad 1), .ref (ad 9), .ref (ad 18), .ref (ad 19), .ref (ad 20), .ref (ad 21)])) ∧ ws[18]? = some (ad 18, .inl (cJ, 4046, .inr (.inl h_prices))) ∧ ws[19]? = some (ad 19, .inl (cB, 1734, .inl h_choices))) (e21 : ws[21]? = some (ad 21, .inl (cJ, 102, .inr (.inl h_traced)))) (e22 : ws[22]? = some (ad 22, .inr (4, [.ref (ad 1), .ref (ad 17), .ref (ad 23), .ref (ad 24), .ref (ad 25), .ref (ad 26), .ref (ad 27), .ref (ad 28), .ref (ad 29), .ref (ad 30), .ref (ad 31), .int t_waiting, .int t_size, .int t_skipped]))) (e23 : ws[23]? = some (ad 23, .inl (cI, 1050, .inl t_cells))) (e24 : ws[24]? = some (ad 24, .inl (cI, 150, .inl t_hints))) (e25 : ws[25]? = some (ad 25, .inl (cI, 150, .inl t_within))) (e26 : ws[26]? = some (ad 26, .inl (cI, 5, .inl t_begins))) (e27 : ws[27]? = some (ad 27, .inl (cI, 150, .inl t_waitSymbols))) (e28 : ws[28]? = some (ad 28, .inl (cI, 150, .inl t_waitParents))) (e29 : ws[29]? = some (ad 29, .inl (cI, 150, .inl t_waitFirsts))) (e30 : ws[30]? = some (ad 30, .inl (cI, 150, .inl t_waitEnds))) (e31 : ws[31]? = some (ad 31, .inl (cI, 150, .inl t_waitHints)))  {o : Int32 × (Nat → Int64) × (Int32) × (Int32) × (Nat → Int32) × (Nat → Int32) × (Nat → Int32) × (Nat → Int32) × (Nat → Int32) × (Nat → Int32) × (Nat → Int32) × (Nat → Int32) × (Nat → Int32)} (h : f_X4_placeNext g_lengths g_symbols g_hints h_prices h_choices h_traced t_waiting t_size t_cells t_hints t_within t_begins t_waitSymbols t_waitParents t_waitFirsts t_waitEnds t_waitHints = some o) : Met l yX4_placeNext wsX4_placeNext rmX4_placeNext (kPc D (kT cI cB cJ cZ) [.ref (ad 22)] ws z) (kQi D (kT cI cB cJ cZ) o.1 [(21, (ad 21, .inl (cJ, 102, .inr (.inl o.2.1)))), (22, (ad 22, .inr (4, [.ref (ad 1), .ref (ad 17), .ref (ad 23), .ref (ad 24), .ref (ad 25), .ref (ad 26), .ref (ad 27), .ref (ad 28), .ref (ad 29), .ref (ad 30), .ref (ad 31), .int o.2.2.1, .int o.2.2.2.1, .int t_skipped]))), (23, (ad 23, .inl (cI, 1050, .inl o.2.2.2.2.1))), (24, (ad 24, .inl (cI, 150, .inl o.2.2.2.2.2.1))), (25, (ad 25, .inl (cI, 150, .inl o.2.2.2.2.2.2.1))), (26, (ad 26, .inl (cI, 5, .inl o.2.2.2.2.2.2.2.1))), (27, (ad 27, .inl (cI, 150, .inl o.2.2.2.2.2.2.2.2.1))), (28, (ad 28, .inl (cI, 150, .inl o.2.2.2.2.2.2.2.2.2.1))), (29, (ad 29, .inl (cI, 150, .inl o.2.2.2.2.2.2.2.2.2.2.1))), (30, (ad 30, .inl (cI, 150, .inl o.2.2.2.2.2.2.2.2.2.2.2.1))), (31, (ad 31, .inl (cI, 150, .inl o.2.2.2.2.2.2.2.2.2.2.2.2)))] ws z) 0 0 (va_A ws z) := by
  refine KW.met (rm := rmX4_placeNext) (lv := [(0, .ref (ad 22))]) (L := [(21, (ad 21, .inl (cJ, 102, .inr (.inl h_traced)))), (22, (ad 22, .inr (4, [.ref (ad 1), .ref (ad 17), .ref (ad 23), .ref (ad 24), .ref (ad 25), .ref (ad 26), .ref (ad 27), .ref (ad 28), .ref (ad 29), .ref (ad 30), .ref (ad 31), .int t_waiting, .int t_size, .int t_skipped]))), (23, (ad 23, .inl (cI, 1050, .inl t_cells))), (24, (ad 24, .inl (cI, 150, .inl t_hints))), (25, (ad 25, .inl (cI, 150, .inl t_within))), (26, (ad 26, .inl (cI, 5, .inl t_begins))), (27, (ad 27, .inl (cI, 150, .inl t_waitSymbols))), (28, (ad 28, .inl (cI, 150, .inl t_waitParents))), (29, (ad 29, .inl (cI, 150, .inl t_waitFirsts))), (30, (ad 30, .inl (cI, 150, .inl t_waitEnds))), (31, (ad 31, .inl (cI, 150, .inl t_waitHints)))]) rfl (by decide) (Nat.le_of_ble_eq_true rfl) rfl (by intro q hq; simp only [List.mem_cons, List.not_mem_nil, or_false] at hq; rcases hq with rfl | rfl | rfl | rfl | rfl | rfl | rfl | rfl | rfl | rfl | rfl <;> assumption) ?_
  unfold f_X4_placeNext at h
  show KW l xX4_placeNext D (kT cI cB cJ cZ) ws z (kQi D (kT cI cB cJ cZ) o.1 [(21, (ad 21, .inl (cJ, 102, .inr (.inl o.2.1)))), (22, (ad 22, .inr (4, [.ref (ad 1), .ref (ad 17), .ref (ad 23), .ref (ad 24), .ref (ad 25), .ref (ad 26), .ref (ad 27), .ref (ad 28), .ref (ad 29), .ref (ad 30), .ref (ad 31), .int o.2.2.1, .int o.2.2.2.1, .int t_skipped]))), (23, (ad 23, .inl (cI, 1050, .inl o.2.2.2.2.1))), (24, (ad 24, .inl (cI, 150, .inl o.2.2.2.2.2.1))), (25, (ad 25, .inl (cI, 150, .inl o.2.2.2.2.2.2.1))), (26, (ad 26, .inl (cI, 5, .inl o.2.2.2.2.2.2.2.1))), (27, (ad 27, .inl (cI, 150, .inl o.2.2.2.2.2.2.2.2.1))), (28, (ad 28, .inl (cI, 150, .inl o.2.2.2.2.2.2.2.2.2.1))), (29, (ad 29, .inl (cI, 150, .inl o.2.2.2.2.2.2.2.2.2.2.1))), (30, (ad 30, .inl (cI, 150, .inl o.2.2.2.2.2.2.2.2.2.2.2.1))), (31, (ad 31, .inl (cI, 150, .inl o.2.2.2.2.2.2.2.2.2.2.2.2)))] ws z) 0 [(0, .ref (ad 22))] [] [(21, (ad 21, .inl (cJ, 102, .inr (.inl h_traced)))), (22, (ad 22, .inr (4, [.ref (ad 1), .ref (ad 17), .ref (ad 23), .ref (ad 24), .ref (ad 25), .ref (ad 26), .ref (ad 27), .ref (ad 28), .ref (ad 29), .ref (ad 30), .ref (ad 31), .int t_waiting, .int t_size, .int t_skipped]))), (23, (ad 23, .inl (cI, 1050, .inl t_cells))), (24, (ad 24, .inl (cI, 150, .inl t_hints))), (25, (ad 25, .inl (cI, 150, .inl t_within))), (26, (ad 26, .inl (cI, 5, .inl t_begins))), (27, (ad 27, .inl (cI, 150, .inl t_waitSymbols))), (28, (ad 28, .inl (cI, 150, .inl t_waitParents))), (29, (ad 29, .inl (cI, 150, .inl t_waitFirsts))), (30, (ad 30, .inl (cI, 150, .inl t_waitEnds))), (31, (ad 31, .inl (cI, 150, .inl t_waitHints)))]
  refine k_aload_n dX4_placeNext_0 0 rfl rfl ?_
  refine k_get 22 11 rfl rfl qX4_placeNext_wX4 (by decide) qX4_placeNext_f39 rfl dX4_placeNext_1 ?_
  refine k_if_le 17 dX4_placeNext_4 (by decide) h (fun h => ?_) (fun h => ?_)
  · skip
    refine k_sub [] rfl ?_
    exact wjn_X4_placeNext_17 (cI := cI) (cB := cB) (cJ := cJ) (cZ := cZ) (ad := ad) E  _ _ _ _ _ _ _ _ _ _ _ _ h
  · skip
    refine k_aload_n dX4_placeNext_7 0 rfl rfl ?_
    refine k_get 22 12 rfl rfl qX4_placeNext_wX4 (by decide) qX4_placeNext_f43 rfl dX4_placeNext_8 ?_
    refine k_sipush (v := 150) dX4_placeNext_11 (by decide) ?_
    refine k_icmp_lt 19 dX4_placeNext_14 (by decide) h (fun h => ?_) (fun h => ?_)
    · skip
      refine k_aload_n dX4_placeNext_19 0 rfl rfl ?_
      refine k_dup dX4_placeNext_20 rfl ?_
      refine k_get 22 11 rfl rfl qX4_placeNext_wX4 (by decide) qX4_placeNext_f39 rfl dX4_placeNext_21 ?_
      refine k_iconst (v := 1) dX4_placeNext_24 (by decide) ?_
      refine k_isub dX4_placeNext_25 ?_
      refine k_put (L' := [(21, (ad 21, .inl (cJ, 102, .inr (.inl h_traced)))), (22, (ad 22, .inr (4, [.ref (ad 1), .ref (ad 17), .ref (ad 23), .ref (ad 24), .ref (ad 25), .ref (ad 26), .ref (ad 27), .ref (ad 28), .ref (ad 29), .ref (ad 30), .ref (ad 31), .int (t_waiting - 1), .int t_size, .int t_skipped]))), (23, (ad 23, .inl (cI, 1050, .inl t_cells))), (24, (ad 24, .inl (cI, 150, .inl t_hints))), (25, (ad 25, .inl (cI, 150, .inl t_within))), (26, (ad 26, .inl (cI, 5, .inl t_begins))), (27, (ad 27, .inl (cI, 150, .inl t_waitSymbols))), (28, (ad 28, .inl (cI, 150, .inl t_waitParents))), (29, (ad 29, .inl (cI, 150, .inl t_waitFirsts))), (30, (ad 30, .inl (cI, 150, .inl t_waitEnds))), (31, (ad 31, .inl (cI, 150, .inl t_waitHints)))]) 22 11 rfl rfl qX4_placeNext_wX4 (by decide) tyX4 tyX4_ok nmX4 rfl qX4_placeNext_f39 rfl (tyX4_ok 11 (by decide)) rfl rfl (Nat.le_of_ble_eq_true rfl) dX4_placeNext_26 rfl ?_
      refine k_aload_n dX4_placeNext_29 0 rfl rfl ?_
      refine k_get 22 12 rfl rfl qX4_placeNext_wX4 (by decide) qX4_placeNext_f43 rfl dX4_placeNext_30 ?_
      refine k_istore_n (i := 1) (lv' := fun x => [(1, .int x), (0, .ref (ad 22))]) dX4_placeNext_33 rfl (Nat.le_of_ble_eq_true rfl) (fun _ => rfl) h (fun x1_3 h => ?_)
      refine k_aload_n dX4_placeNext_34 1 rfl rfl ?_
      refine k_get 22 6 rfl rfl qX4_placeNext_wX4 (by decide) qX4_placeNext_f24 rfl dX4_placeNext_35 ?_
      refine k_aload_n dX4_placeNext_38 1 rfl rfl ?_
      refine k_get 22 11 rfl rfl qX4_placeNext_wX4 (by decide) qX4_placeNext_f39 rfl dX4_placeNext_39 ?_
      refine k_iald 27 0 rfl rfl dX4_placeNext_42 h (fun v4 h => ?_)
      refine k_istore_n (i := 2) (lv' := fun x => [(2, .int x), (1, .int x1_3), (0, .ref (ad 22))]) dX4_placeNext_43 rfl (Nat.le_of_ble_eq_true rfl) (fun _ => rfl) h (fun x2_5 h => ?_)
      refine k_aload_n dX4_placeNext_44 2 rfl rfl ?_
      refine k_get 22 7 rfl rfl qX4_placeNext_wX4 (by decide) qX4_placeNext_f27 rfl dX4_placeNext_45 ?_
      refine k_aload_n dX4_placeNext_48 2 rfl rfl ?_
      refine k_get 22 11 rfl rfl qX4_placeNext_wX4 (by decide) qX4_placeNext_f39 rfl dX4_placeNext_49 ?_
      refine k_iald 28 0 rfl rfl dX4_placeNext_52 h (fun v6 h => ?_)
      refine k_istore_n (i := 3) (lv' := fun x => [(3, .int x), (2, .int x2_5), (1, .int x1_3), (0, .ref (ad 22))]) dX4_placeNext_53 rfl (Nat.le_of_ble_eq_true rfl) (fun _ => rfl) h (fun x3_7 h => ?_)
      refine k_aload_n dX4_placeNext_54 3 rfl rfl ?_
      refine k_get 22 8 rfl rfl qX4_placeNext_wX4 (by decide) qX4_placeNext_f30 rfl dX4_placeNext_55 ?_
      refine k_aload_n dX4_placeNext_58 3 rfl rfl ?_
      refine k_get 22 11 rfl rfl qX4_placeNext_wX4 (by decide) qX4_placeNext_f39 rfl dX4_placeNext_59 ?_
      refine k_iald 29 0 rfl rfl dX4_placeNext_62 h (fun v8 h => ?_)
      refine k_istore (i := 4) (lv' := fun x => [(4, .int x), (3, .int x3_7), (2, .int x2_5), (1, .int x1_3), (0, .ref (ad 22))]) dX4_placeNext_63 (Nat.le_of_ble_eq_true rfl) (fun _ => rfl) h (fun x4_9 h => ?_)
      refine k_aload_n dX4_placeNext_65 4 rfl rfl ?_
      refine k_get 22 9 rfl rfl qX4_placeNext_wX4 (by decide) qX4_placeNext_f33 rfl dX4_placeNext_66 ?_
      refine k_aload_n dX4_placeNext_69 4 rfl rfl ?_
      refine k_get 22 11 rfl rfl qX4_placeNext_wX4 (by decide) qX4_placeNext_f39 rfl dX4_placeNext_70 ?_
      refine k_iald 30 0 rfl rfl dX4_placeNext_73 h (fun v10 h => ?_)
      refine k_istore (i := 5) (lv' := fun x => [(5, .int x), (4, .int x4_9), (3, .int x3_7), (2, .int x2_5), (1, .int x1_3), (0, .ref (ad 22))]) dX4_placeNext_74 (Nat.le_of_ble_eq_true rfl) (fun _ => rfl) h (fun x5_11 h => ?_)
      refine k_aload_n dX4_placeNext_76 5 rfl rfl ?_
      refine k_dup dX4_placeNext_77 rfl ?_
      refine k_get 22 12 rfl rfl qX4_placeNext_wX4 (by decide) qX4_placeNext_f43 rfl dX4_placeNext_78 ?_
      refine k_iconst (v := 1) dX4_placeNext_81 (by decide) ?_
      refine k_iadd dX4_placeNext_82 ?_
      refine k_put (L' := [(21, (ad 21, .inl (cJ, 102, .inr (.inl h_traced)))), (22, (ad 22, .inr (4, [.ref (ad 1), .ref (ad 17), .ref (ad 23), .ref (ad 24), .ref (ad 25), .ref (ad 26), .ref (ad 27), .ref (ad 28), .ref (ad 29), .ref (ad 30), .ref (ad 31), .int (t_waiting - 1), .int (t_size + 1), .int t_skipped]))), (23, (ad 23, .inl (cI, 1050, .inl t_cells))), (24, (ad 24, .inl (cI, 150, .inl t_hints))), (25, (ad 25, .inl (cI, 150, .inl t_within))), (26, (ad 26, .inl (cI, 5, .inl t_begins))), (27, (ad 27, .inl (cI, 150, .inl t_waitSymbols))), (28, (ad 28, .inl (cI, 150, .inl t_waitParents))), (29, (ad 29, .inl (cI, 150, .inl t_waitFirsts))), (30, (ad 30, .inl (cI, 150, .inl t_waitEnds))), (31, (ad 31, .inl (cI, 150, .inl t_waitHints)))]) 22 12 rfl rfl qX4_placeNext_wX4 (by decide) tyX4 tyX4_ok nmX4 rfl qX4_placeNext_f43 rfl (tyX4_ok 12 (by decide)) rfl rfl (Nat.le_of_ble_eq_true rfl) dX4_placeNext_83 rfl ?_
      refine k_iload_n dX4_placeNext_86 4 rfl rfl ?_
      refine k_bipush (v := 7) dX4_placeNext_87 (by decide) ?_
      refine k_imul dX4_placeNext_89 ?_
      refine k_istore (i := 6) (lv' := fun x => [(6, .int x), (5, .int x5_11), (4, .int x4_9), (3, .int x3_7), (2, .int x2_5), (1, .int x1_3), (0, .ref (ad 22))]) dX4_placeNext_90 (Nat.le_of_ble_eq_true rfl) (fun _ => rfl) h (fun x6_13 h => ?_)
      refine k_aload_n dX4_placeNext_92 6 rfl rfl ?_
      refine k_get 22 2 rfl rfl qX4_placeNext_wX4 (by decide) qX4_placeNext_f11 rfl dX4_placeNext_93 ?_
      refine k_iload dX4_placeNext_96 0 rfl ?_
      refine k_iconst (v := 1) dX4_placeNext_98 (by decide) ?_
      refine k_iadd dX4_placeNext_99 ?_
      refine k_iload_n dX4_placeNext_100 4 rfl rfl ?_
      refine k_iast (L' := fun f => [(21, (ad 21, .inl (cJ, 102, .inr (.inl h_traced)))), (22, (ad 22, .inr (4, [.ref (ad 1), .ref (ad 17), .ref (ad 23), .ref (ad 24), .ref (ad 25), .ref (ad 26), .ref (ad 27), .ref (ad 28), .ref (ad 29), .ref (ad 30), .ref (ad 31), .int (t_waiting - 1), .int (t_size + 1), .int t_skipped]))), (23, (ad 23, .inl (cI, 1050, .inl f))), (24, (ad 24, .inl (cI, 150, .inl t_hints))), (25, (ad 25, .inl (cI, 150, .inl t_within))), (26, (ad 26, .inl (cI, 5, .inl t_begins))), (27, (ad 27, .inl (cI, 150, .inl t_waitSymbols))), (28, (ad 28, .inl (cI, 150, .inl t_waitParents))), (29, (ad 29, .inl (cI, 150, .inl t_waitFirsts))), (30, (ad 30, .inl (cI, 150, .inl t_waitEnds))), (31, (ad 31, .inl (cI, 150, .inl t_waitHints)))]) 23 0 rfl rfl rfl dX4_placeNext_101 h (fun _ => rfl) (fun t_cells_14 h => ?_)
      refine k_aload_n dX4_placeNext_102 6 rfl rfl ?_
      refine k_get 22 2 rfl rfl qX4_placeNext_wX4 (by decide) qX4_placeNext_f11 rfl dX4_placeNext_103 ?_
      refine k_iload dX4_placeNext_106 0 rfl ?_
      refine k_iconst (v := 2) dX4_placeNext_108 (by decide) ?_
      refine k_iadd dX4_placeNext_109 ?_
      refine k_iload_n dX4_placeNext_110 3 rfl rfl ?_
      refine k_iast (L' := fun f => [(21, (ad 21, .inl (cJ, 102, .inr (.inl h_traced)))), (22, (ad 22, .inr (4, [.ref (ad 1), .ref (ad 17), .ref (ad 23), .ref (ad 24), .ref (ad 25), .ref (ad 26), .ref (ad 27), .ref (ad 28), .ref (ad 29), .ref (ad 30), .ref (ad 31), .int (t_waiting - 1), .int (t_size + 1), .int t_skipped]))), (23, (ad 23, .inl (cI, 1050, .inl f))), (24, (ad 24, .inl (cI, 150, .inl t_hints))), (25, (ad 25, .inl (cI, 150, .inl t_within))), (26, (ad 26, .inl (cI, 5, .inl t_begins))), (27, (ad 27, .inl (cI, 150, .inl t_waitSymbols))), (28, (ad 28, .inl (cI, 150, .inl t_waitParents))), (29, (ad 29, .inl (cI, 150, .inl t_waitFirsts))), (30, (ad 30, .inl (cI, 150, .inl t_waitEnds))), (31, (ad 31, .inl (cI, 150, .inl t_waitHints)))]) 23 0 rfl rfl rfl dX4_placeNext_111 h (fun _ => rfl) (fun t_cells_15 h => ?_)
      refine k_aload_n dX4_placeNext_112 6 rfl rfl ?_
      refine k_get 22 2 rfl rfl qX4_placeNext_wX4 (by decide) qX4_placeNext_f11 rfl dX4_placeNext_113 ?_
      refine k_iload dX4_placeNext_116 0 rfl ?_
      refine k_iconst (v := 3) dX4_placeNext_118 (by decide) ?_
      refine k_iadd dX4_placeNext_119 ?_
      refine k_iload dX4_placeNext_120 2 rfl ?_
      refine k_iast (L' := fun f => [(21, (ad 21, .inl (cJ, 102, .inr (.inl h_traced)))), (22, (ad 22, .inr (4, [.ref (ad 1), .ref (ad 17), .ref (ad 23), .ref (ad 24), .ref (ad 25), .ref (ad 26), .ref (ad 27), .ref (ad 28), .ref (ad 29), .ref (ad 30), .ref (ad 31), .int (t_waiting - 1), .int (t_size + 1), .int t_skipped]))), (23, (ad 23, .inl (cI, 1050, .inl f))), (24, (ad 24, .inl (cI, 150, .inl t_hints))), (25, (ad 25, .inl (cI, 150, .inl t_within))), (26, (ad 26, .inl (cI, 5, .inl t_begins))), (27, (ad 27, .inl (cI, 150, .inl t_waitSymbols))), (28, (ad 28, .inl (cI, 150, .inl t_waitParents))), (29, (ad 29, .inl (cI, 150, .inl t_waitFirsts))), (30, (ad 30, .inl (cI, 150, .inl t_waitEnds))), (31, (ad 31, .inl (cI, 150, .inl t_waitHints)))]) 23 0 rfl rfl rfl dX4_placeNext_122 h (fun _ => rfl) (fun t_cells_16 h => ?_)
      refine k_aload_n dX4_placeNext_123 6 rfl rfl ?_
      refine k_get 22 2 rfl rfl qX4_placeNext_wX4 (by decide) qX4_placeNext_f11 rfl dX4_placeNext_124 ?_
      refine k_iload dX4_placeNext_127 0 rfl ?_
      refine k_iconst (v := 4) dX4_placeNext_129 (by decide) ?_
      refine k_iadd dX4_placeNext_130 ?_
      refine k_iload dX4_placeNext_131 1 rfl ?_
      refine k_iload dX4_placeNext_133 2 rfl ?_
      refine k_isub dX4_placeNext_135 ?_
      refine k_iast (L' := fun f => [(21, (ad 21, .inl (cJ, 102, .inr (.inl h_traced)))), (22, (ad 22, .inr (4, [.ref (ad 1), .ref (ad 17), .ref (ad 23), .ref (ad 24), .ref (ad 25), .ref (ad 26), .ref (ad 27), .ref (ad 28), .ref (ad 29), .ref (ad 30), .ref (ad 31), .int (t_waiting - 1), .int (t_size + 1), .int t_skipped]))), (23, (ad 23, .inl (cI, 1050, .inl f))), (24, (ad 24, .inl (cI, 150, .inl t_hints))), (25, (ad 25, .inl (cI, 150, .inl t_within))), (26, (ad 26, .inl (cI, 5, .inl t_begins))), (27, (ad 27, .inl (cI, 150, .inl t_waitSymbols))), (28, (ad 28, .inl (cI, 150, .inl t_waitParents))), (29, (ad 29, .inl (cI, 150, .inl t_waitFirsts))), (30, (ad 30, .inl (cI, 150, .inl t_waitEnds))), (31, (ad 31, .inl (cI, 150, .inl t_waitHints)))]) 23 0 rfl rfl rfl dX4_placeNext_136 h (fun _ => rfl) (fun t_cells_17 h => ?_)
      refine k_aload_n dX4_placeNext_137 6 rfl rfl ?_
      refine k_get 22 2 rfl rfl qX4_placeNext_wX4 (by decide) qX4_placeNext_f11 rfl dX4_placeNext_138 ?_
      refine k_iload dX4_placeNext_141 0 rfl ?_
      refine k_iconst (v := 5) dX4_placeNext_143 (by decide) ?_
      refine k_iadd dX4_placeNext_144 ?_
      refine k_aload_n dX4_placeNext_145 6 rfl rfl ?_
      refine k_get 22 1 rfl rfl qX4_placeNext_wX4 (by decide) qX4_placeNext_f53 rfl dX4_placeNext_146 ?_
      refine k_iload_n dX4_placeNext_149 4 rfl rfl ?_
      refine k_iload dX4_placeNext_150 2 rfl ?_
      refine k_iload dX4_placeNext_152 1 rfl ?_
      obtain ⟨r18, hr18, h⟩ := Option.bind_eq_some_iff.mp h
      refine k_calliV (As := [.int x2_5, .int x4_9, .int x5_11]) (st := [.int (x6_13 + 5), .ref (ad 23)]) (Lc := []) (L' := [(21, (ad 21, .inl (cJ, 102, .inr (.inl h_traced)))), (22, (ad 22, .inr (4, [.ref (ad 1), .ref (ad 17), .ref (ad 23), .ref (ad 24), .ref (ad 25), .ref (ad 26), .ref (ad 27), .ref (ad 28), .ref (ad 29), .ref (ad 30), .ref (ad 31), .int (t_waiting - 1), .int (t_size + 1), .int t_skipped]))), (23, (ad 23, .inl (cI, 1050, .inl t_cells_17))), (24, (ad 24, .inl (cI, 150, .inl t_hints))), (25, (ad 25, .inl (cI, 150, .inl t_within))), (26, (ad 26, .inl (cI, 5, .inl t_begins))), (27, (ad 27, .inl (cI, 150, .inl t_waitSymbols))), (28, (ad 28, .inl (cI, 150, .inl t_waitParents))), (29, (ad 29, .inl (cI, 150, .inl t_waitFirsts))), (30, (ad 30, .inl (cI, 150, .inl t_waitEnds))), (31, (ad 31, .inl (cI, 150, .inl t_waitHints)))]) (r := r18) gX4_placeNext_X0_costOf rfl rfl rfl hyVX0_costOf ⟨Nat.le_of_ble_eq_true rfl, Nat.le_of_ble_eq_true rfl⟩ rfl rfl (Nat.le_of_ble_eq_true rfl) 17 E.2.2.2.2.1 rfl dX4_placeNext_154 (fun w z hw => c_X0_costOf (cI := cI) (cB := cB) (cJ := cJ) (cZ := cZ) (ad := ad) w z ⟨((hw 17).trans E.2.2.2.2.1), ((hw 18).trans E.2.2.2.2.2.1)⟩  hr18) rfl rfl ?_
      refine k_iast (L' := fun f => [(21, (ad 21, .inl (cJ, 102, .inr (.inl h_traced)))), (22, (ad 22, .inr (4, [.ref (ad 1), .ref (ad 17), .ref (ad 23), .ref (ad 24), .ref (ad 25), .ref (ad 26), .ref (ad 27), .ref (ad 28), .ref (ad 29), .ref (ad 30), .ref (ad 31), .int (t_waiting - 1), .int (t_size + 1), .int t_skipped]))), (23, (ad 23, .inl (cI, 1050, .inl f))), (24, (ad 24, .inl (cI, 150, .inl t_hints))), (25, (ad 25, .inl (cI, 150, .inl t_within))), (26, (ad 26, .inl (cI, 5, .inl t_begins))), (27, (ad 27, .inl (cI, 150, .inl t_waitSymbols))), (28, (ad 28, .inl (cI, 150, .inl t_waitParents))), (29, (ad 29, .inl (cI, 150, .inl t_waitFirsts))), (30, (ad 30, .inl (cI, 150, .inl t_waitEnds))), (31, (ad 31, .inl (cI, 150, .inl t_waitHints)))]) 23 0 rfl rfl rfl dX4_placeNext_157 h (fun _ => rfl) (fun t_cells_19 h => ?_)
      refine k_aload_n dX4_placeNext_158 6 rfl rfl ?_
      refine k_get 22 3 rfl rfl qX4_placeNext_wX4 (by decide) qX4_placeNext_f15 rfl dX4_placeNext_159 ?_
      refine k_iload_n dX4_placeNext_162 5 rfl rfl ?_
      refine k_aload_n dX4_placeNext_163 6 rfl rfl ?_
      refine k_get 22 10 rfl rfl qX4_placeNext_wX4 (by decide) qX4_placeNext_f36 rfl dX4_placeNext_164 ?_
      refine k_aload_n dX4_placeNext_167 6 rfl rfl ?_
      refine k_get 22 11 rfl rfl qX4_placeNext_wX4 (by decide) qX4_placeNext_f39 rfl dX4_placeNext_168 ?_
      refine k_iald 31 0 rfl rfl dX4_placeNext_171 h (fun v20 h => ?_)
      refine k_iast (L' := fun f => [(21, (ad 21, .inl (cJ, 102, .inr (.inl h_traced)))), (22, (ad 22, .inr (4, [.ref (ad 1), .ref (ad 17), .ref (ad 23), .ref (ad 24), .ref (ad 25), .ref (ad 26), .ref (ad 27), .ref (ad 28), .ref (ad 29), .ref (ad 30), .ref (ad 31), .int (t_waiting - 1), .int (t_size + 1), .int t_skipped]))), (23, (ad 23, .inl (cI, 1050, .inl t_cells_19))), (24, (ad 24, .inl (cI, 150, .inl f))), (25, (ad 25, .inl (cI, 150, .inl t_within))), (26, (ad 26, .inl (cI, 5, .inl t_begins))), (27, (ad 27, .inl (cI, 150, .inl t_waitSymbols))), (28, (ad 28, .inl (cI, 150, .inl t_waitParents))), (29, (ad 29, .inl (cI, 150, .inl t_waitFirsts))), (30, (ad 30, .inl (cI, 150, .inl t_waitEnds))), (31, (ad 31, .inl (cI, 150, .inl t_waitHints)))]) 24 0 rfl rfl rfl dX4_placeNext_172 h (fun _ => rfl) (fun t_hints_21 h => ?_)
      refine k_aload_n dX4_placeNext_173 6 rfl rfl ?_
      refine k_get 22 4 rfl rfl qX4_placeNext_wX4 (by decide) qX4_placeNext_f18 rfl dX4_placeNext_174 ?_
      refine k_iload_n dX4_placeNext_177 5 rfl rfl ?_
      refine k_iload_n dX4_placeNext_178 3 rfl rfl ?_
      refine k_iconst (v := (-1)) dX4_placeNext_179 (by decide) ?_
      refine k_icmp_ne 187 dX4_placeNext_180 (by decide) h (fun h => ?_) (fun h => ?_)
      · skip
        refine k_iconst (v := 0) dX4_placeNext_183 (by decide) ?_
        refine k_goto 195 dX4_placeNext_184 (by decide) ?_
        refine k_sub [6, 5, 4, 2, 1, 0] rfl ?_
        exact wjn_X4_placeNext_195 (cI := cI) (cB := cB) (cJ := cJ) (cZ := cZ) (ad := ad) E  _ _ _ _ _ _ _ _ _ _ _ _ _ _ _ _ _ _ _ h
      · skip
        refine k_aload_n dX4_placeNext_187 6 rfl rfl ?_
        refine k_get 22 4 rfl rfl qX4_placeNext_wX4 (by decide) qX4_placeNext_f18 rfl dX4_placeNext_188 ?_
        refine k_iload_n dX4_placeNext_191 3 rfl rfl ?_
        refine k_iald 25 0 rfl rfl dX4_placeNext_192 h (fun v30 h => ?_)
        refine k_iconst (v := 1) dX4_placeNext_193 (by decide) ?_
        refine k_iadd dX4_placeNext_194 ?_
        refine k_sub [6, 5, 4, 2, 1, 0] rfl ?_
        exact wjn_X4_placeNext_195 (cI := cI) (cB := cB) (cJ := cJ) (cZ := cZ) (ad := ad) E  _ _ _ _ _ _ _ _ _ _ _ _ _ _ _ _ _ _ _ h
    · skip
      refine k_sub [] rfl ?_
      exact wjn_X4_placeNext_17 (cI := cI) (cB := cB) (cJ := cJ) (cZ := cZ) (ad := ad) E  _ _ _ _ _ _ _ _ _ _ _ _ h
