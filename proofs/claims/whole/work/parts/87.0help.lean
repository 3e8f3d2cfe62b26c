/-! the law's helpers -/
theorem wr_one (out : Nat → Int64) (x : Int64) : (wrL out 1 0 x).bind some = some (vp_updL out 0 x) := by
  rw [show (0 : Int32) = nI 0 from rfl, wrL_nI (by decide) (by decide)]
  rfl
abbrev rmL_rest : Room := { frames := 7, cells := 1, slots := 6, locals := 102 }
abbrev xL_rest : KX := (rmL_rest, cL_rest, 3, some .int, RL, wsL_rest)
theorem hySL_rest : yL_rest.cls ≠ "java/lang/invoke/MethodHandle" ∧ yL_rest.cls ≠ "java/lang/invoke/VarHandle" ∧ (parseMethodDescriptor yL_rest.desc).map (fun d => d.parameters.length) = some 2 := by decide +kernel
theorem qL_rest_cl15 : Cond.classLink RL 15 "java/lang/IllegalStateException" ∈ wsL_rest := by decide +kernel
set_option maxHeartbeats 4000000 in
set_option maxRecDepth 100000 in
theorem c_L_rest {l : Launch} {D : va_G} {cI cB cJ cZ : ClassId} {ad : Nat → Nat} (ws : va_W) (z : Nat) {k_length : Int32} {k_repaired : Int32} {k_spent : Int32} {t_waiting : Int32} {t_size : Int32} {t_skipped : Int32} {out : Nat → Int64} (E : l.stackTraces = false ∧ (ws[0]? = some (ad 0, .inr (5, [.ref (ad 1), .ref (ad 8), .int k_length, .ref (ad 9), .ref (ad 17), .ref (ad 22), .ref (ad 32), .int k_repaired, .int k_spent])) ∧ ws[22]? = some (ad 22, .inr (4, [.ref (ad 1), .ref (ad 17), .ref (ad 23), .ref (ad 24), .ref (ad 25), .ref (ad 26), .ref (ad 27), .ref (ad 28), .ref (ad 29), .ref (ad 30), .ref (ad 31), .int t_waiting, .int t_size, .int t_skipped]))))  (e68 : ws[68]? = some (ad 68, .inl (cJ, 1, .inr (.inl out))))  {o : Int32 × Int32} (h : f_X5_rest t_size t_skipped = some o) {r : Int32} {out' : Nat → Int64} (hr : (o.1 = 0 ∧ r = 0 ∧ out' = vp_updL out 0 o.2.toInt64) ∨ (o.1 = 2 ∧ r = 1 ∧ out' = out)) : Met l yL_rest wsL_rest rmL_rest (kPx D (kT cI cB cJ cZ) [.ref (ad 0), .ref (ad 68)] ws z) (kQi D (kT cI cB cJ cZ) r [(68, (ad 68, .inl (cJ, 1, .inr (.inl out'))))] ws z) 1 6 (va_A ws z) := by
  refine KG.metH (rm := rmL_rest) (lv := [(0, .ref (ad 0)), (1, .ref (ad 68))]) (L := [(68, (ad 68, .inl (cJ, 1, .inr (.inl out))))]) rfl (by decide) (Nat.le_of_ble_eq_true rfl) rfl (by intro q hq; simp only [List.mem_cons, List.not_mem_nil, or_false] at hq; rcases hq with rfl; assumption) ?_
  rcases hr with ⟨h0, rfl, rfl⟩ | ⟨h0, rfl, h9⟩
  · skip
    refine k_aload_n dL_rest_0 1 rfl rfl ?_
    refine k_iconst (v := 0) dL_rest_1 (by decide) ?_
    refine k_aload_n dL_rest_2 0 rfl rfl ?_
    refine k_callX0 (As := []) (st := [.int 0, .ref (ad 68)]) (Lc := []) (L' := [(68, (ad 68, .inl (cJ, 1, .inr (.inl out))))]) (r := o.2) (kc := o.1) h0 gL_rest_X5_rest rfl rfl rfl hyVX5_rest ⟨Nat.le_of_ble_eq_true rfl, Nat.le_of_ble_eq_true rfl⟩ ⟨Nat.le_of_ble_eq_true rfl, Nat.le_of_ble_eq_true rfl⟩ rfl rfl (Nat.le_of_ble_eq_true rfl) 0 E.2.1 rfl dL_rest_3 (fun w z hw => c_X5_rest (cI := cI) (cB := cB) (cJ := cJ) (cZ := cZ) (ad := ad) w z ⟨E.1, ⟨((hw 0).trans E.2.1), ((hw 22).trans E.2.2)⟩⟩  h) rfl rfl ?_
    refine k_i2l dL_rest_6 ?_
    refine k_last (L' := fun f => [(68, (ad 68, .inl (cJ, 1, .inr (.inl f))))]) 68 2 rfl rfl rfl dL_rest_7 (wr_one out _) (fun _ => rfl) (fun f hf => ?_)
    obtain rfl := Option.some.inj hf
    refine k_goto 14 dL_rest_8 (by decide) ?_
    refine k_iconst (v := 0) dL_rest_14 (by decide) ?_
    exact k_hret ⟨Nat.le_of_ble_eq_true rfl, Nat.le_of_ble_eq_true rfl⟩ rfl dL_rest_15
  · obtain rfl := h9.symm
    refine k_aload_n dL_rest_0 1 rfl rfl ?_
    refine k_iconst (v := 0) dL_rest_1 (by decide) ?_
    refine k_aload_n dL_rest_2 0 rfl rfl ?_
    refine k_callX1 (As := []) (st := [.int 0, .ref (ad 68)]) (Lc := []) (L' := [(68, (ad 68, .inl (cJ, 1, .inr (.inl out))))]) (r := o.2) (kc := o.1) "java/lang/IllegalStateException" (by decide) (by rw [h0]; decide) (by rw [h0]; decide) [] ⟨0, 8, 11, 15⟩ [] rfl (fun z hz => nomatch hz) (by decide) (by decide) qL_rest_cl15 gL_rest_X5_rest rfl rfl rfl hyVX5_rest ⟨Nat.le_of_ble_eq_true rfl, Nat.le_of_ble_eq_true rfl⟩ ⟨Nat.le_of_ble_eq_true rfl, Nat.le_of_ble_eq_true rfl⟩ rfl rfl (Nat.le_of_ble_eq_true rfl) 0 E.2.1 rfl dL_rest_3 (fun w z hw => c_X5_rest (cI := cI) (cB := cB) (cJ := cJ) (cZ := cZ) (ad := ad) w z ⟨E.1, ⟨((hw 0).trans E.2.1), ((hw 22).trans E.2.2)⟩⟩  h) rfl rfl (fun q9 => ?_)
    refine k_astore_n (i := 2) (lv' := [(2, .ref q9), (0, .ref (ad 0)), (1, .ref (ad 68))]) dL_rest_11 rfl (Nat.le_of_ble_eq_true rfl) rfl ?_
    refine k_iconst (v := 1) dL_rest_12 (by decide) ?_
    exact k_hret ⟨Nat.le_of_ble_eq_true rfl, Nat.le_of_ble_eq_true rfl⟩ rfl dL_rest_13

abbrev rmL_token : Room := { frames := 7, cells := 1, slots := 6, locals := 104 }
abbrev xL_token : KX := (rmL_token, cL_token, 5, some .int, RL, wsL_token)
theorem hySL_token : yL_token.cls ≠ "java/lang/invoke/MethodHandle" ∧ yL_token.cls ≠ "java/lang/invoke/VarHandle" ∧ (parseMethodDescriptor yL_token.desc).map (fun d => d.parameters.length) = some 4 := by decide +kernel
theorem qL_token_cl31 : Cond.classLink RL 31 "java/lang/IndexOutOfBoundsException" ∈ wsL_token := by decide +kernel
set_option maxHeartbeats 4000000 in
set_option maxRecDepth 100000 in
theorem c_L_token {l : Launch} {D : va_G} {cI cB cJ cZ : ClassId} {ad : Nat → Nat} (ws : va_W) (z : Nat) {k_length : Int32} {k_repaired : Int32} {k_spent : Int32} {c_length : Int32} {c_size : Int32} {c_comments : Int32} {c_lengths : Nat → Int32} {c_signs : Nat → Int32} {c_firstComments : Nat → Int32} {t_waiting : Int32} {t_size : Int32} {t_skipped : Int32} {out : Nat → Int64} (E : l.stackTraces = false ∧ (ws[0]? = some (ad 0, .inr (5, [.ref (ad 1), .ref (ad 8), .int k_length, .ref (ad 9), .ref (ad 17), .ref (ad 22), .ref (ad 32), .int k_repaired, .int k_spent])) ∧ ws[9]? = some (ad 9, .inr (1, [.ref (ad 10), .int c_length, .ref (ad 11), .ref (ad 12), .ref (ad 13), .ref (ad 14), .ref (ad 15), .ref (ad 16), .int c_size, .int c_comments])) ∧ ws[12]? = some (ad 12, .inl (cI, 16, .inl c_lengths)) ∧ ws[13]? = some (ad 13, .inl (cI, 16, .inl c_signs)) ∧ ws[14]? = some (ad 14, .inl (cI, 18, .inl c_firstComments)) ∧ ws[22]? = some (ad 22, .inr (4, [.ref (ad 1), .ref (ad 17), .ref (ad 23), .ref (ad 24), .ref (ad 25), .ref (ad 26), .ref (ad 27), .ref (ad 28), .ref (ad 29), .ref (ad 30), .ref (ad 31), .int t_waiting, .int t_size, .int t_skipped]))))  (e68 : ws[68]? = some (ad 68, .inl (cJ, 1, .inr (.inl out)))) {ha1 : Int32} {ha2 : Int32} {o : Int32 × Int32} (h : f_X5_token ha1 ha2 c_size c_lengths c_signs c_firstComments t_size = some o) {r : Int32} {out' : Nat → Int64} (hr : (o.1 = 0 ∧ r = 0 ∧ out' = vp_updL out 0 o.2.toInt64) ∨ (o.1 = 4 ∧ r = 1 ∧ out' = out)) : Met l yL_token wsL_token rmL_token (kPx D (kT cI cB cJ cZ) [.ref (ad 0), .int ha1, .int ha2, .ref (ad 68)] ws z) (kQi D (kT cI cB cJ cZ) r [(68, (ad 68, .inl (cJ, 1, .inr (.inl out'))))] ws z) 1 6 (va_A ws z) := by
  refine KG.metH (rm := rmL_token) (lv := [(0, .ref (ad 0)), (1, .int ha1), (2, .int ha2), (3, .ref (ad 68))]) (L := [(68, (ad 68, .inl (cJ, 1, .inr (.inl out))))]) rfl (by decide) (Nat.le_of_ble_eq_true rfl) rfl (by intro q hq; simp only [List.mem_cons, List.not_mem_nil, or_false] at hq; rcases hq with rfl; assumption) ?_
  rcases hr with ⟨h0, rfl, rfl⟩ | ⟨h0, rfl, h9⟩
  · skip
    refine k_aload_n dL_token_0 3 rfl rfl ?_
    refine k_iconst (v := 0) dL_token_1 (by decide) ?_
    refine k_aload_n dL_token_2 0 rfl rfl ?_
    refine k_iload_n dL_token_3 1 rfl rfl ?_
    refine k_iload_n dL_token_4 2 rfl rfl ?_
    refine k_callX0 (As := [.int ha1, .int ha2]) (st := [.int 0, .ref (ad 68)]) (Lc := []) (L' := [(68, (ad 68, .inl (cJ, 1, .inr (.inl out))))]) (r := o.2) (kc := o.1) h0 gL_token_X5_token rfl rfl rfl hyVX5_token ⟨Nat.le_of_ble_eq_true rfl, Nat.le_of_ble_eq_true rfl⟩ ⟨Nat.le_of_ble_eq_true rfl, Nat.le_of_ble_eq_true rfl⟩ rfl rfl (Nat.le_of_ble_eq_true rfl) 0 E.2.1 rfl dL_token_5 (fun w z hw => c_X5_token (cI := cI) (cB := cB) (cJ := cJ) (cZ := cZ) (ad := ad) w z ⟨E.1, ⟨((hw 0).trans E.2.1), ((hw 9).trans E.2.2.1), ((hw 12).trans E.2.2.2.1), ((hw 13).trans E.2.2.2.2.1), ((hw 14).trans E.2.2.2.2.2.1), ((hw 22).trans E.2.2.2.2.2.2)⟩⟩  h) rfl rfl ?_
    refine k_i2l dL_token_8 ?_
    refine k_last (L' := fun f => [(68, (ad 68, .inl (cJ, 1, .inr (.inl f))))]) 68 2 rfl rfl rfl dL_token_9 (wr_one out _) (fun _ => rfl) (fun f hf => ?_)
    obtain rfl := Option.some.inj hf
    refine k_goto 17 dL_token_10 (by decide) ?_
    refine k_iconst (v := 0) dL_token_17 (by decide) ?_
    exact k_hret ⟨Nat.le_of_ble_eq_true rfl, Nat.le_of_ble_eq_true rfl⟩ rfl dL_token_18
  · obtain rfl := h9.symm
    refine k_aload_n dL_token_0 3 rfl rfl ?_
    refine k_iconst (v := 0) dL_token_1 (by decide) ?_
    refine k_aload_n dL_token_2 0 rfl rfl ?_
    refine k_iload_n dL_token_3 1 rfl rfl ?_
    refine k_iload_n dL_token_4 2 rfl rfl ?_
    refine k_callX1 (As := [.int ha1, .int ha2]) (st := [.int 0, .ref (ad 68)]) (Lc := []) (L' := [(68, (ad 68, .inl (cJ, 1, .inr (.inl out))))]) (r := o.2) (kc := o.1) "java/lang/IndexOutOfBoundsException" (by decide) (by rw [h0]; decide) (by rw [h0]; decide) [] ⟨0, 10, 13, 31⟩ [] rfl (fun z hz => nomatch hz) (by decide) (by decide) qL_token_cl31 gL_token_X5_token rfl rfl rfl hyVX5_token ⟨Nat.le_of_ble_eq_true rfl, Nat.le_of_ble_eq_true rfl⟩ ⟨Nat.le_of_ble_eq_true rfl, Nat.le_of_ble_eq_true rfl⟩ rfl rfl (Nat.le_of_ble_eq_true rfl) 0 E.2.1 rfl dL_token_5 (fun w z hw => c_X5_token (cI := cI) (cB := cB) (cJ := cJ) (cZ := cZ) (ad := ad) w z ⟨E.1, ⟨((hw 0).trans E.2.1), ((hw 9).trans E.2.2.1), ((hw 12).trans E.2.2.2.1), ((hw 13).trans E.2.2.2.2.1), ((hw 14).trans E.2.2.2.2.2.1), ((hw 22).trans E.2.2.2.2.2.2)⟩⟩  h) rfl rfl (fun q9 => ?_)
    refine k_astore (i := 4) (lv' := [(4, .ref q9), (0, .ref (ad 0)), (1, .int ha1), (2, .int ha2), (3, .ref (ad 68))]) dL_token_13 (Nat.le_of_ble_eq_true rfl) rfl ?_
    refine k_iconst (v := 1) dL_token_15 (by decide) ?_
    exact k_hret ⟨Nat.le_of_ble_eq_true rfl, Nat.le_of_ble_eq_true rfl⟩ rfl dL_token_16

abbrev rmL_part : Room := { frames := 7, cells := 1, slots := 6, locals := 104 }
abbrev xL_part : KX := (rmL_part, cL_part, 5, some .int, RL, wsL_part)
theorem hySL_part : yL_part.cls ≠ "java/lang/invoke/MethodHandle" ∧ yL_part.cls ≠ "java/lang/invoke/VarHandle" ∧ (parseMethodDescriptor yL_part.desc).map (fun d => d.parameters.length) = some 4 := by decide +kernel
theorem qL_part_cl31 : Cond.classLink RL 31 "java/lang/IndexOutOfBoundsException" ∈ wsL_part := by decide +kernel
set_option maxHeartbeats 4000000 in
set_option maxRecDepth 100000 in
theorem c_L_part {l : Launch} {D : va_G} {cI cB cJ cZ : ClassId} {ad : Nat → Nat} (ws : va_W) (z : Nat) {k_length : Int32} {k_repaired : Int32} {k_spent : Int32} {t_waiting : Int32} {t_size : Int32} {t_skipped : Int32} {t_cells : Nat → Int32} {out : Nat → Int64} (E : l.stackTraces = false ∧ (ws[0]? = some (ad 0, .inr (5, [.ref (ad 1), .ref (ad 8), .int k_length, .ref (ad 9), .ref (ad 17), .ref (ad 22), .ref (ad 32), .int k_repaired, .int k_spent])) ∧ ws[22]? = some (ad 22, .inr (4, [.ref (ad 1), .ref (ad 17), .ref (ad 23), .ref (ad 24), .ref (ad 25), .ref (ad 26), .ref (ad 27), .ref (ad 28), .ref (ad 29), .ref (ad 30), .ref (ad 31), .int t_waiting, .int t_size, .int t_skipped])) ∧ ws[23]? = some (ad 23, .inl (cI, 1050, .inl t_cells))))  (e68 : ws[68]? = some (ad 68, .inl (cJ, 1, .inr (.inl out)))) {ha1 : Int32} {ha2 : Int32} {o : Int32 × Int32} (h : f_X5_part ha1 ha2 t_size t_cells = some o) {r : Int32} {out' : Nat → Int64} (hr : (o.1 = 0 ∧ r = 0 ∧ out' = vp_updL out 0 o.2.toInt64) ∨ (o.1 = 4 ∧ r = 1 ∧ out' = out)) : Met l yL_part wsL_part rmL_part (kPx D (kT cI cB cJ cZ) [.ref (ad 0), .int ha1, .int ha2, .ref (ad 68)] ws z) (kQi D (kT cI cB cJ cZ) r [(68, (ad 68, .inl (cJ, 1, .inr (.inl out'))))] ws z) 1 6 (va_A ws z) := by
  refine KG.metH (rm := rmL_part) (lv := [(0, .ref (ad 0)), (1, .int ha1), (2, .int ha2), (3, .ref (ad 68))]) (L := [(68, (ad 68, .inl (cJ, 1, .inr (.inl out))))]) rfl (by decide) (Nat.le_of_ble_eq_true rfl) rfl (by intro q hq; simp only [List.mem_cons, List.not_mem_nil, or_false] at hq; rcases hq with rfl; assumption) ?_
  rcases hr with ⟨h0, rfl, rfl⟩ | ⟨h0, rfl, h9⟩
  · skip
    refine k_aload_n dL_part_0 3 rfl rfl ?_
    refine k_iconst (v := 0) dL_part_1 (by decide) ?_
    refine k_aload_n dL_part_2 0 rfl rfl ?_
    refine k_iload_n dL_part_3 1 rfl rfl ?_
    refine k_iload_n dL_part_4 2 rfl rfl ?_
    refine k_callX0 (As := [.int ha1, .int ha2]) (st := [.int 0, .ref (ad 68)]) (Lc := []) (L' := [(68, (ad 68, .inl (cJ, 1, .inr (.inl out))))]) (r := o.2) (kc := o.1) h0 gL_part_X5_part rfl rfl rfl hyVX5_part ⟨Nat.le_of_ble_eq_true rfl, Nat.le_of_ble_eq_true rfl⟩ ⟨Nat.le_of_ble_eq_true rfl, Nat.le_of_ble_eq_true rfl⟩ rfl rfl (Nat.le_of_ble_eq_true rfl) 0 E.2.1 rfl dL_part_5 (fun w z hw => c_X5_part (cI := cI) (cB := cB) (cJ := cJ) (cZ := cZ) (ad := ad) w z ⟨E.1, ⟨((hw 0).trans E.2.1), ((hw 22).trans E.2.2.1), ((hw 23).trans E.2.2.2)⟩⟩  h) rfl rfl ?_
    refine k_i2l dL_part_8 ?_
    refine k_last (L' := fun f => [(68, (ad 68, .inl (cJ, 1, .inr (.inl f))))]) 68 2 rfl rfl rfl dL_part_9 (wr_one out _) (fun _ => rfl) (fun f hf => ?_)
    obtain rfl := Option.some.inj hf
    refine k_goto 17 dL_part_10 (by decide) ?_
    refine k_iconst (v := 0) dL_part_17 (by decide) ?_
    exact k_hret ⟨Nat.le_of_ble_eq_true rfl, Nat.le_of_ble_eq_true rfl⟩ rfl dL_part_18
  · obtain rfl := h9.symm
    refine k_aload_n dL_part_0 3 rfl rfl ?_
    refine k_iconst (v := 0) dL_part_1 (by decide) ?_
    refine k_aload_n dL_part_2 0 rfl rfl ?_
    refine k_iload_n dL_part_3 1 rfl rfl ?_
    refine k_iload_n dL_part_4 2 rfl rfl ?_
    refine k_callX1 (As := [.int ha1, .int ha2]) (st := [.int 0, .ref (ad 68)]) (Lc := []) (L' := [(68, (ad 68, .inl (cJ, 1, .inr (.inl out))))]) (r := o.2) (kc := o.1) "java/lang/IndexOutOfBoundsException" (by decide) (by rw [h0]; decide) (by rw [h0]; decide) [] ⟨0, 10, 13, 31⟩ [] rfl (fun z hz => nomatch hz) (by decide) (by decide) qL_part_cl31 gL_part_X5_part rfl rfl rfl hyVX5_part ⟨Nat.le_of_ble_eq_true rfl, Nat.le_of_ble_eq_true rfl⟩ ⟨Nat.le_of_ble_eq_true rfl, Nat.le_of_ble_eq_true rfl⟩ rfl rfl (Nat.le_of_ble_eq_true rfl) 0 E.2.1 rfl dL_part_5 (fun w z hw => c_X5_part (cI := cI) (cB := cB) (cJ := cJ) (cZ := cZ) (ad := ad) w z ⟨E.1, ⟨((hw 0).trans E.2.1), ((hw 22).trans E.2.2.1), ((hw 23).trans E.2.2.2)⟩⟩  h) rfl rfl (fun q9 => ?_)
    refine k_astore (i := 4) (lv' := [(4, .ref q9), (0, .ref (ad 0)), (1, .int ha1), (2, .int ha2), (3, .ref (ad 68))]) dL_part_13 (Nat.le_of_ble_eq_true rfl) rfl ?_
    refine k_iconst (v := 1) dL_part_15 (by decide) ?_
    exact k_hret ⟨Nat.le_of_ble_eq_true rfl, Nat.le_of_ble_eq_true rfl⟩ rfl dL_part_16

abbrev rmL_character : Room := { frames := 7, cells := 1, slots := 6, locals := 103 }
abbrev xL_character : KX := (rmL_character, cL_character, 4, some .int, RL, wsL_character)
theorem hySL_character : yL_character.cls ≠ "java/lang/invoke/MethodHandle" ∧ yL_character.cls ≠ "java/lang/invoke/VarHandle" ∧ (parseMethodDescriptor yL_character.desc).map (fun d => d.parameters.length) = some 3 := by decide +kernel
theorem qL_character_cl31 : Cond.classLink RL 31 "java/lang/IndexOutOfBoundsException" ∈ wsL_character := by decide +kernel
set_option maxHeartbeats 4000000 in
set_option maxRecDepth 100000 in
theorem c_L_character {l : Launch} {D : va_G} {cI cB cJ cZ : ClassId} {ad : Nat → Nat} (ws : va_W) (z : Nat) {k_length : Int32} {k_repaired : Int32} {k_spent : Int32} {p_size : Int32} {p_column : Int32} {p_sheet : Nat → Int32} {out : Nat → Int64} (E : l.stackTraces = false ∧ (ws[0]? = some (ad 0, .inr (5, [.ref (ad 1), .ref (ad 8), .int k_length, .ref (ad 9), .ref (ad 17), .ref (ad 22), .ref (ad 32), .int k_repaired, .int k_spent])) ∧ ws[32]? = some (ad 32, .inr (3, [.ref (ad 1), .ref (ad 9), .ref (ad 22), .ref (ad 33), .ref (ad 34), .ref (ad 35), .ref (ad 36), .int p_size, .int p_column])) ∧ ws[33]? = some (ad 33, .inl (cB, 1300, .inl p_sheet))))  (e68 : ws[68]? = some (ad 68, .inl (cJ, 1, .inr (.inl out)))) {ha1 : Int32} {o : Int32 × Int32} (h : f_X5_character ha1 p_size p_sheet = some o) {r : Int32} {out' : Nat → Int64} (hr : (o.1 = 0 ∧ r = 0 ∧ out' = vp_updL out 0 o.2.toInt64) ∨ (o.1 = 4 ∧ r = 1 ∧ out' = out)) : Met l yL_character wsL_character rmL_character (kPx D (kT cI cB cJ cZ) [.ref (ad 0), .int ha1, .ref (ad 68)] ws z) (kQi D (kT cI cB cJ cZ) r [(68, (ad 68, .inl (cJ, 1, .inr (.inl out'))))] ws z) 1 6 (va_A ws z) := by
  refine KG.metH (rm := rmL_character) (lv := [(0, .ref (ad 0)), (1, .int ha1), (2, .ref (ad 68))]) (L := [(68, (ad 68, .inl (cJ, 1, .inr (.inl out))))]) rfl (by decide) (Nat.le_of_ble_eq_true rfl) rfl (by intro q hq; simp only [List.mem_cons, List.not_mem_nil, or_false] at hq; rcases hq with rfl; assumption) ?_
  rcases hr with ⟨h0, rfl, rfl⟩ | ⟨h0, rfl, h9⟩
  · skip
    refine k_aload_n dL_character_0 2 rfl rfl ?_
    refine k_iconst (v := 0) dL_character_1 (by decide) ?_
    refine k_aload_n dL_character_2 0 rfl rfl ?_
    refine k_iload_n dL_character_3 1 rfl rfl ?_
    refine k_callX0 (As := [.int ha1]) (st := [.int 0, .ref (ad 68)]) (Lc := []) (L' := [(68, (ad 68, .inl (cJ, 1, .inr (.inl out))))]) (r := o.2) (kc := o.1) h0 gL_character_X5_character rfl rfl rfl hyVX5_character ⟨Nat.le_of_ble_eq_true rfl, Nat.le_of_ble_eq_true rfl⟩ ⟨Nat.le_of_ble_eq_true rfl, Nat.le_of_ble_eq_true rfl⟩ rfl rfl (Nat.le_of_ble_eq_true rfl) 0 E.2.1 rfl dL_character_4 (fun w z hw => c_X5_character (cI := cI) (cB := cB) (cJ := cJ) (cZ := cZ) (ad := ad) w z ⟨E.1, ⟨((hw 0).trans E.2.1), ((hw 32).trans E.2.2.1), ((hw 33).trans E.2.2.2)⟩⟩  h) rfl rfl ?_
    refine k_i2l dL_character_7 ?_
    refine k_last (L' := fun f => [(68, (ad 68, .inl (cJ, 1, .inr (.inl f))))]) 68 2 rfl rfl rfl dL_character_8 (wr_one out _) (fun _ => rfl) (fun f hf => ?_)
    obtain rfl := Option.some.inj hf
    refine k_goto 15 dL_character_9 (by decide) ?_
    refine k_iconst (v := 0) dL_character_15 (by decide) ?_
    exact k_hret ⟨Nat.le_of_ble_eq_true rfl, Nat.le_of_ble_eq_true rfl⟩ rfl dL_character_16
  · obtain rfl := h9.symm
    refine k_aload_n dL_character_0 2 rfl rfl ?_
    refine k_iconst (v := 0) dL_character_1 (by decide) ?_
    refine k_aload_n dL_character_2 0 rfl rfl ?_
    refine k_iload_n dL_character_3 1 rfl rfl ?_
    refine k_callX1 (As := [.int ha1]) (st := [.int 0, .ref (ad 68)]) (Lc := []) (L' := [(68, (ad 68, .inl (cJ, 1, .inr (.inl out))))]) (r := o.2) (kc := o.1) "java/lang/IndexOutOfBoundsException" (by decide) (by rw [h0]; decide) (by rw [h0]; decide) [] ⟨0, 9, 12, 31⟩ [] rfl (fun z hz => nomatch hz) (by decide) (by decide) qL_character_cl31 gL_character_X5_character rfl rfl rfl hyVX5_character ⟨Nat.le_of_ble_eq_true rfl, Nat.le_of_ble_eq_true rfl⟩ ⟨Nat.le_of_ble_eq_true rfl, Nat.le_of_ble_eq_true rfl⟩ rfl rfl (Nat.le_of_ble_eq_true rfl) 0 E.2.1 rfl dL_character_4 (fun w z hw => c_X5_character (cI := cI) (cB := cB) (cJ := cJ) (cZ := cZ) (ad := ad) w z ⟨E.1, ⟨((hw 0).trans E.2.1), ((hw 32).trans E.2.2.1), ((hw 33).trans E.2.2.2)⟩⟩  h) rfl rfl (fun q9 => ?_)
    refine k_astore_n (i := 3) (lv' := [(3, .ref q9), (0, .ref (ad 0)), (1, .int ha1), (2, .ref (ad 68))]) dL_character_12 rfl (Nat.le_of_ble_eq_true rfl) rfl ?_
    refine k_iconst (v := 1) dL_character_13 (by decide) ?_
    exact k_hret ⟨Nat.le_of_ble_eq_true rfl, Nat.le_of_ble_eq_true rfl⟩ rfl dL_character_14

abbrev rmL_write : Room := { frames := 7, cells := 1, slots := 6, locals := 106 }
abbrev xL_write : KX := (rmL_write, cL_write, 6, some .int, RL, wsL_write)
theorem hySL_write : yL_write.cls ≠ "java/lang/invoke/MethodHandle" ∧ yL_write.cls ≠ "java/lang/invoke/VarHandle" ∧ (parseMethodDescriptor yL_write.desc).map (fun d => d.parameters.length) = some 4 := by decide +kernel
theorem qL_write_cl13 : Cond.classLink RL 13 "java/lang/IllegalArgumentException" ∈ wsL_write := by decide +kernel
theorem qL_write_cl15 : Cond.classLink RL 15 "java/lang/IllegalStateException" ∈ wsL_write := by decide +kernel
set_option maxHeartbeats 4000000 in
set_option maxRecDepth 100000 in
theorem c_L_write {l : Launch} {D : va_G} {cI cB cJ cZ : ClassId} {ad : Nat → Nat} (ws : va_W) (z : Nat) {k_length : Int32} {k_repaired : Int32} {k_spent : Int32} {k_text : Nat → Int32} {out : Nat → Int64} (E : l.stackTraces = false ∧ (True)) (e0 : ws[0]? = some (ad 0, .inr (5, [.ref (ad 1), .ref (ad 8), .int k_length, .ref (ad 9), .ref (ad 17), .ref (ad 22), .ref (ad 32), .int k_repaired, .int k_spent]))) (e8 : ws[8]? = some (ad 8, .inl (cB, 80, .inl k_text))) (e68 : ws[68]? = some (ad 68, .inl (cJ, 1, .inr (.inl out)))) {ha1 : Int64} {ha3 : Int32} {o : Int32 × Int32 × (Int32) × (Nat → Int32)} (h : f_X5_write ha1 ha3 k_length k_text = some o) {r : Int32} {out' : Nat → Int64} (hr : (o.1 = 0 ∧ r = 0 ∧ out' = vp_updL out 0 o.2.1.toInt64) ∨ (o.1 = 1 ∧ r = 1 ∧ out' = out) ∨ (o.1 = 2 ∧ r = 2 ∧ out' = out)) : Met l yL_write wsL_write rmL_write (kPx D (kT cI cB cJ cZ) [.ref (ad 0), .long ha1, .int ha3, .ref (ad 68)] ws z) (kQi D (kT cI cB cJ cZ) r [(0, (ad 0, .inr (5, [.ref (ad 1), .ref (ad 8), .int o.2.2.1, .ref (ad 9), .ref (ad 17), .ref (ad 22), .ref (ad 32), .int k_repaired, .int k_spent]))), (8, (ad 8, .inl (cB, 80, .inl o.2.2.2))), (68, (ad 68, .inl (cJ, 1, .inr (.inl out'))))] ws z) 1 6 (va_A ws z) := by
  refine KG.metH (rm := rmL_write) (lv := [(0, .ref (ad 0)), (1, .long ha1), (3, .int ha3), (4, .ref (ad 68))]) (L := [(0, (ad 0, .inr (5, [.ref (ad 1), .ref (ad 8), .int k_length, .ref (ad 9), .ref (ad 17), .ref (ad 22), .ref (ad 32), .int k_repaired, .int k_spent]))), (8, (ad 8, .inl (cB, 80, .inl k_text))), (68, (ad 68, .inl (cJ, 1, .inr (.inl out))))]) rfl (by decide) (Nat.le_of_ble_eq_true rfl) rfl (by intro q hq; simp only [List.mem_cons, List.not_mem_nil, or_false] at hq; rcases hq with rfl | rfl | rfl <;> assumption) ?_
  rcases hr with ⟨h0, rfl, rfl⟩ | ⟨h0, rfl, h9⟩ | ⟨h0, rfl, h9⟩
  · skip
    refine k_aload dL_write_0 3 rfl ?_
    refine k_iconst (v := 0) dL_write_2 (by decide) ?_
    refine k_aload_n dL_write_3 0 rfl rfl ?_
    refine k_lload_n dL_write_4 1 rfl rfl ?_
    refine k_iload_n dL_write_5 2 rfl rfl ?_
    refine k_callX0 (As := [.long ha1, .int ha3]) (st := [.int 0, .ref (ad 68)]) (Lc := [(0, (ad 0, .inr (5, [.ref (ad 1), .ref (ad 8), .int o.2.2.1, .ref (ad 9), .ref (ad 17), .ref (ad 22), .ref (ad 32), .int k_repaired, .int k_spent]))), (8, (ad 8, .inl (cB, 80, .inl o.2.2.2)))]) (L' := [(0, (ad 0, .inr (5, [.ref (ad 1), .ref (ad 8), .int o.2.2.1, .ref (ad 9), .ref (ad 17), .ref (ad 22), .ref (ad 32), .int k_repaired, .int k_spent]))), (8, (ad 8, .inl (cB, 80, .inl o.2.2.2))), (68, (ad 68, .inl (cJ, 1, .inr (.inl out))))]) (r := o.2.1) (kc := o.1) h0 gL_write_X5_write rfl rfl rfl hyVX5_write ⟨Nat.le_of_ble_eq_true rfl, Nat.le_of_ble_eq_true rfl⟩ ⟨Nat.le_of_ble_eq_true rfl, Nat.le_of_ble_eq_true rfl⟩ rfl rfl (Nat.le_of_ble_eq_true rfl) 0 rfl rfl dL_write_6 (fun w z hw => c_X5_write (cI := cI) (cB := cB) (cJ := cJ) (cZ := cZ) (ad := ad) w z ⟨E.1, trivial⟩ (hw 0) (hw 8) h) rfl rfl ?_
    refine k_i2l dL_write_9 ?_
    refine k_last (L' := fun f => [(0, (ad 0, .inr (5, [.ref (ad 1), .ref (ad 8), .int o.2.2.1, .ref (ad 9), .ref (ad 17), .ref (ad 22), .ref (ad 32), .int k_repaired, .int k_spent]))), (8, (ad 8, .inl (cB, 80, .inl o.2.2.2))), (68, (ad 68, .inl (cJ, 1, .inr (.inl f))))]) 68 2 rfl rfl rfl dL_write_10 (wr_one out _) (fun _ => rfl) (fun f hf => ?_)
    obtain rfl := Option.some.inj hf
    refine k_goto 22 dL_write_11 (by decide) ?_
    refine k_iconst (v := 0) dL_write_22 (by decide) ?_
    exact k_hret ⟨Nat.le_of_ble_eq_true rfl, Nat.le_of_ble_eq_true rfl⟩ rfl dL_write_23
  · obtain rfl := h9.symm
    refine k_aload dL_write_0 3 rfl ?_
    refine k_iconst (v := 0) dL_write_2 (by decide) ?_
    refine k_aload_n dL_write_3 0 rfl rfl ?_
    refine k_lload_n dL_write_4 1 rfl rfl ?_
    refine k_iload_n dL_write_5 2 rfl rfl ?_
    refine k_callX1 (As := [.long ha1, .int ha3]) (st := [.int 0, .ref (ad 68)]) (Lc := [(0, (ad 0, .inr (5, [.ref (ad 1), .ref (ad 8), .int o.2.2.1, .ref (ad 9), .ref (ad 17), .ref (ad 22), .ref (ad 32), .int k_repaired, .int k_spent]))), (8, (ad 8, .inl (cB, 80, .inl o.2.2.2)))]) (L' := [(0, (ad 0, .inr (5, [.ref (ad 1), .ref (ad 8), .int o.2.2.1, .ref (ad 9), .ref (ad 17), .ref (ad 22), .ref (ad 32), .int k_repaired, .int k_spent]))), (8, (ad 8, .inl (cB, 80, .inl o.2.2.2))), (68, (ad 68, .inl (cJ, 1, .inr (.inl out))))]) (r := o.2.1) (kc := o.1) "java/lang/IllegalArgumentException" (by decide) (by rw [h0]; decide) (by rw [h0]; decide) [] ⟨0, 11, 14, 13⟩ [⟨0, 11, 18, 15⟩] rfl (fun z hz => nomatch hz) (by decide) (by decide) qL_write_cl13 gL_write_X5_write rfl rfl rfl hyVX5_write ⟨Nat.le_of_ble_eq_true rfl, Nat.le_of_ble_eq_true rfl⟩ ⟨Nat.le_of_ble_eq_true rfl, Nat.le_of_ble_eq_true rfl⟩ rfl rfl (Nat.le_of_ble_eq_true rfl) 0 rfl rfl dL_write_6 (fun w z hw => c_X5_write (cI := cI) (cB := cB) (cJ := cJ) (cZ := cZ) (ad := ad) w z ⟨E.1, trivial⟩ (hw 0) (hw 8) h) rfl rfl (fun q9 => ?_)
    refine k_astore (i := 5) (lv' := [(5, .ref q9), (0, .ref (ad 0)), (1, .long ha1), (3, .int ha3), (4, .ref (ad 68))]) dL_write_14 (Nat.le_of_ble_eq_true rfl) rfl ?_
    refine k_iconst (v := 1) dL_write_16 (by decide) ?_
    exact k_hret ⟨Nat.le_of_ble_eq_true rfl, Nat.le_of_ble_eq_true rfl⟩ rfl dL_write_17
  · obtain rfl := h9.symm
    refine k_aload dL_write_0 3 rfl ?_
    refine k_iconst (v := 0) dL_write_2 (by decide) ?_
    refine k_aload_n dL_write_3 0 rfl rfl ?_
    refine k_lload_n dL_write_4 1 rfl rfl ?_
    refine k_iload_n dL_write_5 2 rfl rfl ?_
    refine k_callX1 (As := [.long ha1, .int ha3]) (st := [.int 0, .ref (ad 68)]) (Lc := [(0, (ad 0, .inr (5, [.ref (ad 1), .ref (ad 8), .int o.2.2.1, .ref (ad 9), .ref (ad 17), .ref (ad 22), .ref (ad 32), .int k_repaired, .int k_spent]))), (8, (ad 8, .inl (cB, 80, .inl o.2.2.2)))]) (L' := [(0, (ad 0, .inr (5, [.ref (ad 1), .ref (ad 8), .int o.2.2.1, .ref (ad 9), .ref (ad 17), .ref (ad 22), .ref (ad 32), .int k_repaired, .int k_spent]))), (8, (ad 8, .inl (cB, 80, .inl o.2.2.2))), (68, (ad 68, .inl (cJ, 1, .inr (.inl out))))]) (r := o.2.1) (kc := o.1) "java/lang/IllegalStateException" (by decide) (by rw [h0]; decide) (by rw [h0]; decide) [⟨0, 11, 14, 13⟩] ⟨0, 11, 18, 15⟩ [] rfl (fun z hz => Or.inr (by rcases List.mem_singleton.mp hz with rfl; exact ⟨by decide, "java/lang/IllegalArgumentException", qL_write_cl13, by decide⟩)) (by decide) (by decide) qL_write_cl15 gL_write_X5_write rfl rfl rfl hyVX5_write ⟨Nat.le_of_ble_eq_true rfl, Nat.le_of_ble_eq_true rfl⟩ ⟨Nat.le_of_ble_eq_true rfl, Nat.le_of_ble_eq_true rfl⟩ rfl rfl (Nat.le_of_ble_eq_true rfl) 0 rfl rfl dL_write_6 (fun w z hw => c_X5_write (cI := cI) (cB := cB) (cJ := cJ) (cZ := cZ) (ad := ad) w z ⟨E.1, trivial⟩ (hw 0) (hw 8) h) rfl rfl (fun q9 => ?_)
    refine k_astore (i := 5) (lv' := [(5, .ref q9), (0, .ref (ad 0)), (1, .long ha1), (3, .int ha3), (4, .ref (ad 68))]) dL_write_18 (Nat.le_of_ble_eq_true rfl) rfl ?_
    refine k_iconst (v := 2) dL_write_20 (by decide) ?_
    exact k_hret ⟨Nat.le_of_ble_eq_true rfl, Nat.le_of_ble_eq_true rfl⟩ rfl dL_write_21

