abbrev rmX3_layTokens : Room := { frames := 3, cells := 0, slots := 0, locals := 67 }
abbrev xX3_layTokens : KX := (rmX3_layTokens, cX3_layTokens, 4, none, RX3, wsX3_layTokens)
theorem hySX3_layTokens : yX3_layTokens.cls ≠ "java/lang/invoke/MethodHandle" ∧ yX3_layTokens.cls ≠ "java/lang/invoke/VarHandle" ∧ (parseMethodDescriptor yX3_layTokens.desc).map (fun d => d.parameters.length) = some 2 := by decide +kernel
theorem hyVX3_layTokens : yX3_layTokens.cls = RX3 ∧ yX3_layTokens.cls ≠ "java/lang/invoke/MethodHandle" ∧ yX3_layTokens.cls ≠ "java/lang/invoke/VarHandle" ∧ (parseMethodDescriptor yX3_layTokens.desc).map (fun d => d.parameters.length) = some 2 := ⟨rfl, hySX3_layTokens⟩
theorem qX3_layTokens_wX3 : ∀ w ∈ u_ws RX3 TX3 9, w ∈ wsX3_layTokens := by decide +kernel
theorem qX3_layTokens_f37 : Cond.fieldLink RX3 37 "KindParser$Page" "cut" "LKindParser$Cut;" ∈ wsX3_layTokens := by decide +kernel
theorem qX3_layTokens_wX1 : ∀ w ∈ u_ws RX1 TX1 10, w ∈ wsX3_layTokens := by decide +kernel
set_option maxHeartbeats 4000000 in
set_option maxRecDepth 100000 in
theorem wjn_X3_layTokens_40 {l : Launch} {D : va_G} {cI cB cJ cZ : ClassId} {ad : Nat → Nat} {ws : va_W} {z : Nat} {c_length : Int32} {c_size : Int32} {c_comments : Int32} {c_text : Nat → Int32} {c_starts : Nat → Int32} {c_lengths : Nat → Int32} {c_firstComments : Nat → Int32} {c_commentStarts : Nat → Int32} {c_commentEnds : Nat → Int32} (E : ws[9]? = some (ad 9, .inr (1, [.ref (ad 10), .int c_length, .ref (ad 11), .ref (ad 12), .ref (ad 13), .ref (ad 14), .ref (ad 15), .ref (ad 16), .int c_size, .int c_comments])) ∧ ws[10]? = some (ad 10, .inl (cB, 80, .inl c_text)) ∧ ws[11]? = some (ad 11, .inl (cI, 16, .inl c_starts)) ∧ ws[12]? = some (ad 12, .inl (cI, 16, .inl c_lengths)) ∧ ws[14]? = some (ad 14, .inl (cI, 18, .inl c_firstComments)) ∧ ws[15]? = some (ad 15, .inl (cI, 40, .inl c_commentStarts)) ∧ ws[16]? = some (ad 16, .inl (cI, 40, .inl c_commentEnds))) {o : (Int32) × (Int32) × (Nat → Int32)} {k2 : (Int32) → (Int32) → (Int32) → (Int32) → (Int32) → (Nat → Int32) → Option ((Int32) × (Int32) × (Nat → Int32))} (hk2 : ∀ (x1 : Int32) (x2 : Int32) (x3 : Int32) (p_size : Int32) (p_column : Int32) (p_sheet : Nat → Int32), k2 x1 x2 x3 p_size p_column p_sheet = some o → KW l xX3_layTokens D (kT cI cB cJ cZ) ws z (kQv D (kT cI cB cJ cZ) [(32, (ad 32, .inr (3, [.ref (ad 1), .ref (ad 9), .ref (ad 22), .ref (ad 33), .ref (ad 34), .ref (ad 35), .ref (ad 36), .int o.1, .int o.2.1]))), (33, (ad 33, .inl (cB, 1300, .inl o.2.2)))] ws z) 2 [(0, .ref (ad 32)), (1, .int x1), (2, .int x2), (3, .int x3)] [] [(32, (ad 32, .inr (3, [.ref (ad 1), .ref (ad 9), .ref (ad 22), .ref (ad 33), .ref (ad 34), .ref (ad 35), .ref (ad 36), .int p_size, .int p_column]))), (33, (ad 33, .inl (cB, 1300, .inl p_sheet)))]) : ∀ (x1 : Int32) (x2 : Int32) (x3 : Int32) (p_size : Int32) (p_column : Int32) (p_sheet : Nat → Int32), jn_X3_layTokens_40 c_size c_text c_starts c_lengths c_firstComments c_commentStarts c_commentEnds k2 x1 x2 x3 p_size p_column p_sheet = some o → KW l xX3_layTokens D (kT cI cB cJ cZ) ws z (kQv D (kT cI cB cJ cZ) [(32, (ad 32, .inr (3, [.ref (ad 1), .ref (ad 9), .ref (ad 22), .ref (ad 33), .ref (ad 34), .ref (ad 35), .ref (ad 36), .int o.1, .int o.2.1]))), (33, (ad 33, .inl (cB, 1300, .inl o.2.2)))] ws z) 40 [(0, .ref (ad 32)), (1, .int x1), (2, .int x2), (3, .int x3)] [] [(32, (ad 32, .inr (3, [.ref (ad 1), .ref (ad 9), .ref (ad 22), .ref (ad 33), .ref (ad 34), .ref (ad 35), .ref (ad 36), .int p_size, .int p_column]))), (33, (ad 33, .inl (cB, 1300, .inl p_sheet)))] := by
  intro x1 x2 x3 p_size p_column p_sheet h
  unfold jn_X3_layTokens_40 at h
  refine k_aload_n dX3_layTokens_40 0 rfl rfl ?_
  refine k_aload_n dX3_layTokens_41 0 rfl rfl ?_
  refine k_get 32 1 rfl rfl qX3_layTokens_wX3 (by decide) qX3_layTokens_f37 rfl dX3_layTokens_42 ?_
  refine k_getN 9 2 E.1 rfl qX3_layTokens_wX1 (by decide) (host := "KindParser") (by decide +kernel) rfl dX3_layTokens_45 ?_
  refine k_iload_n dX3_layTokens_48 3 rfl rfl ?_
  refine k_iald 11 0 E.2.2.1 rfl dX3_layTokens_49 h (fun v4 h => ?_)
  refine k_aload_n dX3_layTokens_50 0 rfl rfl ?_
  refine k_get 32 1 rfl rfl qX3_layTokens_wX3 (by decide) qX3_layTokens_f37 rfl dX3_layTokens_51 ?_
  refine k_getN 9 2 E.1 rfl qX3_layTokens_wX1 (by decide) (host := "KindParser") (by decide +kernel) rfl dX3_layTokens_54 ?_
  refine k_iload_n dX3_layTokens_57 3 rfl rfl ?_
  refine k_iald 11 0 E.2.2.1 rfl dX3_layTokens_58 h (fun v5 h => ?_)
  refine k_aload_n dX3_layTokens_59 0 rfl rfl ?_
  refine k_get 32 1 rfl rfl qX3_layTokens_wX3 (by decide) qX3_layTokens_f37 rfl dX3_layTokens_60 ?_
  refine k_getN 9 3 E.1 rfl qX3_layTokens_wX1 (by decide) (host := "KindParser") (by decide +kernel) rfl dX3_layTokens_63 ?_
  refine k_iload_n dX3_layTokens_66 3 rfl rfl ?_
  refine k_iald 12 0 E.2.2.2.1 rfl dX3_layTokens_67 h (fun v6 h => ?_)
  refine k_iadd dX3_layTokens_68 ?_
  obtain ⟨r7, hr7, h⟩ := Option.bind_eq_some_iff.mp h
  refine k_callvV (As := [.int v4, .int (v5 + v6)]) (st := []) (Lc := [(32, (ad 32, .inr (3, [.ref (ad 1), .ref (ad 9), .ref (ad 22), .ref (ad 33), .ref (ad 34), .ref (ad 35), .ref (ad 36), .int r7.1, .int r7.2.1]))), (33, (ad 33, .inl (cB, 1300, .inl r7.2.2)))]) (L' := [(32, (ad 32, .inr (3, [.ref (ad 1), .ref (ad 9), .ref (ad 22), .ref (ad 33), .ref (ad 34), .ref (ad 35), .ref (ad 36), .int r7.1, .int r7.2.1]))), (33, (ad 33, .inl (cB, 1300, .inl r7.2.2)))]) gX3_layTokens_X3_layText rfl rfl rfl hyVX3_layText ⟨Nat.le_of_ble_eq_true rfl, Nat.le_of_ble_eq_true rfl⟩ rfl rfl (Nat.le_of_ble_eq_true rfl) 32 rfl rfl dX3_layTokens_69 (fun w z hw => c_X3_layText (cI := cI) (cB := cB) (cJ := cJ) (cZ := cZ) (ad := ad) w z ⟨((hw 9).trans E.1), ((hw 10).trans E.2.1)⟩ (hw 32) (hw 33) hr7) rfl rfl ?_
  refine k_iinc (i := 3) (lv' := fun x => [(3, .int x), (0, .ref (ad 32)), (1, .int x1), (2, .int x2)]) dX3_layTokens_72 3 rfl (Nat.le_of_ble_eq_true rfl) (fun _ => rfl) h (fun x3_8 h => ?_)
  refine k_goto 2 dX3_layTokens_75 (by decide) ?_
  refine k_sub [1, 2, 3, 0] rfl ?_
  exact hk2 _ _ _ _ _ _ h
set_option maxHeartbeats 4000000 in
set_option maxRecDepth 100000 in
theorem wjn_X3_layTokens_18 {l : Launch} {D : va_G} {cI cB cJ cZ : ClassId} {ad : Nat → Nat} {ws : va_W} {z : Nat} {c_length : Int32} {c_size : Int32} {c_comments : Int32} {c_text : Nat → Int32} {c_starts : Nat → Int32} {c_lengths : Nat → Int32} {c_firstComments : Nat → Int32} {c_commentStarts : Nat → Int32} {c_commentEnds : Nat → Int32} (E : ws[9]? = some (ad 9, .inr (1, [.ref (ad 10), .int c_length, .ref (ad 11), .ref (ad 12), .ref (ad 13), .ref (ad 14), .ref (ad 15), .ref (ad 16), .int c_size, .int c_comments])) ∧ ws[10]? = some (ad 10, .inl (cB, 80, .inl c_text)) ∧ ws[11]? = some (ad 11, .inl (cI, 16, .inl c_starts)) ∧ ws[12]? = some (ad 12, .inl (cI, 16, .inl c_lengths)) ∧ ws[14]? = some (ad 14, .inl (cI, 18, .inl c_firstComments)) ∧ ws[15]? = some (ad 15, .inl (cI, 40, .inl c_commentStarts)) ∧ ws[16]? = some (ad 16, .inl (cI, 40, .inl c_commentEnds))) {o : (Int32) × (Int32) × (Nat → Int32)} {k2 : (Int32) → (Int32) → (Int32) → (Int32) → (Int32) → (Nat → Int32) → Option ((Int32) × (Int32) × (Nat → Int32))} (hk2 : ∀ (x1 : Int32) (x2 : Int32) (x3 : Int32) (p_size : Int32) (p_column : Int32) (p_sheet : Nat → Int32), k2 x1 x2 x3 p_size p_column p_sheet = some o → KW l xX3_layTokens D (kT cI cB cJ cZ) ws z (kQv D (kT cI cB cJ cZ) [(32, (ad 32, .inr (3, [.ref (ad 1), .ref (ad 9), .ref (ad 22), .ref (ad 33), .ref (ad 34), .ref (ad 35), .ref (ad 36), .int o.1, .int o.2.1]))), (33, (ad 33, .inl (cB, 1300, .inl o.2.2)))] ws z) 2 [(0, .ref (ad 32)), (1, .int x1), (2, .int x2), (3, .int x3)] [] [(32, (ad 32, .inr (3, [.ref (ad 1), .ref (ad 9), .ref (ad 22), .ref (ad 33), .ref (ad 34), .ref (ad 35), .ref (ad 36), .int p_size, .int p_column]))), (33, (ad 33, .inl (cB, 1300, .inl p_sheet)))]) : ∀ (x1 : Int32) (x2 : Int32) (x3 : Int32) (p_size : Int32) (p_column : Int32) (p_sheet : Nat → Int32), jn_X3_layTokens_18 c_size c_text c_starts c_lengths c_firstComments c_commentStarts c_commentEnds k2 x1 x2 x3 p_size p_column p_sheet = some o → KW l xX3_layTokens D (kT cI cB cJ cZ) ws z (kQv D (kT cI cB cJ cZ) [(32, (ad 32, .inr (3, [.ref (ad 1), .ref (ad 9), .ref (ad 22), .ref (ad 33), .ref (ad 34), .ref (ad 35), .ref (ad 36), .int o.1, .int o.2.1]))), (33, (ad 33, .inl (cB, 1300, .inl o.2.2)))] ws z) 18 [(0, .ref (ad 32)), (1, .int x1), (2, .int x2), (3, .int x3)] [] [(32, (ad 32, .inr (3, [.ref (ad 1), .ref (ad 9), .ref (ad 22), .ref (ad 33), .ref (ad 34), .ref (ad 35), .ref (ad 36), .int p_size, .int p_column]))), (33, (ad 33, .inl (cB, 1300, .inl p_sheet)))] := by
  intro x1 x2 x3 p_size p_column p_sheet h
  unfold jn_X3_layTokens_18 at h
  refine k_aload_n dX3_layTokens_18 0 rfl rfl ?_
  refine k_iload_n dX3_layTokens_19 3 rfl rfl ?_
  obtain ⟨r2, hr2, h⟩ := Option.bind_eq_some_iff.mp h
  refine k_callvV (As := [.int x3]) (st := []) (Lc := [(32, (ad 32, .inr (3, [.ref (ad 1), .ref (ad 9), .ref (ad 22), .ref (ad 33), .ref (ad 34), .ref (ad 35), .ref (ad 36), .int r2.1, .int r2.2.1]))), (33, (ad 33, .inl (cB, 1300, .inl r2.2.2)))]) (L' := [(32, (ad 32, .inr (3, [.ref (ad 1), .ref (ad 9), .ref (ad 22), .ref (ad 33), .ref (ad 34), .ref (ad 35), .ref (ad 36), .int r2.1, .int r2.2.1]))), (33, (ad 33, .inl (cB, 1300, .inl r2.2.2)))]) gX3_layTokens_X3_layComments rfl rfl rfl hyVX3_layComments ⟨Nat.le_of_ble_eq_true rfl, Nat.le_of_ble_eq_true rfl⟩ rfl rfl (Nat.le_of_ble_eq_true rfl) 32 rfl rfl dX3_layTokens_20 (fun w z hw => c_X3_layComments (cI := cI) (cB := cB) (cJ := cJ) (cZ := cZ) (ad := ad) w z ⟨((hw 9).trans E.1), ((hw 10).trans E.2.1), ((hw 14).trans E.2.2.2.2.1), ((hw 15).trans E.2.2.2.2.2.1), ((hw 16).trans E.2.2.2.2.2.2)⟩ (hw 32) (hw 33) hr2) rfl rfl ?_
  refine k_aload_n dX3_layTokens_23 0 rfl rfl ?_
  refine k_get 32 1 rfl rfl qX3_layTokens_wX3 (by decide) qX3_layTokens_f37 rfl dX3_layTokens_24 ?_
  refine k_iload_n dX3_layTokens_27 3 rfl rfl ?_
  obtain ⟨r3, hr3, h⟩ := Option.bind_eq_some_iff.mp h
  refine k_calliV (As := [.int x3]) (st := []) (Lc := []) (L' := [(32, (ad 32, .inr (3, [.ref (ad 1), .ref (ad 9), .ref (ad 22), .ref (ad 33), .ref (ad 34), .ref (ad 35), .ref (ad 36), .int r2.1, .int r2.2.1]))), (33, (ad 33, .inl (cB, 1300, .inl r2.2.2)))]) (r := r3) gX3_layTokens_X1_commentsOf rfl rfl rfl hyVX1_commentsOf ⟨Nat.le_of_ble_eq_true rfl, Nat.le_of_ble_eq_true rfl⟩ rfl rfl (Nat.le_of_ble_eq_true rfl) 9 E.1 rfl dX3_layTokens_28 (fun w z hw => c_X1_commentsOf (cI := cI) (cB := cB) (cJ := cJ) (cZ := cZ) (ad := ad) w z ⟨((hw 9).trans E.1), ((hw 14).trans E.2.2.2.2.1)⟩  hr3) rfl rfl ?_
  refine k_if_le 40 dX3_layTokens_31 (by decide) h (fun h => ?_) (fun h => ?_)
  · skip
    refine k_sub [0, 1, 2, 3] rfl ?_
    exact wjn_X3_layTokens_40 (cI := cI) (cB := cB) (cJ := cJ) (cZ := cZ) (ad := ad) E hk2 _ _ _ _ _ _ h
  · skip
    refine k_aload_n dX3_layTokens_34 0 rfl rfl ?_
    refine k_bipush (v := 32) dX3_layTokens_35 (by decide) ?_
    obtain ⟨r9, hr9, h⟩ := Option.bind_eq_some_iff.mp h
    refine k_callvV (As := [.int 32]) (st := []) (Lc := [(32, (ad 32, .inr (3, [.ref (ad 1), .ref (ad 9), .ref (ad 22), .ref (ad 33), .ref (ad 34), .ref (ad 35), .ref (ad 36), .int r9.1, .int r9.2.1]))), (33, (ad 33, .inl (cB, 1300, .inl r9.2.2)))]) (L' := [(32, (ad 32, .inr (3, [.ref (ad 1), .ref (ad 9), .ref (ad 22), .ref (ad 33), .ref (ad 34), .ref (ad 35), .ref (ad 36), .int r9.1, .int r9.2.1]))), (33, (ad 33, .inl (cB, 1300, .inl r9.2.2)))]) gX3_layTokens_X3_put rfl rfl rfl hyVX3_put ⟨Nat.le_of_ble_eq_true rfl, Nat.le_of_ble_eq_true rfl⟩ rfl rfl (Nat.le_of_ble_eq_true rfl) 32 rfl rfl dX3_layTokens_37 (fun w z hw => c_X3_put (cI := cI) (cB := cB) (cJ := cJ) (cZ := cZ) (ad := ad) w z trivial (hw 32) (hw 33) hr9) rfl rfl ?_
    refine k_sub [0, 1, 2, 3] rfl ?_
    exact wjn_X3_layTokens_40 (cI := cI) (cB := cB) (cJ := cJ) (cZ := cZ) (ad := ad) E hk2 _ _ _ _ _ _ h
set_option maxHeartbeats 4000000 in
set_option maxRecDepth 100000 in
theorem wlp_X3_layTokens_2 {l : Launch} {D : va_G} {cI cB cJ cZ : ClassId} {ad : Nat → Nat} {ws : va_W} {z : Nat} {c_length : Int32} {c_size : Int32} {c_comments : Int32} {c_text : Nat → Int32} {c_starts : Nat → Int32} {c_lengths : Nat → Int32} {c_firstComments : Nat → Int32} {c_commentStarts : Nat → Int32} {c_commentEnds : Nat → Int32} (E : ws[9]? = some (ad 9, .inr (1, [.ref (ad 10), .int c_length, .ref (ad 11), .ref (ad 12), .ref (ad 13), .ref (ad 14), .ref (ad 15), .ref (ad 16), .int c_size, .int c_comments])) ∧ ws[10]? = some (ad 10, .inl (cB, 80, .inl c_text)) ∧ ws[11]? = some (ad 11, .inl (cI, 16, .inl c_starts)) ∧ ws[12]? = some (ad 12, .inl (cI, 16, .inl c_lengths)) ∧ ws[14]? = some (ad 14, .inl (cI, 18, .inl c_firstComments)) ∧ ws[15]? = some (ad 15, .inl (cI, 40, .inl c_commentStarts)) ∧ ws[16]? = some (ad 16, .inl (cI, 40, .inl c_commentEnds))) {o : (Int32) × (Int32) × (Nat → Int32)} {k78 : (Int32) → (Int32) → (Nat → Int32) → Option ((Int32) × (Int32) × (Nat → Int32))} (hk78 : ∀ (p_size : Int32) (p_column : Int32) (p_sheet : Nat → Int32), k78 p_size p_column p_sheet = some o → KW l xX3_layTokens D (kT cI cB cJ cZ) ws z (kQv D (kT cI cB cJ cZ) [(32, (ad 32, .inr (3, [.ref (ad 1), .ref (ad 9), .ref (ad 22), .ref (ad 33), .ref (ad 34), .ref (ad 35), .ref (ad 36), .int o.1, .int o.2.1]))), (33, (ad 33, .inl (cB, 1300, .inl o.2.2)))] ws z) 78 [] [] [(32, (ad 32, .inr (3, [.ref (ad 1), .ref (ad 9), .ref (ad 22), .ref (ad 33), .ref (ad 34), .ref (ad 35), .ref (ad 36), .int p_size, .int p_column]))), (33, (ad 33, .inl (cB, 1300, .inl p_sheet)))]) : ∀ (n : Nat) (x1 : Int32) (x2 : Int32) (x3 : Int32) (p_size : Int32) (p_column : Int32) (p_sheet : Nat → Int32), lp_X3_layTokens_2 c_size c_text c_starts c_lengths c_firstComments c_commentStarts c_commentEnds k78 n x1 x2 x3 p_size p_column p_sheet = some o → KW l xX3_layTokens D (kT cI cB cJ cZ) ws z (kQv D (kT cI cB cJ cZ) [(32, (ad 32, .inr (3, [.ref (ad 1), .ref (ad 9), .ref (ad 22), .ref (ad 33), .ref (ad 34), .ref (ad 35), .ref (ad 36), .int o.1, .int o.2.1]))), (33, (ad 33, .inl (cB, 1300, .inl o.2.2)))] ws z) 2 [(0, .ref (ad 32)), (1, .int x1), (2, .int x2), (3, .int x3)] [] [(32, (ad 32, .inr (3, [.ref (ad 1), .ref (ad 9), .ref (ad 22), .ref (ad 33), .ref (ad 34), .ref (ad 35), .ref (ad 36), .int p_size, .int p_column]))), (33, (ad 33, .inl (cB, 1300, .inl p_sheet)))] := by
  intro n
  induction n with
  | zero => intro x1 x2 x3 p_size p_column p_sheet h; exact absurd h (by simp [lp_X3_layTokens_2])
  | succ n hk2 =>
    intro x1 x2 x3 p_size p_column p_sheet h
    unfold lp_X3_layTokens_2 at h
    refine k_iload_n dX3_layTokens_2 3 rfl rfl ?_
    refine k_iload_n dX3_layTokens_3 2 rfl rfl ?_
    refine k_icmp_ge 78 dX3_layTokens_4 (by decide) h (fun h => ?_) (fun h => ?_)
    · skip
      refine k_sub [] rfl ?_
      exact hk78 _ _ _ h
    · skip
      refine k_iload_n dX3_layTokens_7 3 rfl rfl ?_
      refine k_iload_n dX3_layTokens_8 1 rfl rfl ?_
      refine k_icmp_le 18 dX3_layTokens_9 (by decide) h (fun h => ?_) (fun h => ?_)
      · skip
        refine k_sub [0, 1, 2, 3] rfl ?_
        exact wjn_X3_layTokens_18 (cI := cI) (cB := cB) (cJ := cJ) (cZ := cZ) (ad := ad) E hk2 _ _ _ _ _ _ h
      · skip
        refine k_aload_n dX3_layTokens_12 0 rfl rfl ?_
        refine k_bipush (v := 32) dX3_layTokens_13 (by decide) ?_
        obtain ⟨r10, hr10, h⟩ := Option.bind_eq_some_iff.mp h
        refine k_callvV (As := [.int 32]) (st := []) (Lc := [(32, (ad 32, .inr (3, [.ref (ad 1), .ref (ad 9), .ref (ad 22), .ref (ad 33), .ref (ad 34), .ref (ad 35), .ref (ad 36), .int r10.1, .int r10.2.1]))), (33, (ad 33, .inl (cB, 1300, .inl r10.2.2)))]) (L' := [(32, (ad 32, .inr (3, [.ref (ad 1), .ref (ad 9), .ref (ad 22), .ref (ad 33), .ref (ad 34), .ref (ad 35), .ref (ad 36), .int r10.1, .int r10.2.1]))), (33, (ad 33, .inl (cB, 1300, .inl r10.2.2)))]) gX3_layTokens_X3_put rfl rfl rfl hyVX3_put ⟨Nat.le_of_ble_eq_true rfl, Nat.le_of_ble_eq_true rfl⟩ rfl rfl (Nat.le_of_ble_eq_true rfl) 32 rfl rfl dX3_layTokens_15 (fun w z hw => c_X3_put (cI := cI) (cB := cB) (cJ := cJ) (cZ := cZ) (ad := ad) w z trivial (hw 32) (hw 33) hr10) rfl rfl ?_
        refine k_sub [0, 1, 2, 3] rfl ?_
        exact wjn_X3_layTokens_18 (cI := cI) (cB := cB) (cJ := cJ) (cZ := cZ) (ad := ad) E hk2 _ _ _ _ _ _ h
set_option maxHeartbeats 4000000 in
set_option maxRecDepth 100000 in
/-- KindParser$Page.layTokens -/
theorem c_X3_layTokens {l : Launch} {D : va_G} {cI cB cJ cZ : ClassId} {ad : Nat → Nat} (ws : va_W) (z : Nat) {c_length : Int32} {c_size : Int32} {c_comments : Int32} {c_text : Nat → Int32} {c_starts : Nat → Int32} {c_lengths : Nat → Int32} {c_firstComments : Nat → Int32} {c_commentStarts : Nat → Int32} {c_commentEnds : Nat → Int32} {p_size : Int32} {p_column : Int32} {p_sheet : Nat → Int32} (E : ws[9]? = some (ad 9, .inr (1, [.ref (ad 10), .int c_length, .ref (ad 11), .ref (ad 12), .ref (ad 13), .ref (ad 14), .ref (ad 15), .ref (ad 16), .int c_size, .int c_comments])) ∧ ws[10]? = some (ad 10, .inl (cB, 80, .inl c_text)) ∧ ws[11]? = some (ad 11, .inl (cI, 16, .inl c_starts)) ∧ ws[12]? = some (ad 12, .inl (cI, 16, .inl c_lengths)) ∧ ws[14]? = some (ad 14, .inl (cI, 18, .inl c_firstComments)) ∧ ws[15]? = some (ad 15, .inl (cI, 40, .inl c_commentStarts)) ∧ ws[16]? = some (ad 16, .inl (cI, 40, .inl c_commentEnds))) (e32 : ws[32]? = some (ad 32, .inr (3, [.ref (ad 1), .ref (ad 9), .ref (ad 22), .ref (ad 33), .ref (ad 34), .ref (ad 35), .ref (ad 36), .int p_size, .int p_column]))) (e33 : ws[33]? = some (ad 33, .inl (cB, 1300, .inl p_sheet))) {a1 : Int32} {a2 : Int32} {o : (Int32) × (Int32) × (Nat → Int32)} (h : f_X3_layTokens a1 a2 c_size c_text c_starts c_lengths c_firstComments c_commentStarts c_commentEnds p_size p_column p_sheet = some o) : Met l yX3_layTokens wsX3_layTokens rmX3_layTokens (kPc D (kT cI cB cJ cZ) [.ref (ad 32), .int a1, .int a2] ws z) (kQv D (kT cI cB cJ cZ) [(32, (ad 32, .inr (3, [.ref (ad 1), .ref (ad 9), .ref (ad 22), .ref (ad 33), .ref (ad 34), .ref (ad 35), .ref (ad 36), .int o.1, .int o.2.1]))), (33, (ad 33, .inl (cB, 1300, .inl o.2.2)))] ws z) 0 0 (va_A ws z) := by
  refine KW.met (rm := rmX3_layTokens) (lv := [(0, .ref (ad 32)), (1, .int a1), (2, .int a2)]) (L := [(32, (ad 32, .inr (3, [.ref (ad 1), .ref (ad 9), .ref (ad 22), .ref (ad 33), .ref (ad 34), .ref (ad 35), .ref (ad 36), .int p_size, .int p_column]))), (33, (ad 33, .inl (cB, 1300, .inl p_sheet)))]) rfl (by decide) (Nat.le_of_ble_eq_true rfl) rfl (by intro q hq; simp only [List.mem_cons, List.not_mem_nil, or_false] at hq; rcases hq with rfl | rfl <;> assumption) ?_
  unfold f_X3_layTokens at h
  show KW l xX3_layTokens D (kT cI cB cJ cZ) ws z (kQv D (kT cI cB cJ cZ) [(32, (ad 32, .inr (3, [.ref (ad 1), .ref (ad 9), .ref (ad 22), .ref (ad 33), .ref (ad 34), .ref (ad 35), .ref (ad 36), .int o.1, .int o.2.1]))), (33, (ad 33, .inl (cB, 1300, .inl o.2.2)))] ws z) 0 [(0, .ref (ad 32)), (1, .int a1), (2, .int a2)] [] [(32, (ad 32, .inr (3, [.ref (ad 1), .ref (ad 9), .ref (ad 22), .ref (ad 33), .ref (ad 34), .ref (ad 35), .ref (ad 36), .int p_size, .int p_column]))), (33, (ad 33, .inl (cB, 1300, .inl p_sheet)))]
  refine k_iload_n dX3_layTokens_0 1 rfl rfl ?_
  refine k_istore_n (i := 3) (lv' := fun x => [(3, .int x), (0, .ref (ad 32)), (1, .int a1), (2, .int a2)]) dX3_layTokens_1 rfl (Nat.le_of_ble_eq_true rfl) (fun _ => rfl) h (fun x3_1 h => ?_)
  refine k_sub [1, 2, 3, 0] rfl ?_
  refine wlp_X3_layTokens_2 (cI := cI) (cB := cB) (cJ := cJ) (cZ := cZ) (ad := ad) E ?_ FU _ _ _ _ _ _ h
  · intro p_size p_column p_sheet h
    obtain rfl := Option.some.inj h
    exact k_vret rfl dX3_layTokens_78
abbrev rmX3_layPart : Room := { frames := 4, cells := 0, slots := 0, locals := 90 }
abbrev xX3_layPart : KX := (rmX3_layPart, cX3_layPart, 5, none, RX3, wsX3_layPart)
theorem hySX3_layPart : yX3_layPart.cls ≠ "java/lang/invoke/MethodHandle" ∧ yX3_layPart.cls ≠ "java/lang/invoke/VarHandle" ∧ (parseMethodDescriptor yX3_layPart.desc).map (fun d => d.parameters.length) = some 2 := by decide +kernel
theorem hyVX3_layPart : yX3_layPart.cls = RX3 ∧ yX3_layPart.cls ≠ "java/lang/invoke/MethodHandle" ∧ yX3_layPart.cls ≠ "java/lang/invoke/VarHandle" ∧ (parseMethodDescriptor yX3_layPart.desc).map (fun d => d.parameters.length) = some 2 := ⟨rfl, hySX3_layPart⟩
theorem qX3_layPart_wX3 : ∀ w ∈ u_ws RX3 TX3 9, w ∈ wsX3_layPart := by decide +kernel
theorem qX3_layPart_f41 : Cond.fieldLink RX3 41 "KindParser$Page" "tree" "LKindParser$Tree;" ∈ wsX3_layPart := by decide +kernel
theorem qX3_layPart_f19 : Cond.fieldLink RX3 19 "KindParser$Page" "broken" "[Z" ∈ wsX3_layPart := by decide +kernel
theorem qX3_layPart_f15 : Cond.fieldLink RX3 15 "KindParser$Page" "flats" "[I" ∈ wsX3_layPart := by decide +kernel
theorem qX3_layPart_f30 : Cond.fieldLink RX3 30 "KindParser$Page" "column" "I" ∈ wsX3_layPart := by decide +kernel
theorem qX3_layPart_f23 : Cond.fieldLink RX3 23 "KindParser$Page" "indents" "[I" ∈ wsX3_layPart := by decide +kernel
theorem qX3_layPart_f33 : Cond.fieldLink RX3 33 "KindParser$Page" "grammar" "LKindParser$Grammar;" ∈ wsX3_layPart := by decide +kernel
theorem qX3_layPart_wX2 : ∀ w ∈ u_ws RX2 TX2 7, w ∈ wsX3_layPart := by decide +kernel
set_option maxHeartbeats 4000000 in
set_option maxRecDepth 100000 in
theorem wjn_X3_layPart_151 {l : Launch} {D : va_G} {cI cB cJ cZ : ClassId} {ad : Nat → Nat} {ws : va_W} {z : Nat} {g_size : Int32} {g_ins : Nat → Int32} {c_length : Int32} {c_size : Int32} {c_comments : Int32} {c_text : Nat → Int32} {c_starts : Nat → Int32} {c_lengths : Nat → Int32} {c_firstComments : Nat → Int32} {c_commentStarts : Nat → Int32} {c_commentEnds : Nat → Int32} {t_waiting : Int32} {t_size : Int32} {t_skipped : Int32} {t_cells : Nat → Int32} {t_hints : Nat → Int32} {p_flats : Nat → Int32} (E : ws[1]? = some (ad 1, .inr (2, [.ref (ad 2), .ref (ad 3), .ref (ad 4), .ref (ad 5), .ref (ad 6), .ref (ad 7), .int g_size])) ∧ ws[6]? = some (ad 6, .inl (cZ, 20, .inl g_ins)) ∧ ws[9]? = some (ad 9, .inr (1, [.ref (ad 10), .int c_length, .ref (ad 11), .ref (ad 12), .ref (ad 13), .ref (ad 14), .ref (ad 15), .ref (ad 16), .int c_size, .int c_comments])) ∧ ws[10]? = some (ad 10, .inl (cB, 80, .inl c_text)) ∧ ws[11]? = some (ad 11, .inl (cI, 16, .inl c_starts)) ∧ ws[12]? = some (ad 12, .inl (cI, 16, .inl c_lengths)) ∧ ws[14]? = some (ad 14, .inl (cI, 18, .inl c_firstComments)) ∧ ws[15]? = some (ad 15, .inl (cI, 40, .inl c_commentStarts)) ∧ ws[16]? = some (ad 16, .inl (cI, 40, .inl c_commentEnds)) ∧ ws[22]? = some (ad 22, .inr (4, [.ref (ad 1), .ref (ad 17), .ref (ad 23), .ref (ad 24), .ref (ad 25), .ref (ad 26), .ref (ad 27), .ref (ad 28), .ref (ad 29), .ref (ad 30), .ref (ad 31), .int t_waiting, .int t_size, .int t_skipped])) ∧ ws[23]? = some (ad 23, .inl (cI, 1050, .inl t_cells)) ∧ ws[24]? = some (ad 24, .inl (cI, 150, .inl t_hints)) ∧ ws[34]? = some (ad 34, .inl (cI, 150, .inl p_flats))) {o : (Int32) × (Int32) × (Nat → Int32) × (Nat → Int32) × (Nat → Int32)}   : ∀ (p_size : Int32) (p_column : Int32) (p_sheet : Nat → Int32) (p_broken : Nat → Int32) (p_indents : Nat → Int32), jn_X3_layPart_151 g_ins c_size c_text c_starts c_lengths c_firstComments c_commentStarts c_commentEnds t_cells t_hints p_flats p_size p_column p_sheet p_broken p_indents = some o → KW l xX3_layPart D (kT cI cB cJ cZ) ws z (kQv D (kT cI cB cJ cZ) [(32, (ad 32, .inr (3, [.ref (ad 1), .ref (ad 9), .ref (ad 22), .ref (ad 33), .ref (ad 34), .ref (ad 35), .ref (ad 36), .int o.1, .int o.2.1]))), (33, (ad 33, .inl (cB, 1300, .inl o.2.2.1))), (35, (ad 35, .inl (cZ, 150, .inl o.2.2.2.1))), (36, (ad 36, .inl (cI, 150, .inl o.2.2.2.2)))] ws z) 151 [] [] [(32, (ad 32, .inr (3, [.ref (ad 1), .ref (ad 9), .ref (ad 22), .ref (ad 33), .ref (ad 34), .ref (ad 35), .ref (ad 36), .int p_size, .int p_column]))), (33, (ad 33, .inl (cB, 1300, .inl p_sheet))), (35, (ad 35, .inl (cZ, 150, .inl p_broken))), (36, (ad 36, .inl (cI, 150, .inl p_indents)))] := by
  intro p_size p_column p_sheet p_broken p_indents h
  unfold jn_X3_layPart_151 at h
  obtain rfl := Option.some.inj h
  exact k_vret rfl dX3_layPart_151
set_option maxHeartbeats 4000000 in
set_option maxRecDepth 100000 in
theorem wjn_X3_layPart_111 {l : Launch} {D : va_G} {cI cB cJ cZ : ClassId} {ad : Nat → Nat} {ws : va_W} {z : Nat} {g_size : Int32} {g_ins : Nat → Int32} {c_length : Int32} {c_size : Int32} {c_comments : Int32} {c_text : Nat → Int32} {c_starts : Nat → Int32} {c_lengths : Nat → Int32} {c_firstComments : Nat → Int32} {c_commentStarts : Nat → Int32} {c_commentEnds : Nat → Int32} {t_waiting : Int32} {t_size : Int32} {t_skipped : Int32} {t_cells : Nat → Int32} {t_hints : Nat → Int32} {p_flats : Nat → Int32} (E : ws[1]? = some (ad 1, .inr (2, [.ref (ad 2), .ref (ad 3), .ref (ad 4), .ref (ad 5), .ref (ad 6), .ref (ad 7), .int g_size])) ∧ ws[6]? = some (ad 6, .inl (cZ, 20, .inl g_ins)) ∧ ws[9]? = some (ad 9, .inr (1, [.ref (ad 10), .int c_length, .ref (ad 11), .ref (ad 12), .ref (ad 13), .ref (ad 14), .ref (ad 15), .ref (ad 16), .int c_size, .int c_comments])) ∧ ws[10]? = some (ad 10, .inl (cB, 80, .inl c_text)) ∧ ws[11]? = some (ad 11, .inl (cI, 16, .inl c_starts)) ∧ ws[12]? = some (ad 12, .inl (cI, 16, .inl c_lengths)) ∧ ws[14]? = some (ad 14, .inl (cI, 18, .inl c_firstComments)) ∧ ws[15]? = some (ad 15, .inl (cI, 40, .inl c_commentStarts)) ∧ ws[16]? = some (ad 16, .inl (cI, 40, .inl c_commentEnds)) ∧ ws[22]? = some (ad 22, .inr (4, [.ref (ad 1), .ref (ad 17), .ref (ad 23), .ref (ad 24), .ref (ad 25), .ref (ad 26), .ref (ad 27), .ref (ad 28), .ref (ad 29), .ref (ad 30), .ref (ad 31), .int t_waiting, .int t_size, .int t_skipped])) ∧ ws[23]? = some (ad 23, .inl (cI, 1050, .inl t_cells)) ∧ ws[24]? = some (ad 24, .inl (cI, 150, .inl t_hints)) ∧ ws[34]? = some (ad 34, .inl (cI, 150, .inl p_flats))) {o : (Int32) × (Int32) × (Nat → Int32) × (Nat → Int32) × (Nat → Int32)}   : ∀ (x1 : Int32) (s1 : Int32) (s2 : Int32) (p_size : Int32) (p_column : Int32) (p_sheet : Nat → Int32) (p_broken : Nat → Int32) (p_indents : Nat → Int32), jn_X3_layPart_111 g_ins c_size c_text c_starts c_lengths c_firstComments c_commentStarts c_commentEnds t_cells t_hints p_flats x1 s1 s2 p_size p_column p_sheet p_broken p_indents = some o → KW l xX3_layPart D (kT cI cB cJ cZ) ws z (kQv D (kT cI cB cJ cZ) [(32, (ad 32, .inr (3, [.ref (ad 1), .ref (ad 9), .ref (ad 22), .ref (ad 33), .ref (ad 34), .ref (ad 35), .ref (ad 36), .int o.1, .int o.2.1]))), (33, (ad 33, .inl (cB, 1300, .inl o.2.2.1))), (35, (ad 35, .inl (cZ, 150, .inl o.2.2.2.1))), (36, (ad 36, .inl (cI, 150, .inl o.2.2.2.2)))] ws z) 111 [(0, .ref (ad 32)), (1, .int x1)] [.int s2, .int s1, .ref (ad 36)] [(32, (ad 32, .inr (3, [.ref (ad 1), .ref (ad 9), .ref (ad 22), .ref (ad 33), .ref (ad 34), .ref (ad 35), .ref (ad 36), .int p_size, .int p_column]))), (33, (ad 33, .inl (cB, 1300, .inl p_sheet))), (35, (ad 35, .inl (cZ, 150, .inl p_broken))), (36, (ad 36, .inl (cI, 150, .inl p_indents)))] := by
  intro x1 s1 s2 p_size p_column p_sheet p_broken p_indents h
  unfold jn_X3_layPart_111 at h
  refine k_iast (L' := fun f => [(32, (ad 32, .inr (3, [.ref (ad 1), .ref (ad 9), .ref (ad 22), .ref (ad 33), .ref (ad 34), .ref (ad 35), .ref (ad 36), .int p_size, .int p_column]))), (33, (ad 33, .inl (cB, 1300, .inl p_sheet))), (35, (ad 35, .inl (cZ, 150, .inl p_broken))), (36, (ad 36, .inl (cI, 150, .inl f)))]) 36 0 rfl rfl rfl dX3_layPart_111 h (fun _ => rfl) (fun p_indents_9 h => ?_)
  refine k_aload_n dX3_layPart_112 0 rfl rfl ?_
  refine k_get 32 5 rfl rfl qX3_layPart_wX3 (by decide) qX3_layPart_f19 rfl dX3_layPart_113 ?_
  refine k_iload_n dX3_layPart_116 1 rfl rfl ?_
  refine k_zald 35 3 rfl rfl dX3_layPart_117 h (fun v10 h => ?_)
  refine k_if_eq 151 dX3_layPart_118 (by decide) h (fun h => ?_) (fun h => ?_)
  · skip
    refine k_sub [] rfl ?_
    exact wjn_X3_layPart_151 (cI := cI) (cB := cB) (cJ := cJ) (cZ := cZ) (ad := ad) E  _ _ _ _ _ h
  · skip
    refine k_aload_n dX3_layPart_121 0 rfl rfl ?_
    refine k_get 32 0 rfl rfl qX3_layPart_wX3 (by decide) qX3_layPart_f33 rfl dX3_layPart_122 ?_
    refine k_getN 1 4 E.1 rfl qX3_layPart_wX2 (by decide) (host := "KindParser") (by decide +kernel) rfl dX3_layPart_125 ?_
    refine k_aload_n dX3_layPart_128 0 rfl rfl ?_
    refine k_get 32 2 rfl rfl qX3_layPart_wX3 (by decide) qX3_layPart_f41 rfl dX3_layPart_129 ?_
    refine k_iload_n dX3_layPart_132 1 rfl rfl ?_
    refine k_iconst (v := 0) dX3_layPart_133 (by decide) ?_
    obtain ⟨r11, hr11, h⟩ := Option.bind_eq_some_iff.mp h
    refine k_calliV (As := [.int x1, .int 0]) (st := [.ref (ad 6)]) (Lc := []) (L' := [(32, (ad 32, .inr (3, [.ref (ad 1), .ref (ad 9), .ref (ad 22), .ref (ad 33), .ref (ad 34), .ref (ad 35), .ref (ad 36), .int p_size, .int p_column]))), (33, (ad 33, .inl (cB, 1300, .inl p_sheet))), (35, (ad 35, .inl (cZ, 150, .inl p_broken))), (36, (ad 36, .inl (cI, 150, .inl p_indents_9)))]) (r := r11) gX3_layPart_X4_cell rfl rfl rfl hyVX4_cell ⟨Nat.le_of_ble_eq_true rfl, Nat.le_of_ble_eq_true rfl⟩ rfl rfl (Nat.le_of_ble_eq_true rfl) 22 E.2.2.2.2.2.2.2.2.2.1 rfl dX3_layPart_134 (fun w z hw => c_X4_cell (cI := cI) (cB := cB) (cJ := cJ) (cZ := cZ) (ad := ad) w z ⟨((hw 22).trans E.2.2.2.2.2.2.2.2.2.1), ((hw 23).trans E.2.2.2.2.2.2.2.2.2.2.1)⟩  hr11) rfl rfl ?_
    refine k_zald 6 3 E.2.1 rfl dX3_layPart_137 h (fun v12 h => ?_)
    refine k_if_eq 151 dX3_layPart_138 (by decide) h (fun h => ?_) (fun h => ?_)
    · skip
      refine k_sub [] rfl ?_
      exact wjn_X3_layPart_151 (cI := cI) (cB := cB) (cJ := cJ) (cZ := cZ) (ad := ad) E  _ _ _ _ _ h
    · skip
      refine k_aload_n dX3_layPart_141 0 rfl rfl ?_
      refine k_get 32 6 rfl rfl qX3_layPart_wX3 (by decide) qX3_layPart_f23 rfl dX3_layPart_142 ?_
      refine k_iload_n dX3_layPart_145 1 rfl rfl ?_
      refine k_dup2 dX3_layPart_146 rfl rfl ?_
      refine k_iald 36 0 rfl rfl dX3_layPart_147 h (fun v13 h => ?_)
      refine k_iconst (v := 2) dX3_layPart_148 (by decide) ?_
      refine k_iadd dX3_layPart_149 ?_
      refine k_iast (L' := fun f => [(32, (ad 32, .inr (3, [.ref (ad 1), .ref (ad 9), .ref (ad 22), .ref (ad 33), .ref (ad 34), .ref (ad 35), .ref (ad 36), .int p_size, .int p_column]))), (33, (ad 33, .inl (cB, 1300, .inl p_sheet))), (35, (ad 35, .inl (cZ, 150, .inl p_broken))), (36, (ad 36, .inl (cI, 150, .inl f)))]) 36 0 rfl rfl rfl dX3_layPart_150 h (fun _ => rfl) (fun p_indents_14 h => ?_)
      refine k_sub [] rfl ?_
      exact wjn_X3_layPart_151 (cI := cI) (cB := cB) (cJ := cJ) (cZ := cZ) (ad := ad) E  _ _ _ _ _ h
set_option maxHeartbeats 4000000 in
set_option maxRecDepth 100000 in
theorem wjn_X3_layPart_90 {l : Launch} {D : va_G} {cI cB cJ cZ : ClassId} {ad : Nat → Nat} {ws : va_W} {z : Nat} {g_size : Int32} {g_ins : Nat → Int32} {c_length : Int32} {c_size : Int32} {c_comments : Int32} {c_text : Nat → Int32} {c_starts : Nat → Int32} {c_lengths : Nat → Int32} {c_firstComments : Nat → Int32} {c_commentStarts : Nat → Int32} {c_commentEnds : Nat → Int32} {t_waiting : Int32} {t_size : Int32} {t_skipped : Int32} {t_cells : Nat → Int32} {t_hints : Nat → Int32} {p_flats : Nat → Int32} (E : ws[1]? = some (ad 1, .inr (2, [.ref (ad 2), .ref (ad 3), .ref (ad 4), .ref (ad 5), .ref (ad 6), .ref (ad 7), .int g_size])) ∧ ws[6]? = some (ad 6, .inl (cZ, 20, .inl g_ins)) ∧ ws[9]? = some (ad 9, .inr (1, [.ref (ad 10), .int c_length, .ref (ad 11), .ref (ad 12), .ref (ad 13), .ref (ad 14), .ref (ad 15), .ref (ad 16), .int c_size, .int c_comments])) ∧ ws[10]? = some (ad 10, .inl (cB, 80, .inl c_text)) ∧ ws[11]? = some (ad 11, .inl (cI, 16, .inl c_starts)) ∧ ws[12]? = some (ad 12, .inl (cI, 16, .inl c_lengths)) ∧ ws[14]? = some (ad 14, .inl (cI, 18, .inl c_firstComments)) ∧ ws[15]? = some (ad 15, .inl (cI, 40, .inl c_commentStarts)) ∧ ws[16]? = some (ad 16, .inl (cI, 40, .inl c_commentEnds)) ∧ ws[22]? = some (ad 22, .inr (4, [.ref (ad 1), .ref (ad 17), .ref (ad 23), .ref (ad 24), .ref (ad 25), .ref (ad 26), .ref (ad 27), .ref (ad 28), .ref (ad 29), .ref (ad 30), .ref (ad 31), .int t_waiting, .int t_size, .int t_skipped])) ∧ ws[23]? = some (ad 23, .inl (cI, 1050, .inl t_cells)) ∧ ws[24]? = some (ad 24, .inl (cI, 150, .inl t_hints)) ∧ ws[34]? = some (ad 34, .inl (cI, 150, .inl p_flats))) {o : (Int32) × (Int32) × (Nat → Int32) × (Nat → Int32) × (Nat → Int32)}   : ∀ (x1 : Int32) (x3 : Int32) (s1 : Int32) (s2 : Int32) (p_size : Int32) (p_column : Int32) (p_sheet : Nat → Int32) (p_broken : Nat → Int32) (p_indents : Nat → Int32), jn_X3_layPart_90 g_ins c_size c_text c_starts c_lengths c_firstComments c_commentStarts c_commentEnds t_cells t_hints p_flats x1 x3 s1 s2 p_size p_column p_sheet p_broken p_indents = some o → KW l xX3_layPart D (kT cI cB cJ cZ) ws z (kQv D (kT cI cB cJ cZ) [(32, (ad 32, .inr (3, [.ref (ad 1), .ref (ad 9), .ref (ad 22), .ref (ad 33), .ref (ad 34), .ref (ad 35), .ref (ad 36), .int o.1, .int o.2.1]))), (33, (ad 33, .inl (cB, 1300, .inl o.2.2.1))), (35, (ad 35, .inl (cZ, 150, .inl o.2.2.2.1))), (36, (ad 36, .inl (cI, 150, .inl o.2.2.2.2)))] ws z) 90 [(0, .ref (ad 32)), (1, .int x1), (3, .int x3)] [.int s2, .int s1, .ref (ad 35)] [(32, (ad 32, .inr (3, [.ref (ad 1), .ref (ad 9), .ref (ad 22), .ref (ad 33), .ref (ad 34), .ref (ad 35), .ref (ad 36), .int p_size, .int p_column]))), (33, (ad 33, .inl (cB, 1300, .inl p_sheet))), (35, (ad 35, .inl (cZ, 150, .inl p_broken))), (36, (ad 36, .inl (cI, 150, .inl p_indents)))] := by
  intro x1 x3 s1 s2 p_size p_column p_sheet p_broken p_indents h
  unfold jn_X3_layPart_90 at h
  refine k_zast (L' := fun f => [(32, (ad 32, .inr (3, [.ref (ad 1), .ref (ad 9), .ref (ad 22), .ref (ad 33), .ref (ad 34), .ref (ad 35), .ref (ad 36), .int p_size, .int p_column]))), (33, (ad 33, .inl (cB, 1300, .inl p_sheet))), (35, (ad 35, .inl (cZ, 150, .inl f))), (36, (ad 36, .inl (cI, 150, .inl p_indents)))]) 35 3 rfl rfl rfl dX3_layPart_90 h (fun _ => rfl) (fun p_broken_8 h => ?_)
  refine k_aload_n dX3_layPart_91 0 rfl rfl ?_
  refine k_get 32 6 rfl rfl qX3_layPart_wX3 (by decide) qX3_layPart_f23 rfl dX3_layPart_92 ?_
  refine k_iload_n dX3_layPart_95 1 rfl rfl ?_
  refine k_iload_n dX3_layPart_96 2 rfl rfl ?_
  refine k_iconst (v := (-1)) dX3_layPart_97 (by decide) ?_
  refine k_icmp_ne 105 dX3_layPart_98 (by decide) h (fun h => ?_) (fun h => ?_)
  · skip
    refine k_iconst (v := 0) dX3_layPart_101 (by decide) ?_
    refine k_goto 111 dX3_layPart_102 (by decide) ?_
    refine k_sub [0, 1] rfl ?_
    exact wjn_X3_layPart_111 (cI := cI) (cB := cB) (cJ := cJ) (cZ := cZ) (ad := ad) E  _ _ _ _ _ _ _ _ h
  · skip
    refine k_aload_n dX3_layPart_105 0 rfl rfl ?_
    refine k_get 32 6 rfl rfl qX3_layPart_wX3 (by decide) qX3_layPart_f23 rfl dX3_layPart_106 ?_
    refine k_iload_n dX3_layPart_109 2 rfl rfl ?_
    refine k_iald 36 0 rfl rfl dX3_layPart_110 h (fun v15 h => ?_)
    refine k_sub [0, 1] rfl ?_
    exact wjn_X3_layPart_111 (cI := cI) (cB := cB) (cJ := cJ) (cZ := cZ) (ad := ad) E  _ _ _ _ _ _ _ _ h
set_option maxHeartbeats 4000000 in
set_option maxRecDepth 100000 in
theorem wjn_X3_layPart_24 {l : Launch} {D : va_G} {cI cB cJ cZ : ClassId} {ad : Nat → Nat} {ws : va_W} {z : Nat} {g_size : Int32} {g_ins : Nat → Int32} {c_length : Int32} {c_size : Int32} {c_comments : Int32} {c_text : Nat → Int32} {c_starts : Nat → Int32} {c_lengths : Nat → Int32} {c_firstComments : Nat → Int32} {c_commentStarts : Nat → Int32} {c_commentEnds : Nat → Int32} {t_waiting : Int32} {t_size : Int32} {t_skipped : Int32} {t_cells : Nat → Int32} {t_hints : Nat → Int32} {p_flats : Nat → Int32} (E : ws[1]? = some (ad 1, .inr (2, [.ref (ad 2), .ref (ad 3), .ref (ad 4), .ref (ad 5), .ref (ad 6), .ref (ad 7), .int g_size])) ∧ ws[6]? = some (ad 6, .inl (cZ, 20, .inl g_ins)) ∧ ws[9]? = some (ad 9, .inr (1, [.ref (ad 10), .int c_length, .ref (ad 11), .ref (ad 12), .ref (ad 13), .ref (ad 14), .ref (ad 15), .ref (ad 16), .int c_size, .int c_comments])) ∧ ws[10]? = some (ad 10, .inl (cB, 80, .inl c_text)) ∧ ws[11]? = some (ad 11, .inl (cI, 16, .inl c_starts)) ∧ ws[12]? = some (ad 12, .inl (cI, 16, .inl c_lengths)) ∧ ws[14]? = some (ad 14, .inl (cI, 18, .inl c_firstComments)) ∧ ws[15]? = some (ad 15, .inl (cI, 40, .inl c_commentStarts)) ∧ ws[16]? = some (ad 16, .inl (cI, 40, .inl c_commentEnds)) ∧ ws[22]? = some (ad 22, .inr (4, [.ref (ad 1), .ref (ad 17), .ref (ad 23), .ref (ad 24), .ref (ad 25), .ref (ad 26), .ref (ad 27), .ref (ad 28), .ref (ad 29), .ref (ad 30), .ref (ad 31), .int t_waiting, .int t_size, .int t_skipped])) ∧ ws[23]? = some (ad 23, .inl (cI, 1050, .inl t_cells)) ∧ ws[24]? = some (ad 24, .inl (cI, 150, .inl t_hints)) ∧ ws[34]? = some (ad 34, .inl (cI, 150, .inl p_flats))) {o : (Int32) × (Int32) × (Nat → Int32) × (Nat → Int32) × (Nat → Int32)}   : ∀ (x1 : Int32) (x2 : Int32) (x3 : Int32) (p_size : Int32) (p_column : Int32) (p_sheet : Nat → Int32) (p_broken : Nat → Int32) (p_indents : Nat → Int32), jn_X3_layPart_24 g_ins c_size c_text c_starts c_lengths c_firstComments c_commentStarts c_commentEnds t_cells t_hints p_flats x1 x2 x3 p_size p_column p_sheet p_broken p_indents = some o → KW l xX3_layPart D (kT cI cB cJ cZ) ws z (kQv D (kT cI cB cJ cZ) [(32, (ad 32, .inr (3, [.ref (ad 1), .ref (ad 9), .ref (ad 22), .ref (ad 33), .ref (ad 34), .ref (ad 35), .ref (ad 36), .int o.1, .int o.2.1]))), (33, (ad 33, .inl (cB, 1300, .inl o.2.2.1))), (35, (ad 35, .inl (cZ, 150, .inl o.2.2.2.1))), (36, (ad 36, .inl (cI, 150, .inl o.2.2.2.2)))] ws z) 24 [(0, .ref (ad 32)), (1, .int x1), (2, .int x2), (3, .int x3)] [] [(32, (ad 32, .inr (3, [.ref (ad 1), .ref (ad 9), .ref (ad 22), .ref (ad 33), .ref (ad 34), .ref (ad 35), .ref (ad 36), .int p_size, .int p_column]))), (33, (ad 33, .inl (cB, 1300, .inl p_sheet))), (35, (ad 35, .inl (cZ, 150, .inl p_broken))), (36, (ad 36, .inl (cI, 150, .inl p_indents)))] := by
  intro x1 x2 x3 p_size p_column p_sheet p_broken p_indents h
  unfold jn_X3_layPart_24 at h
  refine k_aload_n dX3_layPart_24 0 rfl rfl ?_
  refine k_get 32 2 rfl rfl qX3_layPart_wX3 (by decide) qX3_layPart_f41 rfl dX3_layPart_25 ?_
  refine k_iload_n dX3_layPart_28 1 rfl rfl ?_
  refine k_iconst (v := 3) dX3_layPart_29 (by decide) ?_
  obtain ⟨r4, hr4, h⟩ := Option.bind_eq_some_iff.mp h
  refine k_calliV (As := [.int x1, .int 3]) (st := []) (Lc := []) (L' := [(32, (ad 32, .inr (3, [.ref (ad 1), .ref (ad 9), .ref (ad 22), .ref (ad 33), .ref (ad 34), .ref (ad 35), .ref (ad 36), .int p_size, .int p_column]))), (33, (ad 33, .inl (cB, 1300, .inl p_sheet))), (35, (ad 35, .inl (cZ, 150, .inl p_broken))), (36, (ad 36, .inl (cI, 150, .inl p_indents)))]) (r := r4) gX3_layPart_X4_cell rfl rfl rfl hyVX4_cell ⟨Nat.le_of_ble_eq_true rfl, Nat.le_of_ble_eq_true rfl⟩ rfl rfl (Nat.le_of_ble_eq_true rfl) 22 E.2.2.2.2.2.2.2.2.2.1 rfl dX3_layPart_30 (fun w z hw => c_X4_cell (cI := cI) (cB := cB) (cJ := cJ) (cZ := cZ) (ad := ad) w z ⟨((hw 22).trans E.2.2.2.2.2.2.2.2.2.1), ((hw 23).trans E.2.2.2.2.2.2.2.2.2.2.1)⟩  hr4) rfl rfl ?_
  refine k_istore (i := 4) (lv' := fun x => [(4, .int x), (0, .ref (ad 32)), (1, .int x1), (2, .int x2), (3, .int x3)]) dX3_layPart_33 (Nat.le_of_ble_eq_true rfl) (fun _ => rfl) h (fun x4_5 h => ?_)
  refine k_aload_n dX3_layPart_35 1 rfl rfl ?_
  refine k_get 32 2 rfl rfl qX3_layPart_wX3 (by decide) qX3_layPart_f41 rfl dX3_layPart_36 ?_
  refine k_iload_n dX3_layPart_39 2 rfl rfl ?_
  obtain ⟨r6, hr6, h⟩ := Option.bind_eq_some_iff.mp h
  refine k_calliV (As := [.int x1]) (st := []) (Lc := []) (L' := [(32, (ad 32, .inr (3, [.ref (ad 1), .ref (ad 9), .ref (ad 22), .ref (ad 33), .ref (ad 34), .ref (ad 35), .ref (ad 36), .int p_size, .int p_column]))), (33, (ad 33, .inl (cB, 1300, .inl p_sheet))), (35, (ad 35, .inl (cZ, 150, .inl p_broken))), (36, (ad 36, .inl (cI, 150, .inl p_indents)))]) (r := r6) gX3_layPart_X4_isLeaf rfl rfl rfl hyVX4_isLeaf ⟨Nat.le_of_ble_eq_true rfl, Nat.le_of_ble_eq_true rfl⟩ rfl rfl (Nat.le_of_ble_eq_true rfl) 22 E.2.2.2.2.2.2.2.2.2.1 rfl dX3_layPart_40 (fun w z hw => c_X4_isLeaf (cI := cI) (cB := cB) (cJ := cJ) (cZ := cZ) (ad := ad) w z ⟨((hw 22).trans E.2.2.2.2.2.2.2.2.2.1), ((hw 23).trans E.2.2.2.2.2.2.2.2.2.2.1)⟩  hr6) rfl rfl ?_
  refine k_if_eq 65 dX3_layPart_43 (by decide) h (fun h => ?_) (fun h => ?_)
  · skip
    refine k_aload_n dX3_layPart_65 1 rfl rfl ?_
    refine k_get 32 5 rfl rfl qX3_layPart_wX3 (by decide) qX3_layPart_f19 rfl dX3_layPart_66 ?_
    refine k_iload_n dX3_layPart_69 2 rfl rfl ?_
    refine k_aload_n dX3_layPart_70 1 rfl rfl ?_
    refine k_get 32 4 rfl rfl qX3_layPart_wX3 (by decide) qX3_layPart_f15 rfl dX3_layPart_71 ?_
    refine k_iload_n dX3_layPart_74 2 rfl rfl ?_
    refine k_iald 34 0 E.2.2.2.2.2.2.2.2.2.2.2.2 rfl dX3_layPart_75 h (fun v7 h => ?_)
    refine k_iload_n dX3_layPart_76 3 rfl rfl ?_
    refine k_aload_n dX3_layPart_77 1 rfl rfl ?_
    refine k_get 32 8 rfl rfl qX3_layPart_wX3 (by decide) qX3_layPart_f30 rfl dX3_layPart_78 ?_
    refine k_isub dX3_layPart_81 ?_
    refine k_icmp_le 89 dX3_layPart_82 (by decide) h (fun h => ?_) (fun h => ?_)
    · skip
      refine k_iconst (v := 0) dX3_layPart_89 (by decide) ?_
      refine k_sub [1, 2, 4] rfl ?_
      exact wjn_X3_layPart_90 (cI := cI) (cB := cB) (cJ := cJ) (cZ := cZ) (ad := ad) E  _ _ _ _ _ _ _ _ _ h
    · skip
      refine k_iconst (v := 1) dX3_layPart_85 (by decide) ?_
      refine k_goto 90 dX3_layPart_86 (by decide) ?_
      refine k_sub [1, 2, 4] rfl ?_
      exact wjn_X3_layPart_90 (cI := cI) (cB := cB) (cJ := cJ) (cZ := cZ) (ad := ad) E  _ _ _ _ _ _ _ _ _ h
  · skip
    refine k_aload_n dX3_layPart_46 1 rfl rfl ?_
    refine k_iload dX3_layPart_47 0 rfl ?_
    refine k_iload dX3_layPart_49 0 rfl ?_
    refine k_aload_n dX3_layPart_51 1 rfl rfl ?_
    refine k_get 32 2 rfl rfl qX3_layPart_wX3 (by decide) qX3_layPart_f41 rfl dX3_layPart_52 ?_
    refine k_iload_n dX3_layPart_55 2 rfl rfl ?_
    refine k_iconst (v := 4) dX3_layPart_56 (by decide) ?_
    obtain ⟨r16, hr16, h⟩ := Option.bind_eq_some_iff.mp h
    refine k_calliV (As := [.int x1, .int 4]) (st := [.int x4_5, .int x4_5, .ref (ad 32)]) (Lc := []) (L' := [(32, (ad 32, .inr (3, [.ref (ad 1), .ref (ad 9), .ref (ad 22), .ref (ad 33), .ref (ad 34), .ref (ad 35), .ref (ad 36), .int p_size, .int p_column]))), (33, (ad 33, .inl (cB, 1300, .inl p_sheet))), (35, (ad 35, .inl (cZ, 150, .inl p_broken))), (36, (ad 36, .inl (cI, 150, .inl p_indents)))]) (r := r16) gX3_layPart_X4_cell rfl rfl rfl hyVX4_cell ⟨Nat.le_of_ble_eq_true rfl, Nat.le_of_ble_eq_true rfl⟩ rfl rfl (Nat.le_of_ble_eq_true rfl) 22 E.2.2.2.2.2.2.2.2.2.1 rfl dX3_layPart_57 (fun w z hw => c_X4_cell (cI := cI) (cB := cB) (cJ := cJ) (cZ := cZ) (ad := ad) w z ⟨((hw 22).trans E.2.2.2.2.2.2.2.2.2.1), ((hw 23).trans E.2.2.2.2.2.2.2.2.2.2.1)⟩  hr16) rfl rfl ?_
    refine k_iadd dX3_layPart_60 ?_
    obtain ⟨r17, hr17, h⟩ := Option.bind_eq_some_iff.mp h
    refine k_callvV (As := [.int x4_5, .int (x4_5 + r16)]) (st := []) (Lc := [(32, (ad 32, .inr (3, [.ref (ad 1), .ref (ad 9), .ref (ad 22), .ref (ad 33), .ref (ad 34), .ref (ad 35), .ref (ad 36), .int r17.1, .int r17.2.1]))), (33, (ad 33, .inl (cB, 1300, .inl r17.2.2)))]) (L' := [(32, (ad 32, .inr (3, [.ref (ad 1), .ref (ad 9), .ref (ad 22), .ref (ad 33), .ref (ad 34), .ref (ad 35), .ref (ad 36), .int r17.1, .int r17.2.1]))), (33, (ad 33, .inl (cB, 1300, .inl r17.2.2))), (35, (ad 35, .inl (cZ, 150, .inl p_broken))), (36, (ad 36, .inl (cI, 150, .inl p_indents)))]) gX3_layPart_X3_layTokens rfl rfl rfl hyVX3_layTokens ⟨Nat.le_of_ble_eq_true rfl, Nat.le_of_ble_eq_true rfl⟩ rfl rfl (Nat.le_of_ble_eq_true rfl) 32 rfl rfl dX3_layPart_61 (fun w z hw => c_X3_layTokens (cI := cI) (cB := cB) (cJ := cJ) (cZ := cZ) (ad := ad) w z ⟨((hw 9).trans E.2.2.1), ((hw 10).trans E.2.2.2.1), ((hw 11).trans E.2.2.2.2.1), ((hw 12).trans E.2.2.2.2.2.1), ((hw 14).trans E.2.2.2.2.2.2.1), ((hw 15).trans E.2.2.2.2.2.2.2.1), ((hw 16).trans E.2.2.2.2.2.2.2.2.1)⟩ (hw 32) (hw 33) hr17) rfl rfl ?_
    obtain rfl := Option.some.inj h
    exact k_vret rfl dX3_layPart_64
set_option maxHeartbeats 4000000 in
set_option maxRecDepth 100000 in
/-- KindParser$Page.layPart -/
theorem c_X3_layPart {l : Launch} {D : va_G} {cI cB cJ cZ : ClassId} {ad : Nat → Nat} (ws : va_W) (z : Nat) {g_size : Int32} {g_ins : Nat → Int32} {c_length : Int32} {c_size : Int32} {c_comments : Int32} {c_text : Nat → Int32} {c_starts : Nat → Int32} {c_lengths : Nat → Int32} {c_firstComments : Nat → Int32} {c_commentStarts : Nat → Int32} {c_commentEnds : Nat → Int32} {t_waiting : Int32} {t_size : Int32} {t_skipped : Int32} {t_cells : Nat → Int32} {t_hints : Nat → Int32} {p_size : Int32} {p_column : Int32} {p_sheet : Nat → Int32} {p_flats : Nat → Int32} {p_broken : Nat → Int32} {p_indents : Nat → Int32} (E : ws[1]? = some (ad 1, .inr (2, [.ref (ad 2), .ref (ad 3), .ref (ad 4), .ref (ad 5), .ref (ad 6), .ref (ad 7), .int g_size])) ∧ ws[6]? = some (ad 6, .inl (cZ, 20, .inl g_ins)) ∧ ws[9]? = some (ad 9, .inr (1, [.ref (ad 10), .int c_length, .ref (ad 11), .ref (ad 12), .ref (ad 13), .ref (ad 14), .ref (ad 15), .ref (ad 16), .int c_size, .int c_comments])) ∧ ws[10]? = some (ad 10, .inl (cB, 80, .inl c_text)) ∧ ws[11]? = some (ad 11, .inl (cI, 16, .inl c_starts)) ∧ ws[12]? = some (ad 12, .inl (cI, 16, .inl c_lengths)) ∧ ws[14]? = some (ad 14, .inl (cI, 18, .inl c_firstComments)) ∧ ws[15]? = some (ad 15, .inl (cI, 40, .inl c_commentStarts)) ∧ ws[16]? = some (ad 16, .inl (cI, 40, .inl c_commentEnds)) ∧ ws[22]? = some (ad 22, .inr (4, [.ref (ad 1), .ref (ad 17), .ref (ad 23), .ref (ad 24), .ref (ad 25), .ref (ad 26), .ref (ad 27), .ref (ad 28), .ref (ad 29), .ref (ad 30), .ref (ad 31), .int t_waiting, .int t_size, .int t_skipped])) ∧ ws[23]? = some (ad 23, .inl (cI, 1050, .inl t_cells)) ∧ ws[24]? = some (ad 24, .inl (cI, 150, .inl t_hints)) ∧ ws[34]? = some (ad 34, .inl (cI, 150, .inl p_flats))) (e32 : ws[32]? = some (ad 32, .inr (3, [.ref (ad 1), .ref (ad 9), .ref (ad 22), .ref (ad 33), .ref (ad 34), .ref (ad 35), .ref (ad 36), .int p_size, .int p_column]))) (e33 : ws[33]? = some (ad 33, .inl (cB, 1300, .inl p_sheet))) (e35 : ws[35]? = some (ad 35, .inl (cZ, 150, .inl p_broken))) (e36 : ws[36]? = some (ad 36, .inl (cI, 150, .inl p_indents))) {a1 : Int32} {a2 : Int32} {o : (Int32) × (Int32) × (Nat → Int32) × (Nat → Int32) × (Nat → Int32)} (h : f_X3_layPart a1 a2 g_ins c_size c_text c_starts c_lengths c_firstComments c_commentStarts c_commentEnds t_cells t_hints p_flats p_size p_column p_sheet p_broken p_indents = some o) : Met l yX3_layPart wsX3_layPart rmX3_layPart (kPc D (kT cI cB cJ cZ) [.ref (ad 32), .int a1, .int a2] ws z) (kQv D (kT cI cB cJ cZ) [(32, (ad 32, .inr (3, [.ref (ad 1), .ref (ad 9), .ref (ad 22), .ref (ad 33), .ref (ad 34), .ref (ad 35), .ref (ad 36), .int o.1, .int o.2.1]))), (33, (ad 33, .inl (cB, 1300, .inl o.2.2.1))), (35, (ad 35, .inl (cZ, 150, .inl o.2.2.2.1))), (36, (ad 36, .inl (cI, 150, .inl o.2.2.2.2)))] ws z) 0 0 (va_A ws z) := by
  refine KW.met (rm := rmX3_layPart) (lv := [(0, .ref (ad 32)), (1, .int a1), (2, .int a2)]) (L := [(32, (ad 32, .inr (3, [.ref (ad 1), .ref (ad 9), .ref (ad 22), .ref (ad 33), .ref (ad 34), .ref (ad 35), .ref (ad 36), .int p_size, .int p_column]))), (33, (ad 33, .inl (cB, 1300, .inl p_sheet))), (35, (ad 35, .inl (cZ, 150, .inl p_broken))), (36, (ad 36, .inl (cI, 150, .inl p_indents)))]) rfl (by decide) (Nat.le_of_ble_eq_true rfl) rfl (by intro q hq; simp only [List.mem_cons, List.not_mem_nil, or_false] at hq; rcases hq with rfl | rfl | rfl | rfl <;> assumption) ?_
  unfold f_X3_layPart at h
  show KW l xX3_layPart D (kT cI cB cJ cZ) ws z (kQv D (kT cI cB cJ cZ) [(32, (ad 32, .inr (3, [.ref (ad 1), .ref (ad 9), .ref (ad 22), .ref (ad 33), .ref (ad 34), .ref (ad 35), .ref (ad 36), .int o.1, .int o.2.1]))), (33, (ad 33, .inl (cB, 1300, .inl o.2.2.1))), (35, (ad 35, .inl (cZ, 150, .inl o.2.2.2.1))), (36, (ad 36, .inl (cI, 150, .inl o.2.2.2.2)))] ws z) 0 [(0, .ref (ad 32)), (1, .int a1), (2, .int a2)] [] [(32, (ad 32, .inr (3, [.ref (ad 1), .ref (ad 9), .ref (ad 22), .ref (ad 33), .ref (ad 34), .ref (ad 35), .ref (ad 36), .int p_size, .int p_column]))), (33, (ad 33, .inl (cB, 1300, .inl p_sheet))), (35, (ad 35, .inl (cZ, 150, .inl p_broken))), (36, (ad 36, .inl (cI, 150, .inl p_indents)))]
  refine k_aload_n dX3_layPart_0 0 rfl rfl ?_
  refine k_get 32 2 rfl rfl qX3_layPart_wX3 (by decide) qX3_layPart_f41 rfl dX3_layPart_1 ?_
  refine k_iload_n dX3_layPart_4 1 rfl rfl ?_
  refine k_iconst (v := 2) dX3_layPart_5 (by decide) ?_
  obtain ⟨r1, hr1, h⟩ := Option.bind_eq_some_iff.mp h
  refine k_calliV (As := [.int a1, .int 2]) (st := []) (Lc := []) (L' := [(32, (ad 32, .inr (3, [.ref (ad 1), .ref (ad 9), .ref (ad 22), .ref (ad 33), .ref (ad 34), .ref (ad 35), .ref (ad 36), .int p_size, .int p_column]))), (33, (ad 33, .inl (cB, 1300, .inl p_sheet))), (35, (ad 35, .inl (cZ, 150, .inl p_broken))), (36, (ad 36, .inl (cI, 150, .inl p_indents)))]) (r := r1) gX3_layPart_X4_cell rfl rfl rfl hyVX4_cell ⟨Nat.le_of_ble_eq_true rfl, Nat.le_of_ble_eq_true rfl⟩ rfl rfl (Nat.le_of_ble_eq_true rfl) 22 E.2.2.2.2.2.2.2.2.2.1 rfl dX3_layPart_6 (fun w z hw => c_X4_cell (cI := cI) (cB := cB) (cJ := cJ) (cZ := cZ) (ad := ad) w z ⟨((hw 22).trans E.2.2.2.2.2.2.2.2.2.1), ((hw 23).trans E.2.2.2.2.2.2.2.2.2.2.1)⟩  hr1) rfl rfl ?_
  refine k_istore_n (i := 3) (lv' := fun x => [(3, .int x), (0, .ref (ad 32)), (1, .int a1), (2, .int a2)]) dX3_layPart_9 rfl (Nat.le_of_ble_eq_true rfl) (fun _ => rfl) h (fun x3_2 h => ?_)
  refine k_aload_n dX3_layPart_10 1 rfl rfl ?_
  refine k_iload_n dX3_layPart_11 2 rfl rfl ?_
  obtain ⟨r3, hr3, h⟩ := Option.bind_eq_some_iff.mp h
  refine k_calliV (As := [.int a1]) (st := []) (Lc := []) (L' := [(32, (ad 32, .inr (3, [.ref (ad 1), .ref (ad 9), .ref (ad 22), .ref (ad 33), .ref (ad 34), .ref (ad 35), .ref (ad 36), .int p_size, .int p_column]))), (33, (ad 33, .inl (cB, 1300, .inl p_sheet))), (35, (ad 35, .inl (cZ, 150, .inl p_broken))), (36, (ad 36, .inl (cI, 150, .inl p_indents)))]) (r := r3) gX3_layPart_X3_hasGap rfl rfl rfl hyVX3_hasGap ⟨Nat.le_of_ble_eq_true rfl, Nat.le_of_ble_eq_true rfl⟩ rfl rfl (Nat.le_of_ble_eq_true rfl) 32 rfl rfl dX3_layPart_12 (fun w z hw => c_X3_hasGap (cI := cI) (cB := cB) (cJ := cJ) (cZ := cZ) (ad := ad) w z ⟨((hw 22).trans E.2.2.2.2.2.2.2.2.2.1), ((hw 23).trans E.2.2.2.2.2.2.2.2.2.2.1), (hw 32)⟩  hr3) rfl rfl ?_
  refine k_if_eq 24 dX3_layPart_15 (by decide) h (fun h => ?_) (fun h => ?_)
  · skip
    refine k_sub [1, 2, 3, 0] rfl ?_
    exact wjn_X3_layPart_24 (cI := cI) (cB := cB) (cJ := cJ) (cZ := cZ) (ad := ad) E  _ _ _ _ _ _ _ _ h
  · skip
    refine k_aload_n dX3_layPart_18 1 rfl rfl ?_
    refine k_iload_n dX3_layPart_19 2 rfl rfl ?_
    refine k_iload_n dX3_layPart_20 0 rfl rfl ?_
    obtain ⟨r18, hr18, h⟩ := Option.bind_eq_some_iff.mp h
    refine k_callvV (As := [.int a1, .int x3_2]) (st := []) (Lc := [(32, (ad 32, .inr (3, [.ref (ad 1), .ref (ad 9), .ref (ad 22), .ref (ad 33), .ref (ad 34), .ref (ad 35), .ref (ad 36), .int r18.1, .int r18.2.1]))), (33, (ad 33, .inl (cB, 1300, .inl r18.2.2)))]) (L' := [(32, (ad 32, .inr (3, [.ref (ad 1), .ref (ad 9), .ref (ad 22), .ref (ad 33), .ref (ad 34), .ref (ad 35), .ref (ad 36), .int r18.1, .int r18.2.1]))), (33, (ad 33, .inl (cB, 1300, .inl r18.2.2))), (35, (ad 35, .inl (cZ, 150, .inl p_broken))), (36, (ad 36, .inl (cI, 150, .inl p_indents)))]) gX3_layPart_X3_layGap rfl rfl rfl hyVX3_layGap ⟨Nat.le_of_ble_eq_true rfl, Nat.le_of_ble_eq_true rfl⟩ rfl rfl (Nat.le_of_ble_eq_true rfl) 32 rfl rfl dX3_layPart_21 (fun w z hw => c_X3_layGap (cI := cI) (cB := cB) (cJ := cJ) (cZ := cZ) (ad := ad) w z ⟨((hw 9).trans E.2.2.1), ((hw 10).trans E.2.2.2.1), ((hw 11).trans E.2.2.2.2.1), ((hw 14).trans E.2.2.2.2.2.2.1), ((hw 22).trans E.2.2.2.2.2.2.2.2.2.1), ((hw 23).trans E.2.2.2.2.2.2.2.2.2.2.1), ((hw 24).trans E.2.2.2.2.2.2.2.2.2.2.2.1), (hw 35), (hw 36)⟩ (hw 32) (hw 33) hr18) rfl rfl ?_
    refine k_sub [1, 2, 3, 0] rfl ?_
    exact wjn_X3_layPart_24 (cI := cI) (cB := cB) (cJ := cJ) (cZ := cZ) (ad := ad) E  _ _ _ _ _ _ _ _ h
abbrev rmX3_layEnd : Room := { frames := 4, cells := 0, slots := 0, locals := 90 }
abbrev xX3_layEnd : KX := (rmX3_layEnd, cX3_layEnd, 2, none, RX3, wsX3_layEnd)
theorem hySX3_layEnd : yX3_layEnd.cls ≠ "java/lang/invoke/MethodHandle" ∧ yX3_layEnd.cls ≠ "java/lang/invoke/VarHandle" ∧ (parseMethodDescriptor yX3_layEnd.desc).map (fun d => d.parameters.length) = some 0 := by decide +kernel
theorem hyVX3_layEnd : yX3_layEnd.cls = RX3 ∧ yX3_layEnd.cls ≠ "java/lang/invoke/MethodHandle" ∧ yX3_layEnd.cls ≠ "java/lang/invoke/VarHandle" ∧ (parseMethodDescriptor yX3_layEnd.desc).map (fun d => d.parameters.length) = some 0 := ⟨rfl, hySX3_layEnd⟩
theorem qX3_layEnd_wX3 : ∀ w ∈ u_ws RX3 TX3 9, w ∈ wsX3_layEnd := by decide +kernel
theorem qX3_layEnd_f37 : Cond.fieldLink RX3 37 "KindParser$Page" "cut" "LKindParser$Cut;" ∈ wsX3_layEnd := by decide +kernel
theorem qX3_layEnd_wX1 : ∀ w ∈ u_ws RX1 TX1 10, w ∈ wsX3_layEnd := by decide +kernel
theorem qX3_layEnd_f41 : Cond.fieldLink RX3 41 "KindParser$Page" "tree" "LKindParser$Tree;" ∈ wsX3_layEnd := by decide +kernel
theorem qX3_layEnd_wX4 : ∀ w ∈ u_ws RX4 TX4 14, w ∈ wsX3_layEnd := by decide +kernel
theorem qX3_layEnd_f26 : Cond.fieldLink RX3 26 "KindParser$Page" "size" "I" ∈ wsX3_layEnd := by decide +kernel
set_option maxHeartbeats 4000000 in
set_option maxRecDepth 100000 in
theorem wjn_X3_layEnd_97 {l : Launch} {D : va_G} {cI cB cJ cZ : ClassId} {ad : Nat → Nat} {ws : va_W} {z : Nat} {c_length : Int32} {c_size : Int32} {c_comments : Int32} {c_text : Nat → Int32} {c_starts : Nat → Int32} {c_lengths : Nat → Int32} {c_firstComments : Nat → Int32} {c_commentStarts : Nat → Int32} {c_commentEnds : Nat → Int32} {t_waiting : Int32} {t_size : Int32} {t_skipped : Int32} (E : ws[9]? = some (ad 9, .inr (1, [.ref (ad 10), .int c_length, .ref (ad 11), .ref (ad 12), .ref (ad 13), .ref (ad 14), .ref (ad 15), .ref (ad 16), .int c_size, .int c_comments])) ∧ ws[10]? = some (ad 10, .inl (cB, 80, .inl c_text)) ∧ ws[11]? = some (ad 11, .inl (cI, 16, .inl c_starts)) ∧ ws[12]? = some (ad 12, .inl (cI, 16, .inl c_lengths)) ∧ ws[14]? = some (ad 14, .inl (cI, 18, .inl c_firstComments)) ∧ ws[15]? = some (ad 15, .inl (cI, 40, .inl c_commentStarts)) ∧ ws[16]? = some (ad 16, .inl (cI, 40, .inl c_commentEnds)) ∧ ws[22]? = some (ad 22, .inr (4, [.ref (ad 1), .ref (ad 17), .ref (ad 23), .ref (ad 24), .ref (ad 25), .ref (ad 26), .ref (ad 27), .ref (ad 28), .ref (ad 29), .ref (ad 30), .ref (ad 31), .int t_waiting, .int t_size, .int t_skipped]))) {o : (Int32) × (Int32) × (Nat → Int32)}   : ∀ (p_size : Int32) (p_column : Int32) (p_sheet : Nat → Int32), jn_X3_layEnd_97 c_size c_text c_starts c_lengths c_firstComments c_commentStarts c_commentEnds t_skipped p_size p_column p_sheet = some o → KW l xX3_layEnd D (kT cI cB cJ cZ) ws z (kQv D (kT cI cB cJ cZ) [(32, (ad 32, .inr (3, [.ref (ad 1), .ref (ad 9), .ref (ad 22), .ref (ad 33), .ref (ad 34), .ref (ad 35), .ref (ad 36), .int o.1, .int o.2.1]))), (33, (ad 33, .inl (cB, 1300, .inl o.2.2)))] ws z) 97 [(0, .ref (ad 32))] [] [(32, (ad 32, .inr (3, [.ref (ad 1), .ref (ad 9), .ref (ad 22), .ref (ad 33), .ref (ad 34), .ref (ad 35), .ref (ad 36), .int p_size, .int p_column]))), (33, (ad 33, .inl (cB, 1300, .inl p_sheet)))] := by
  intro p_size p_column p_sheet h
  unfold jn_X3_layEnd_97 at h
  refine k_aload_n dX3_layEnd_97 0 rfl rfl ?_
  refine k_aload_n dX3_layEnd_98 0 rfl rfl ?_
  refine k_get 32 1 rfl rfl qX3_layEnd_wX3 (by decide) qX3_layEnd_f37 rfl dX3_layEnd_99 ?_
  refine k_getN 9 8 E.1 rfl qX3_layEnd_wX1 (by decide) (host := "KindParser") (by decide +kernel) rfl dX3_layEnd_102 ?_
  obtain ⟨r4, hr4, h⟩ := Option.bind_eq_some_iff.mp h
  refine k_callvV (As := [.int c_size]) (st := []) (Lc := [(32, (ad 32, .inr (3, [.ref (ad 1), .ref (ad 9), .ref (ad 22), .ref (ad 33), .ref (ad 34), .ref (ad 35), .ref (ad 36), .int r4.1, .int r4.2.1]))), (33, (ad 33, .inl (cB, 1300, .inl r4.2.2)))]) (L' := [(32, (ad 32, .inr (3, [.ref (ad 1), .ref (ad 9), .ref (ad 22), .ref (ad 33), .ref (ad 34), .ref (ad 35), .ref (ad 36), .int r4.1, .int r4.2.1]))), (33, (ad 33, .inl (cB, 1300, .inl r4.2.2)))]) gX3_layEnd_X3_layComments rfl rfl rfl hyVX3_layComments ⟨Nat.le_of_ble_eq_true rfl, Nat.le_of_ble_eq_true rfl⟩ rfl rfl (Nat.le_of_ble_eq_true rfl) 32 rfl rfl dX3_layEnd_105 (fun w z hw => c_X3_layComments (cI := cI) (cB := cB) (cJ := cJ) (cZ := cZ) (ad := ad) w z ⟨((hw 9).trans E.1), ((hw 10).trans E.2.1), ((hw 14).trans E.2.2.2.2.1), ((hw 15).trans E.2.2.2.2.2.1), ((hw 16).trans E.2.2.2.2.2.2.1)⟩ (hw 32) (hw 33) hr4) rfl rfl ?_
  obtain rfl := Option.some.inj h
  exact k_vret rfl dX3_layEnd_108
set_option maxHeartbeats 4000000 in
set_option maxRecDepth 100000 in
theorem wjn_X3_layEnd_51 {l : Launch} {D : va_G} {cI cB cJ cZ : ClassId} {ad : Nat → Nat} {ws : va_W} {z : Nat} {c_length : Int32} {c_size : Int32} {c_comments : Int32} {c_text : Nat → Int32} {c_starts : Nat → Int32} {c_lengths : Nat → Int32} {c_firstComments : Nat → Int32} {c_commentStarts : Nat → Int32} {c_commentEnds : Nat → Int32} {t_waiting : Int32} {t_size : Int32} {t_skipped : Int32} (E : ws[9]? = some (ad 9, .inr (1, [.ref (ad 10), .int c_length, .ref (ad 11), .ref (ad 12), .ref (ad 13), .ref (ad 14), .ref (ad 15), .ref (ad 16), .int c_size, .int c_comments])) ∧ ws[10]? = some (ad 10, .inl (cB, 80, .inl c_text)) ∧ ws[11]? = some (ad 11, .inl (cI, 16, .inl c_starts)) ∧ ws[12]? = some (ad 12, .inl (cI, 16, .inl c_lengths)) ∧ ws[14]? = some (ad 14, .inl (cI, 18, .inl c_firstComments)) ∧ ws[15]? = some (ad 15, .inl (cI, 40, .inl c_commentStarts)) ∧ ws[16]? = some (ad 16, .inl (cI, 40, .inl c_commentEnds)) ∧ ws[22]? = some (ad 22, .inr (4, [.ref (ad 1), .ref (ad 17), .ref (ad 23), .ref (ad 24), .ref (ad 25), .ref (ad 26), .ref (ad 27), .ref (ad 28), .ref (ad 29), .ref (ad 30), .ref (ad 31), .int t_waiting, .int t_size, .int t_skipped]))) {o : (Int32) × (Int32) × (Nat → Int32)}   : ∀ (x1 : Int32) (p_size : Int32) (p_column : Int32) (p_sheet : Nat → Int32), jn_X3_layEnd_51 c_size c_text c_starts c_lengths c_firstComments c_commentStarts c_commentEnds t_skipped x1 p_size p_column p_sheet = some o → KW l xX3_layEnd D (kT cI cB cJ cZ) ws z (kQv D (kT cI cB cJ cZ) [(32, (ad 32, .inr (3, [.ref (ad 1), .ref (ad 9), .ref (ad 22), .ref (ad 33), .ref (ad 34), .ref (ad 35), .ref (ad 36), .int o.1, .int o.2.1]))), (33, (ad 33, .inl (cB, 1300, .inl o.2.2)))] ws z) 51 [(0, .ref (ad 32)), (1, .int x1)] [] [(32, (ad 32, .inr (3, [.ref (ad 1), .ref (ad 9), .ref (ad 22), .ref (ad 33), .ref (ad 34), .ref (ad 35), .ref (ad 36), .int p_size, .int p_column]))), (33, (ad 33, .inl (cB, 1300, .inl p_sheet)))] := by
  intro x1 p_size p_column p_sheet h
  unfold jn_X3_layEnd_51 at h
  refine k_aload_n dX3_layEnd_51 0 rfl rfl ?_
  refine k_aload_n dX3_layEnd_52 0 rfl rfl ?_
  refine k_get 32 1 rfl rfl qX3_layEnd_wX3 (by decide) qX3_layEnd_f37 rfl dX3_layEnd_53 ?_
  refine k_getN 9 8 E.1 rfl qX3_layEnd_wX1 (by decide) (host := "KindParser") (by decide +kernel) rfl dX3_layEnd_56 ?_
  refine k_aload_n dX3_layEnd_59 0 rfl rfl ?_
  refine k_get 32 2 rfl rfl qX3_layEnd_wX3 (by decide) qX3_layEnd_f41 rfl dX3_layEnd_60 ?_
  refine k_getN 22 13 E.2.2.2.2.2.2.2 rfl qX3_layEnd_wX4 (by decide) (host := "KindParser") (by decide +kernel) rfl dX3_layEnd_63 ?_
  refine k_isub dX3_layEnd_66 ?_
  refine k_aload_n dX3_layEnd_67 0 rfl rfl ?_
  refine k_get 32 1 rfl rfl qX3_layEnd_wX3 (by decide) qX3_layEnd_f37 rfl dX3_layEnd_68 ?_
  refine k_getN 9 8 E.1 rfl qX3_layEnd_wX1 (by decide) (host := "KindParser") (by decide +kernel) rfl dX3_layEnd_71 ?_
  obtain ⟨r3, hr3, h⟩ := Option.bind_eq_some_iff.mp h
  refine k_callvV (As := [.int (c_size - t_skipped), .int c_size]) (st := []) (Lc := [(32, (ad 32, .inr (3, [.ref (ad 1), .ref (ad 9), .ref (ad 22), .ref (ad 33), .ref (ad 34), .ref (ad 35), .ref (ad 36), .int r3.1, .int r3.2.1]))), (33, (ad 33, .inl (cB, 1300, .inl r3.2.2)))]) (L' := [(32, (ad 32, .inr (3, [.ref (ad 1), .ref (ad 9), .ref (ad 22), .ref (ad 33), .ref (ad 34), .ref (ad 35), .ref (ad 36), .int r3.1, .int r3.2.1]))), (33, (ad 33, .inl (cB, 1300, .inl r3.2.2)))]) gX3_layEnd_X3_layTokens rfl rfl rfl hyVX3_layTokens ⟨Nat.le_of_ble_eq_true rfl, Nat.le_of_ble_eq_true rfl⟩ rfl rfl (Nat.le_of_ble_eq_true rfl) 32 rfl rfl dX3_layEnd_74 (fun w z hw => c_X3_layTokens (cI := cI) (cB := cB) (cJ := cJ) (cZ := cZ) (ad := ad) w z ⟨((hw 9).trans E.1), ((hw 10).trans E.2.1), ((hw 11).trans E.2.2.1), ((hw 12).trans E.2.2.2.1), ((hw 14).trans E.2.2.2.2.1), ((hw 15).trans E.2.2.2.2.2.1), ((hw 16).trans E.2.2.2.2.2.2.1)⟩ (hw 32) (hw 33) hr3) rfl rfl ?_
  refine k_aload_n dX3_layEnd_77 0 rfl rfl ?_
  refine k_get 32 2 rfl rfl qX3_layEnd_wX3 (by decide) qX3_layEnd_f41 rfl dX3_layEnd_78 ?_
  refine k_getN 22 13 E.2.2.2.2.2.2.2 rfl qX3_layEnd_wX4 (by decide) (host := "KindParser") (by decide +kernel) rfl dX3_layEnd_81 ?_
  refine k_if_le 97 dX3_layEnd_84 (by decide) h (fun h => ?_) (fun h => ?_)
  · skip
    refine k_sub [0] rfl ?_
    exact wjn_X3_layEnd_97 (cI := cI) (cB := cB) (cJ := cJ) (cZ := cZ) (ad := ad) E  _ _ _ h
  · skip
    refine k_iload_n dX3_layEnd_87 1 rfl rfl ?_
    refine k_if_eq 97 dX3_layEnd_88 (by decide) h (fun h => ?_) (fun h => ?_)
    · skip
      refine k_sub [0] rfl ?_
      exact wjn_X3_layEnd_97 (cI := cI) (cB := cB) (cJ := cJ) (cZ := cZ) (ad := ad) E  _ _ _ h
    · skip
      refine k_aload_n dX3_layEnd_91 0 rfl rfl ?_
      refine k_bipush (v := 32) dX3_layEnd_92 (by decide) ?_
      obtain ⟨r5, hr5, h⟩ := Option.bind_eq_some_iff.mp h
      refine k_callvV (As := [.int 32]) (st := []) (Lc := [(32, (ad 32, .inr (3, [.ref (ad 1), .ref (ad 9), .ref (ad 22), .ref (ad 33), .ref (ad 34), .ref (ad 35), .ref (ad 36), .int r5.1, .int r5.2.1]))), (33, (ad 33, .inl (cB, 1300, .inl r5.2.2)))]) (L' := [(32, (ad 32, .inr (3, [.ref (ad 1), .ref (ad 9), .ref (ad 22), .ref (ad 33), .ref (ad 34), .ref (ad 35), .ref (ad 36), .int r5.1, .int r5.2.1]))), (33, (ad 33, .inl (cB, 1300, .inl r5.2.2)))]) gX3_layEnd_X3_put rfl rfl rfl hyVX3_put ⟨Nat.le_of_ble_eq_true rfl, Nat.le_of_ble_eq_true rfl⟩ rfl rfl (Nat.le_of_ble_eq_true rfl) 32 rfl rfl dX3_layEnd_94 (fun w z hw => c_X3_put (cI := cI) (cB := cB) (cJ := cJ) (cZ := cZ) (ad := ad) w z trivial (hw 32) (hw 33) hr5) rfl rfl ?_
      refine k_sub [0] rfl ?_
      exact wjn_X3_layEnd_97 (cI := cI) (cB := cB) (cJ := cJ) (cZ := cZ) (ad := ad) E  _ _ _ h
set_option maxHeartbeats 4000000 in
set_option maxRecDepth 100000 in
theorem wjn_X3_layEnd_38 {l : Launch} {D : va_G} {cI cB cJ cZ : ClassId} {ad : Nat → Nat} {ws : va_W} {z : Nat} {c_length : Int32} {c_size : Int32} {c_comments : Int32} {c_text : Nat → Int32} {c_starts : Nat → Int32} {c_lengths : Nat → Int32} {c_firstComments : Nat → Int32} {c_commentStarts : Nat → Int32} {c_commentEnds : Nat → Int32} {t_waiting : Int32} {t_size : Int32} {t_skipped : Int32} (E : ws[9]? = some (ad 9, .inr (1, [.ref (ad 10), .int c_length, .ref (ad 11), .ref (ad 12), .ref (ad 13), .ref (ad 14), .ref (ad 15), .ref (ad 16), .int c_size, .int c_comments])) ∧ ws[10]? = some (ad 10, .inl (cB, 80, .inl c_text)) ∧ ws[11]? = some (ad 11, .inl (cI, 16, .inl c_starts)) ∧ ws[12]? = some (ad 12, .inl (cI, 16, .inl c_lengths)) ∧ ws[14]? = some (ad 14, .inl (cI, 18, .inl c_firstComments)) ∧ ws[15]? = some (ad 15, .inl (cI, 40, .inl c_commentStarts)) ∧ ws[16]? = some (ad 16, .inl (cI, 40, .inl c_commentEnds)) ∧ ws[22]? = some (ad 22, .inr (4, [.ref (ad 1), .ref (ad 17), .ref (ad 23), .ref (ad 24), .ref (ad 25), .ref (ad 26), .ref (ad 27), .ref (ad 28), .ref (ad 29), .ref (ad 30), .ref (ad 31), .int t_waiting, .int t_size, .int t_skipped]))) {o : (Int32) × (Int32) × (Nat → Int32)}   : ∀ (x1 : Int32) (p_size : Int32) (p_column : Int32) (p_sheet : Nat → Int32), jn_X3_layEnd_38 c_size c_text c_starts c_lengths c_firstComments c_commentStarts c_commentEnds t_skipped x1 p_size p_column p_sheet = some o → KW l xX3_layEnd D (kT cI cB cJ cZ) ws z (kQv D (kT cI cB cJ cZ) [(32, (ad 32, .inr (3, [.ref (ad 1), .ref (ad 9), .ref (ad 22), .ref (ad 33), .ref (ad 34), .ref (ad 35), .ref (ad 36), .int o.1, .int o.2.1]))), (33, (ad 33, .inl (cB, 1300, .inl o.2.2)))] ws z) 38 [(0, .ref (ad 32)), (1, .int x1)] [] [(32, (ad 32, .inr (3, [.ref (ad 1), .ref (ad 9), .ref (ad 22), .ref (ad 33), .ref (ad 34), .ref (ad 35), .ref (ad 36), .int p_size, .int p_column]))), (33, (ad 33, .inl (cB, 1300, .inl p_sheet)))] := by
  intro x1 p_size p_column p_sheet h
  unfold jn_X3_layEnd_38 at h
  refine k_aload_n dX3_layEnd_38 0 rfl rfl ?_
  refine k_get 32 7 rfl rfl qX3_layEnd_wX3 (by decide) qX3_layEnd_f26 rfl dX3_layEnd_39 ?_
  refine k_if_le 51 dX3_layEnd_42 (by decide) h (fun h => ?_) (fun h => ?_)
  · skip
    refine k_sub [0, 1] rfl ?_
    exact wjn_X3_layEnd_51 (cI := cI) (cB := cB) (cJ := cJ) (cZ := cZ) (ad := ad) E  _ _ _ _ h
  · skip
    refine k_aload_n dX3_layEnd_45 0 rfl rfl ?_
    refine k_bipush (v := 10) dX3_layEnd_46 (by decide) ?_
    obtain ⟨r6, hr6, h⟩ := Option.bind_eq_some_iff.mp h
    refine k_callvV (As := [.int 10]) (st := []) (Lc := [(32, (ad 32, .inr (3, [.ref (ad 1), .ref (ad 9), .ref (ad 22), .ref (ad 33), .ref (ad 34), .ref (ad 35), .ref (ad 36), .int r6.1, .int r6.2.1]))), (33, (ad 33, .inl (cB, 1300, .inl r6.2.2)))]) (L' := [(32, (ad 32, .inr (3, [.ref (ad 1), .ref (ad 9), .ref (ad 22), .ref (ad 33), .ref (ad 34), .ref (ad 35), .ref (ad 36), .int r6.1, .int r6.2.1]))), (33, (ad 33, .inl (cB, 1300, .inl r6.2.2)))]) gX3_layEnd_X3_put rfl rfl rfl hyVX3_put ⟨Nat.le_of_ble_eq_true rfl, Nat.le_of_ble_eq_true rfl⟩ rfl rfl (Nat.le_of_ble_eq_true rfl) 32 rfl rfl dX3_layEnd_48 (fun w z hw => c_X3_put (cI := cI) (cB := cB) (cJ := cJ) (cZ := cZ) (ad := ad) w z trivial (hw 32) (hw 33) hr6) rfl rfl ?_
    refine k_sub [0, 1] rfl ?_
    exact wjn_X3_layEnd_51 (cI := cI) (cB := cB) (cJ := cJ) (cZ := cZ) (ad := ad) E  _ _ _ _ h
set_option maxHeartbeats 4000000 in
set_option maxRecDepth 100000 in
theorem wjn_X3_layEnd_22 {l : Launch} {D : va_G} {cI cB cJ cZ : ClassId} {ad : Nat → Nat} {ws : va_W} {z : Nat} {c_length : Int32} {c_size : Int32} {c_comments : Int32} {c_text : Nat → Int32} {c_starts : Nat → Int32} {c_lengths : Nat → Int32} {c_firstComments : Nat → Int32} {c_commentStarts : Nat → Int32} {c_commentEnds : Nat → Int32} {t_waiting : Int32} {t_size : Int32} {t_skipped : Int32} (E : ws[9]? = some (ad 9, .inr (1, [.ref (ad 10), .int c_length, .ref (ad 11), .ref (ad 12), .ref (ad 13), .ref (ad 14), .ref (ad 15), .ref (ad 16), .int c_size, .int c_comments])) ∧ ws[10]? = some (ad 10, .inl (cB, 80, .inl c_text)) ∧ ws[11]? = some (ad 11, .inl (cI, 16, .inl c_starts)) ∧ ws[12]? = some (ad 12, .inl (cI, 16, .inl c_lengths)) ∧ ws[14]? = some (ad 14, .inl (cI, 18, .inl c_firstComments)) ∧ ws[15]? = some (ad 15, .inl (cI, 40, .inl c_commentStarts)) ∧ ws[16]? = some (ad 16, .inl (cI, 40, .inl c_commentEnds)) ∧ ws[22]? = some (ad 22, .inr (4, [.ref (ad 1), .ref (ad 17), .ref (ad 23), .ref (ad 24), .ref (ad 25), .ref (ad 26), .ref (ad 27), .ref (ad 28), .ref (ad 29), .ref (ad 30), .ref (ad 31), .int t_waiting, .int t_size, .int t_skipped]))) {o : (Int32) × (Int32) × (Nat → Int32)}   : ∀ (s0 : Int32) (p_size : Int32) (p_column : Int32) (p_sheet : Nat → Int32), jn_X3_layEnd_22 c_size c_text c_starts c_lengths c_firstComments c_commentStarts c_commentEnds t_skipped s0 p_size p_column p_sheet = some o → KW l xX3_layEnd D (kT cI cB cJ cZ) ws z (kQv D (kT cI cB cJ cZ) [(32, (ad 32, .inr (3, [.ref (ad 1), .ref (ad 9), .ref (ad 22), .ref (ad 33), .ref (ad 34), .ref (ad 35), .ref (ad 36), .int o.1, .int o.2.1]))), (33, (ad 33, .inl (cB, 1300, .inl o.2.2)))] ws z) 22 [(0, .ref (ad 32))] [.int s0] [(32, (ad 32, .inr (3, [.ref (ad 1), .ref (ad 9), .ref (ad 22), .ref (ad 33), .ref (ad 34), .ref (ad 35), .ref (ad 36), .int p_size, .int p_column]))), (33, (ad 33, .inl (cB, 1300, .inl p_sheet)))] := by
  intro s0 p_size p_column p_sheet h
  unfold jn_X3_layEnd_22 at h
  refine k_istore_n (i := 1) (lv' := fun x => [(1, .int x), (0, .ref (ad 32))]) dX3_layEnd_22 rfl (Nat.le_of_ble_eq_true rfl) (fun _ => rfl) h (fun x1_2 h => ?_)
  refine k_aload_n dX3_layEnd_23 1 rfl rfl ?_
  refine k_get 32 2 rfl rfl qX3_layEnd_wX3 (by decide) qX3_layEnd_f41 rfl dX3_layEnd_24 ?_
  refine k_getN 22 13 E.2.2.2.2.2.2.2 rfl qX3_layEnd_wX4 (by decide) (host := "KindParser") (by decide +kernel) rfl dX3_layEnd_27 ?_
  refine k_if_ne 38 dX3_layEnd_30 (by decide) h (fun h => ?_) (fun h => ?_)
  · skip
    refine k_iload_n dX3_layEnd_33 0 rfl rfl ?_
    refine k_if_ne 38 dX3_layEnd_34 (by decide) h (fun h => ?_) (fun h => ?_)
    · skip
      obtain rfl := Option.some.inj h
      exact k_vret rfl dX3_layEnd_37
    · skip
      refine k_sub [1, 0] rfl ?_
      exact wjn_X3_layEnd_38 (cI := cI) (cB := cB) (cJ := cJ) (cZ := cZ) (ad := ad) E  _ _ _ _ h
  · skip
    refine k_sub [1, 0] rfl ?_
    exact wjn_X3_layEnd_38 (cI := cI) (cB := cB) (cJ := cJ) (cZ := cZ) (ad := ad) E  _ _ _ _ h
set_option maxHeartbeats 4000000 in
set_option maxRecDepth 100000 in
/-- KindParser$Page.layEnd -/
theorem c_X3_layEnd {l : Launch} {D : va_G} {cI cB cJ cZ : ClassId} {ad : Nat → Nat} (ws : va_W) (z : Nat) {c_length : Int32} {c_size : Int32} {c_comments : Int32} {c_text : Nat → Int32} {c_starts : Nat → Int32} {c_lengths : Nat → Int32} {c_firstComments : Nat → Int32} {c_commentStarts : Nat → Int32} {c_commentEnds : Nat → Int32} {t_waiting : Int32} {t_size : Int32} {t_skipped : Int32} {p_size : Int32} {p_column : Int32} {p_sheet : Nat → Int32} (E : ws[9]? = some (ad 9, .inr (1, [.ref (ad 10), .int c_length, .ref (ad 11), .ref (ad 12), .ref (ad 13), .ref (ad 14), .ref (ad 15), .ref (ad 16), .int c_size, .int c_comments])) ∧ ws[10]? = some (ad 10, .inl (cB, 80, .inl c_text)) ∧ ws[11]? = some (ad 11, .inl (cI, 16, .inl c_starts)) ∧ ws[12]? = some (ad 12, .inl (cI, 16, .inl c_lengths)) ∧ ws[14]? = some (ad 14, .inl (cI, 18, .inl c_firstComments)) ∧ ws[15]? = some (ad 15, .inl (cI, 40, .inl c_commentStarts)) ∧ ws[16]? = some (ad 16, .inl (cI, 40, .inl c_commentEnds)) ∧ ws[22]? = some (ad 22, .inr (4, [.ref (ad 1), .ref (ad 17), .ref (ad 23), .ref (ad 24), .ref (ad 25), .ref (ad 26), .ref (ad 27), .ref (ad 28), .ref (ad 29), .ref (ad 30), .ref (ad 31), .int t_waiting, .int t_size, .int t_skipped]))) (e32 : ws[32]? = some (ad 32, .inr (3, [.ref (ad 1), .ref (ad 9), .ref (ad 22), .ref (ad 33), .ref (ad 34), .ref (ad 35), .ref (ad 36), .int p_size, .int p_column]))) (e33 : ws[33]? = some (ad 33, .inl (cB, 1300, .inl p_sheet)))  {o : (Int32) × (Int32) × (Nat → Int32)} (h : f_X3_layEnd c_size c_text c_starts c_lengths c_firstComments c_commentStarts c_commentEnds t_skipped p_size p_column p_sheet = some o) : Met l yX3_layEnd wsX3_layEnd rmX3_layEnd (kPc D (kT cI cB cJ cZ) [.ref (ad 32)] ws z) (kQv D (kT cI cB cJ cZ) [(32, (ad 32, .inr (3, [.ref (ad 1), .ref (ad 9), .ref (ad 22), .ref (ad 33), .ref (ad 34), .ref (ad 35), .ref (ad 36), .int o.1, .int o.2.1]))), (33, (ad 33, .inl (cB, 1300, .inl o.2.2)))] ws z) 0 0 (va_A ws z) := by
  refine KW.met (rm := rmX3_layEnd) (lv := [(0, .ref (ad 32))]) (L := [(32, (ad 32, .inr (3, [.ref (ad 1), .ref (ad 9), .ref (ad 22), .ref (ad 33), .ref (ad 34), .ref (ad 35), .ref (ad 36), .int p_size, .int p_column]))), (33, (ad 33, .inl (cB, 1300, .inl p_sheet)))]) rfl (by decide) (Nat.le_of_ble_eq_true rfl) rfl (by intro q hq; simp only [List.mem_cons, List.not_mem_nil, or_false] at hq; rcases hq with rfl | rfl <;> assumption) ?_
  unfold f_X3_layEnd at h
  show KW l xX3_layEnd D (kT cI cB cJ cZ) ws z (kQv D (kT cI cB cJ cZ) [(32, (ad 32, .inr (3, [.ref (ad 1), .ref (ad 9), .ref (ad 22), .ref (ad 33), .ref (ad 34), .ref (ad 35), .ref (ad 36), .int o.1, .int o.2.1]))), (33, (ad 33, .inl (cB, 1300, .inl o.2.2)))] ws z) 0 [(0, .ref (ad 32))] [] [(32, (ad 32, .inr (3, [.ref (ad 1), .ref (ad 9), .ref (ad 22), .ref (ad 33), .ref (ad 34), .ref (ad 35), .ref (ad 36), .int p_size, .int p_column]))), (33, (ad 33, .inl (cB, 1300, .inl p_sheet)))]
  refine k_aload_n dX3_layEnd_0 0 rfl rfl ?_
  refine k_get 32 1 rfl rfl qX3_layEnd_wX3 (by decide) qX3_layEnd_f37 rfl dX3_layEnd_1 ?_
  refine k_aload_n dX3_layEnd_4 0 rfl rfl ?_
  refine k_get 32 1 rfl rfl qX3_layEnd_wX3 (by decide) qX3_layEnd_f37 rfl dX3_layEnd_5 ?_
  refine k_getN 9 8 E.1 rfl qX3_layEnd_wX1 (by decide) (host := "KindParser") (by decide +kernel) rfl dX3_layEnd_8 ?_
  obtain ⟨r1, hr1, h⟩ := Option.bind_eq_some_iff.mp h
  refine k_calliV (As := [.int c_size]) (st := []) (Lc := []) (L' := [(32, (ad 32, .inr (3, [.ref (ad 1), .ref (ad 9), .ref (ad 22), .ref (ad 33), .ref (ad 34), .ref (ad 35), .ref (ad 36), .int p_size, .int p_column]))), (33, (ad 33, .inl (cB, 1300, .inl p_sheet)))]) (r := r1) gX3_layEnd_X1_commentsOf rfl rfl rfl hyVX1_commentsOf ⟨Nat.le_of_ble_eq_true rfl, Nat.le_of_ble_eq_true rfl⟩ rfl rfl (Nat.le_of_ble_eq_true rfl) 9 E.1 rfl dX3_layEnd_11 (fun w z hw => c_X1_commentsOf (cI := cI) (cB := cB) (cJ := cJ) (cZ := cZ) (ad := ad) w z ⟨((hw 9).trans E.1), ((hw 14).trans E.2.2.2.2.1)⟩  hr1) rfl rfl ?_
  refine k_if_le 21 dX3_layEnd_14 (by decide) h (fun h => ?_) (fun h => ?_)
  · skip
    refine k_iconst (v := 0) dX3_layEnd_21 (by decide) ?_
    refine k_sub [0] rfl ?_
    exact wjn_X3_layEnd_22 (cI := cI) (cB := cB) (cJ := cJ) (cZ := cZ) (ad := ad) E  _ _ _ _ h
  · skip
    refine k_iconst (v := 1) dX3_layEnd_17 (by decide) ?_
    refine k_goto 22 dX3_layEnd_18 (by decide) ?_
    refine k_sub [0] rfl ?_
    exact wjn_X3_layEnd_22 (cI := cI) (cB := cB) (cJ := cJ) (cZ := cZ) (ad := ad) E  _ _ _ _ h
abbrev rmX3_layOut : Room := { frames := 5, cells := 0, slots := 0, locals := 114 }
abbrev xX3_layOut : KX := (rmX3_layOut, cX3_layOut, 3, none, RX3, wsX3_layOut)
theorem hySX3_layOut : yX3_layOut.cls ≠ "java/lang/invoke/MethodHandle" ∧ yX3_layOut.cls ≠ "java/lang/invoke/VarHandle" ∧ (parseMethodDescriptor yX3_layOut.desc).map (fun d => d.parameters.length) = some 1 := by decide +kernel
theorem hyVX3_layOut : yX3_layOut.cls = RX3 ∧ yX3_layOut.cls ≠ "java/lang/invoke/MethodHandle" ∧ yX3_layOut.cls ≠ "java/lang/invoke/VarHandle" ∧ (parseMethodDescriptor yX3_layOut.desc).map (fun d => d.parameters.length) = some 1 := ⟨rfl, hySX3_layOut⟩
theorem qX3_layOut_wX3 : ∀ w ∈ u_ws RX3 TX3 9, w ∈ wsX3_layOut := by decide +kernel
theorem qX3_layOut_f26 : Cond.fieldLink RX3 26 "KindParser$Page" "size" "I" ∈ wsX3_layOut := by decide +kernel
theorem qX3_layOut_f30 : Cond.fieldLink RX3 30 "KindParser$Page" "column" "I" ∈ wsX3_layOut := by decide +kernel
theorem qX3_layOut_f41 : Cond.fieldLink RX3 41 "KindParser$Page" "tree" "LKindParser$Tree;" ∈ wsX3_layOut := by decide +kernel
theorem qX3_layOut_wX4 : ∀ w ∈ u_ws RX4 TX4 14, w ∈ wsX3_layOut := by decide +kernel
set_option maxHeartbeats 4000000 in
set_option maxRecDepth 100000 in
theorem wjn_X3_layOut_45 {l : Launch} {D : va_G} {cI cB cJ cZ : ClassId} {ad : Nat → Nat} {ws : va_W} {z : Nat} {g_size : Int32} {g_ins : Nat → Int32} {c_length : Int32} {c_size : Int32} {c_comments : Int32} {c_text : Nat → Int32} {c_starts : Nat → Int32} {c_lengths : Nat → Int32} {c_firstComments : Nat → Int32} {c_commentStarts : Nat → Int32} {c_commentEnds : Nat → Int32} {t_waiting : Int32} {t_size : Int32} {t_skipped : Int32} {t_cells : Nat → Int32} {t_hints : Nat → Int32} (E : ws[1]? = some (ad 1, .inr (2, [.ref (ad 2), .ref (ad 3), .ref (ad 4), .ref (ad 5), .ref (ad 6), .ref (ad 7), .int g_size])) ∧ ws[6]? = some (ad 6, .inl (cZ, 20, .inl g_ins)) ∧ ws[9]? = some (ad 9, .inr (1, [.ref (ad 10), .int c_length, .ref (ad 11), .ref (ad 12), .ref (ad 13), .ref (ad 14), .ref (ad 15), .ref (ad 16), .int c_size, .int c_comments])) ∧ ws[10]? = some (ad 10, .inl (cB, 80, .inl c_text)) ∧ ws[11]? = some (ad 11, .inl (cI, 16, .inl c_starts)) ∧ ws[12]? = some (ad 12, .inl (cI, 16, .inl c_lengths)) ∧ ws[14]? = some (ad 14, .inl (cI, 18, .inl c_firstComments)) ∧ ws[15]? = some (ad 15, .inl (cI, 40, .inl c_commentStarts)) ∧ ws[16]? = some (ad 16, .inl (cI, 40, .inl c_commentEnds)) ∧ ws[22]? = some (ad 22, .inr (4, [.ref (ad 1), .ref (ad 17), .ref (ad 23), .ref (ad 24), .ref (ad 25), .ref (ad 26), .ref (ad 27), .ref (ad 28), .ref (ad 29), .ref (ad 30), .ref (ad 31), .int t_waiting, .int t_size, .int t_skipped])) ∧ ws[23]? = some (ad 23, .inl (cI, 1050, .inl t_cells)) ∧ ws[24]? = some (ad 24, .inl (cI, 150, .inl t_hints))) {o : (Int32) × (Int32) × (Nat → Int32) × (Nat → Int32) × (Nat → Int32) × (Nat → Int32)} {k16 : (Int32) → (Int32) → (Int32) → (Int32) → (Nat → Int32) → (Nat → Int32) → (Nat → Int32) → (Nat → Int32) → Option ((Int32) × (Int32) × (Nat → Int32) × (Nat → Int32) × (Nat → Int32) × (Nat → Int32))} (hk16 : ∀ (x1 : Int32) (x2 : Int32) (p_size : Int32) (p_column : Int32) (p_sheet : Nat → Int32) (p_flats : Nat → Int32) (p_broken : Nat → Int32) (p_indents : Nat → Int32), k16 x1 x2 p_size p_column p_sheet p_flats p_broken p_indents = some o → KW l xX3_layOut D (kT cI cB cJ cZ) ws z (kQv D (kT cI cB cJ cZ) [(32, (ad 32, .inr (3, [.ref (ad 1), .ref (ad 9), .ref (ad 22), .ref (ad 33), .ref (ad 34), .ref (ad 35), .ref (ad 36), .int o.1, .int o.2.1]))), (33, (ad 33, .inl (cB, 1300, .inl o.2.2.1))), (34, (ad 34, .inl (cI, 150, .inl o.2.2.2.1))), (35, (ad 35, .inl (cZ, 150, .inl o.2.2.2.2.1))), (36, (ad 36, .inl (cI, 150, .inl o.2.2.2.2.2)))] ws z) 16 [(0, .ref (ad 32)), (1, .int x1), (2, .int x2)] [] [(32, (ad 32, .inr (3, [.ref (ad 1), .ref (ad 9), .ref (ad 22), .ref (ad 33), .ref (ad 34), .ref (ad 35), .ref (ad 36), .int p_size, .int p_column]))), (33, (ad 33, .inl (cB, 1300, .inl p_sheet))), (34, (ad 34, .inl (cI, 150, .inl p_flats))), (35, (ad 35, .inl (cZ, 150, .inl p_broken))), (36, (ad 36, .inl (cI, 150, .inl p_indents)))]) : ∀ (x1 : Int32) (x2 : Int32) (p_size : Int32) (p_column : Int32) (p_sheet : Nat → Int32) (p_flats : Nat → Int32) (p_broken : Nat → Int32) (p_indents : Nat → Int32), jn_X3_layOut_45 g_ins c_size c_text c_starts c_lengths c_firstComments c_commentStarts c_commentEnds t_size t_skipped t_cells t_hints k16 x1 x2 p_size p_column p_sheet p_flats p_broken p_indents = some o → KW l xX3_layOut D (kT cI cB cJ cZ) ws z (kQv D (kT cI cB cJ cZ) [(32, (ad 32, .inr (3, [.ref (ad 1), .ref (ad 9), .ref (ad 22), .ref (ad 33), .ref (ad 34), .ref (ad 35), .ref (ad 36), .int o.1, .int o.2.1]))), (33, (ad 33, .inl (cB, 1300, .inl o.2.2.1))), (34, (ad 34, .inl (cI, 150, .inl o.2.2.2.1))), (35, (ad 35, .inl (cZ, 150, .inl o.2.2.2.2.1))), (36, (ad 36, .inl (cI, 150, .inl o.2.2.2.2.2)))] ws z) 45 [(0, .ref (ad 32)), (1, .int x1), (2, .int x2)] [] [(32, (ad 32, .inr (3, [.ref (ad 1), .ref (ad 9), .ref (ad 22), .ref (ad 33), .ref (ad 34), .ref (ad 35), .ref (ad 36), .int p_size, .int p_column]))), (33, (ad 33, .inl (cB, 1300, .inl p_sheet))), (34, (ad 34, .inl (cI, 150, .inl p_flats))), (35, (ad 35, .inl (cZ, 150, .inl p_broken))), (36, (ad 36, .inl (cI, 150, .inl p_indents)))] := by
  intro x1 x2 p_size p_column p_sheet p_flats p_broken p_indents h
  unfold jn_X3_layOut_45 at h
  refine k_iinc (i := 2) (lv' := fun x => [(2, .int x), (0, .ref (ad 32)), (1, .int x1)]) dX3_layOut_45 2 rfl (Nat.le_of_ble_eq_true rfl) (fun _ => rfl) h (fun x2_4 h => ?_)
  refine k_goto 16 dX3_layOut_48 (by decide) ?_
  refine k_sub [1, 2, 0] rfl ?_
  exact hk16 _ _ _ _ _ _ _ _ h
set_option maxHeartbeats 4000000 in
set_option maxRecDepth 100000 in
theorem wlp_X3_layOut_16 {l : Launch} {D : va_G} {cI cB cJ cZ : ClassId} {ad : Nat → Nat} {ws : va_W} {z : Nat} {g_size : Int32} {g_ins : Nat → Int32} {c_length : Int32} {c_size : Int32} {c_comments : Int32} {c_text : Nat → Int32} {c_starts : Nat → Int32} {c_lengths : Nat → Int32} {c_firstComments : Nat → Int32} {c_commentStarts : Nat → Int32} {c_commentEnds : Nat → Int32} {t_waiting : Int32} {t_size : Int32} {t_skipped : Int32} {t_cells : Nat → Int32} {t_hints : Nat → Int32} (E : ws[1]? = some (ad 1, .inr (2, [.ref (ad 2), .ref (ad 3), .ref (ad 4), .ref (ad 5), .ref (ad 6), .ref (ad 7), .int g_size])) ∧ ws[6]? = some (ad 6, .inl (cZ, 20, .inl g_ins)) ∧ ws[9]? = some (ad 9, .inr (1, [.ref (ad 10), .int c_length, .ref (ad 11), .ref (ad 12), .ref (ad 13), .ref (ad 14), .ref (ad 15), .ref (ad 16), .int c_size, .int c_comments])) ∧ ws[10]? = some (ad 10, .inl (cB, 80, .inl c_text)) ∧ ws[11]? = some (ad 11, .inl (cI, 16, .inl c_starts)) ∧ ws[12]? = some (ad 12, .inl (cI, 16, .inl c_lengths)) ∧ ws[14]? = some (ad 14, .inl (cI, 18, .inl c_firstComments)) ∧ ws[15]? = some (ad 15, .inl (cI, 40, .inl c_commentStarts)) ∧ ws[16]? = some (ad 16, .inl (cI, 40, .inl c_commentEnds)) ∧ ws[22]? = some (ad 22, .inr (4, [.ref (ad 1), .ref (ad 17), .ref (ad 23), .ref (ad 24), .ref (ad 25), .ref (ad 26), .ref (ad 27), .ref (ad 28), .ref (ad 29), .ref (ad 30), .ref (ad 31), .int t_waiting, .int t_size, .int t_skipped])) ∧ ws[23]? = some (ad 23, .inl (cI, 1050, .inl t_cells)) ∧ ws[24]? = some (ad 24, .inl (cI, 150, .inl t_hints))) {o : (Int32) × (Int32) × (Nat → Int32) × (Nat → Int32) × (Nat → Int32) × (Nat → Int32)} {k51 : (Int32) → (Int32) → (Nat → Int32) → (Nat → Int32) → (Nat → Int32) → (Nat → Int32) → Option ((Int32) × (Int32) × (Nat → Int32) × (Nat → Int32) × (Nat → Int32) × (Nat → Int32))} (hk51 : ∀ (p_size : Int32) (p_column : Int32) (p_sheet : Nat → Int32) (p_flats : Nat → Int32) (p_broken : Nat → Int32) (p_indents : Nat → Int32), k51 p_size p_column p_sheet p_flats p_broken p_indents = some o → KW l xX3_layOut D (kT cI cB cJ cZ) ws z (kQv D (kT cI cB cJ cZ) [(32, (ad 32, .inr (3, [.ref (ad 1), .ref (ad 9), .ref (ad 22), .ref (ad 33), .ref (ad 34), .ref (ad 35), .ref (ad 36), .int o.1, .int o.2.1]))), (33, (ad 33, .inl (cB, 1300, .inl o.2.2.1))), (34, (ad 34, .inl (cI, 150, .inl o.2.2.2.1))), (35, (ad 35, .inl (cZ, 150, .inl o.2.2.2.2.1))), (36, (ad 36, .inl (cI, 150, .inl o.2.2.2.2.2)))] ws z) 51 [(0, .ref (ad 32))] [] [(32, (ad 32, .inr (3, [.ref (ad 1), .ref (ad 9), .ref (ad 22), .ref (ad 33), .ref (ad 34), .ref (ad 35), .ref (ad 36), .int p_size, .int p_column]))), (33, (ad 33, .inl (cB, 1300, .inl p_sheet))), (34, (ad 34, .inl (cI, 150, .inl p_flats))), (35, (ad 35, .inl (cZ, 150, .inl p_broken))), (36, (ad 36, .inl (cI, 150, .inl p_indents)))]) : ∀ (n : Nat) (x1 : Int32) (x2 : Int32) (p_size : Int32) (p_column : Int32) (p_sheet : Nat → Int32) (p_flats : Nat → Int32) (p_broken : Nat → Int32) (p_indents : Nat → Int32), lp_X3_layOut_16 g_ins c_size c_text c_starts c_lengths c_firstComments c_commentStarts c_commentEnds t_size t_skipped t_cells t_hints k51 n x1 x2 p_size p_column p_sheet p_flats p_broken p_indents = some o → KW l xX3_layOut D (kT cI cB cJ cZ) ws z (kQv D (kT cI cB cJ cZ) [(32, (ad 32, .inr (3, [.ref (ad 1), .ref (ad 9), .ref (ad 22), .ref (ad 33), .ref (ad 34), .ref (ad 35), .ref (ad 36), .int o.1, .int o.2.1]))), (33, (ad 33, .inl (cB, 1300, .inl o.2.2.1))), (34, (ad 34, .inl (cI, 150, .inl o.2.2.2.1))), (35, (ad 35, .inl (cZ, 150, .inl o.2.2.2.2.1))), (36, (ad 36, .inl (cI, 150, .inl o.2.2.2.2.2)))] ws z) 16 [(0, .ref (ad 32)), (1, .int x1), (2, .int x2)] [] [(32, (ad 32, .inr (3, [.ref (ad 1), .ref (ad 9), .ref (ad 22), .ref (ad 33), .ref (ad 34), .ref (ad 35), .ref (ad 36), .int p_size, .int p_column]))), (33, (ad 33, .inl (cB, 1300, .inl p_sheet))), (34, (ad 34, .inl (cI, 150, .inl p_flats))), (35, (ad 35, .inl (cZ, 150, .inl p_broken))), (36, (ad 36, .inl (cI, 150, .inl p_indents)))] := by
  intro n
  induction n with
  | zero => intro x1 x2 p_size p_column p_sheet p_flats p_broken p_indents h; exact absurd h (by simp [lp_X3_layOut_16])
  | succ n hk16 =>
    intro x1 x2 p_size p_column p_sheet p_flats p_broken p_indents h
    unfold lp_X3_layOut_16 at h
    refine k_iload_n dX3_layOut_16 2 rfl rfl ?_
    refine k_aload_n dX3_layOut_17 0 rfl rfl ?_
    refine k_get 32 2 rfl rfl qX3_layOut_wX3 (by decide) qX3_layOut_f41 rfl dX3_layOut_18 ?_
    refine k_getN 22 12 E.2.2.2.2.2.2.2.2.2.1 rfl qX3_layOut_wX4 (by decide) (host := "KindParser") (by decide +kernel) rfl dX3_layOut_21 ?_
    refine k_icmp_ge 51 dX3_layOut_24 (by decide) h (fun h => ?_) (fun h => ?_)
    · skip
      refine k_sub [0] rfl ?_
      exact hk51 _ _ _ _ _ _ h
    · skip
      refine k_aload_n dX3_layOut_27 0 rfl rfl ?_
      refine k_get 32 2 rfl rfl qX3_layOut_wX3 (by decide) qX3_layOut_f41 rfl dX3_layOut_28 ?_
      refine k_iload_n dX3_layOut_31 2 rfl rfl ?_
      refine k_iconst (v := 4) dX3_layOut_32 (by decide) ?_
      obtain ⟨r3, hr3, h⟩ := Option.bind_eq_some_iff.mp h
      refine k_calliV (As := [.int x2, .int 4]) (st := []) (Lc := []) (L' := [(32, (ad 32, .inr (3, [.ref (ad 1), .ref (ad 9), .ref (ad 22), .ref (ad 33), .ref (ad 34), .ref (ad 35), .ref (ad 36), .int p_size, .int p_column]))), (33, (ad 33, .inl (cB, 1300, .inl p_sheet))), (34, (ad 34, .inl (cI, 150, .inl p_flats))), (35, (ad 35, .inl (cZ, 150, .inl p_broken))), (36, (ad 36, .inl (cI, 150, .inl p_indents)))]) (r := r3) gX3_layOut_X4_cell rfl rfl rfl hyVX4_cell ⟨Nat.le_of_ble_eq_true rfl, Nat.le_of_ble_eq_true rfl⟩ rfl rfl (Nat.le_of_ble_eq_true rfl) 22 E.2.2.2.2.2.2.2.2.2.1 rfl dX3_layOut_33 (fun w z hw => c_X4_cell (cI := cI) (cB := cB) (cJ := cJ) (cZ := cZ) (ad := ad) w z ⟨((hw 22).trans E.2.2.2.2.2.2.2.2.2.1), ((hw 23).trans E.2.2.2.2.2.2.2.2.2.2.1)⟩  hr3) rfl rfl ?_
      refine k_if_le 45 dX3_layOut_36 (by decide) h (fun h => ?_) (fun h => ?_)
      · skip
        refine k_sub [0, 1, 2] rfl ?_
        exact wjn_X3_layOut_45 (cI := cI) (cB := cB) (cJ := cJ) (cZ := cZ) (ad := ad) E hk16 _ _ _ _ _ _ _ _ h
      · skip
        refine k_aload_n dX3_layOut_39 0 rfl rfl ?_
        refine k_iload_n dX3_layOut_40 2 rfl rfl ?_
        refine k_iload_n dX3_layOut_41 1 rfl rfl ?_
        obtain ⟨r5, hr5, h⟩ := Option.bind_eq_some_iff.mp h
        refine k_callvV (As := [.int x2, .int x1]) (st := []) (Lc := [(32, (ad 32, .inr (3, [.ref (ad 1), .ref (ad 9), .ref (ad 22), .ref (ad 33), .ref (ad 34), .ref (ad 35), .ref (ad 36), .int r5.1, .int r5.2.1]))), (33, (ad 33, .inl (cB, 1300, .inl r5.2.2.1))), (35, (ad 35, .inl (cZ, 150, .inl r5.2.2.2.1))), (36, (ad 36, .inl (cI, 150, .inl r5.2.2.2.2)))]) (L' := [(32, (ad 32, .inr (3, [.ref (ad 1), .ref (ad 9), .ref (ad 22), .ref (ad 33), .ref (ad 34), .ref (ad 35), .ref (ad 36), .int r5.1, .int r5.2.1]))), (33, (ad 33, .inl (cB, 1300, .inl r5.2.2.1))), (34, (ad 34, .inl (cI, 150, .inl p_flats))), (35, (ad 35, .inl (cZ, 150, .inl r5.2.2.2.1))), (36, (ad 36, .inl (cI, 150, .inl r5.2.2.2.2)))]) gX3_layOut_X3_layPart rfl rfl rfl hyVX3_layPart ⟨Nat.le_of_ble_eq_true rfl, Nat.le_of_ble_eq_true rfl⟩ rfl rfl (Nat.le_of_ble_eq_true rfl) 32 rfl rfl dX3_layOut_42 (fun w z hw => c_X3_layPart (cI := cI) (cB := cB) (cJ := cJ) (cZ := cZ) (ad := ad) w z ⟨((hw 1).trans E.1), ((hw 6).trans E.2.1), ((hw 9).trans E.2.2.1), ((hw 10).trans E.2.2.2.1), ((hw 11).trans E.2.2.2.2.1), ((hw 12).trans E.2.2.2.2.2.1), ((hw 14).trans E.2.2.2.2.2.2.1), ((hw 15).trans E.2.2.2.2.2.2.2.1), ((hw 16).trans E.2.2.2.2.2.2.2.2.1), ((hw 22).trans E.2.2.2.2.2.2.2.2.2.1), ((hw 23).trans E.2.2.2.2.2.2.2.2.2.2.1), ((hw 24).trans E.2.2.2.2.2.2.2.2.2.2.2), (hw 34)⟩ (hw 32) (hw 33) (hw 35) (hw 36) hr5) rfl rfl ?_
        refine k_sub [0, 1, 2] rfl ?_
        exact wjn_X3_layOut_45 (cI := cI) (cB := cB) (cJ := cJ) (cZ := cZ) (ad := ad) E hk16 _ _ _ _ _ _ _ _ h
set_option maxHeartbeats 4000000 in
set_option maxRecDepth 100000 in
/-- KindParser$Page.layOut -/
theorem c_X3_layOut {l : Launch} {D : va_G} {cI cB cJ cZ : ClassId} {ad : Nat → Nat} (ws : va_W) (z : Nat) {g_size : Int32} {g_ins : Nat → Int32} {c_length : Int32} {c_size : Int32} {c_comments : Int32} {c_text : Nat → Int32} {c_starts : Nat → Int32} {c_lengths : Nat → Int32} {c_firstComments : Nat → Int32} {c_commentStarts : Nat → Int32} {c_commentEnds : Nat → Int32} {t_waiting : Int32} {t_size : Int32} {t_skipped : Int32} {t_cells : Nat → Int32} {t_hints : Nat → Int32} {p_size : Int32} {p_column : Int32} {p_sheet : Nat → Int32} {p_flats : Nat → Int32} {p_broken : Nat → Int32} {p_indents : Nat → Int32} (E : ws[1]? = some (ad 1, .inr (2, [.ref (ad 2), .ref (ad 3), .ref (ad 4), .ref (ad 5), .ref (ad 6), .ref (ad 7), .int g_size])) ∧ ws[6]? = some (ad 6, .inl (cZ, 20, .inl g_ins)) ∧ ws[9]? = some (ad 9, .inr (1, [.ref (ad 10), .int c_length, .ref (ad 11), .ref (ad 12), .ref (ad 13), .ref (ad 14), .ref (ad 15), .ref (ad 16), .int c_size, .int c_comments])) ∧ ws[10]? = some (ad 10, .inl (cB, 80, .inl c_text)) ∧ ws[11]? = some (ad 11, .inl (cI, 16, .inl c_starts)) ∧ ws[12]? = some (ad 12, .inl (cI, 16, .inl c_lengths)) ∧ ws[14]? = some (ad 14, .inl (cI, 18, .inl c_firstComments)) ∧ ws[15]? = some (ad 15, .inl (cI, 40, .inl c_commentStarts)) ∧ ws[16]? = some (ad 16, .inl (cI, 40, .inl c_commentEnds)) ∧ ws[22]? = some (ad 22, .inr (4, [.ref (ad 1), .ref (ad 17), .ref (ad 23), .ref (ad 24), .ref (ad 25), .ref (ad 26), .ref (ad 27), .ref (ad 28), .ref (ad 29), .ref (ad 30), .ref (ad 31), .int t_waiting, .int t_size, .int t_skipped])) ∧ ws[23]? = some (ad 23, .inl (cI, 1050, .inl t_cells)) ∧ ws[24]? = some (ad 24, .inl (cI, 150, .inl t_hints))) (e32 : ws[32]? = some (ad 32, .inr (3, [.ref (ad 1), .ref (ad 9), .ref (ad 22), .ref (ad 33), .ref (ad 34), .ref (ad 35), .ref (ad 36), .int p_size, .int p_column]))) (e33 : ws[33]? = some (ad 33, .inl (cB, 1300, .inl p_sheet))) (e34 : ws[34]? = some (ad 34, .inl (cI, 150, .inl p_flats))) (e35 : ws[35]? = some (ad 35, .inl (cZ, 150, .inl p_broken))) (e36 : ws[36]? = some (ad 36, .inl (cI, 150, .inl p_indents))) {a1 : Int32} {o : (Int32) × (Int32) × (Nat → Int32) × (Nat → Int32) × (Nat → Int32) × (Nat → Int32)} (h : f_X3_layOut a1 g_ins c_size c_text c_starts c_lengths c_firstComments c_commentStarts c_commentEnds t_size t_skipped t_cells t_hints p_size p_column p_sheet p_flats p_broken p_indents = some o) : Met l yX3_layOut wsX3_layOut rmX3_layOut (kPc D (kT cI cB cJ cZ) [.ref (ad 32), .int a1] ws z) (kQv D (kT cI cB cJ cZ) [(32, (ad 32, .inr (3, [.ref (ad 1), .ref (ad 9), .ref (ad 22), .ref (ad 33), .ref (ad 34), .ref (ad 35), .ref (ad 36), .int o.1, .int o.2.1]))), (33, (ad 33, .inl (cB, 1300, .inl o.2.2.1))), (34, (ad 34, .inl (cI, 150, .inl o.2.2.2.1))), (35, (ad 35, .inl (cZ, 150, .inl o.2.2.2.2.1))), (36, (ad 36, .inl (cI, 150, .inl o.2.2.2.2.2)))] ws z) 0 0 (va_A ws z) := by
  refine KW.met (rm := rmX3_layOut) (lv := [(0, .ref (ad 32)), (1, .int a1)]) (L := [(32, (ad 32, .inr (3, [.ref (ad 1), .ref (ad 9), .ref (ad 22), .ref (ad 33), .ref (ad 34), .ref (ad 35), .ref (ad 36), .int p_size, .int p_column]))), (33, (ad 33, .inl (cB, 1300, .inl p_sheet))), (34, (ad 34, .inl (cI, 150, .inl p_flats))), (35, (ad 35, .inl (cZ, 150, .inl p_broken))), (36, (ad 36, .inl (cI, 150, .inl p_indents)))]) rfl (by decide) (Nat.le_of_ble_eq_true rfl) rfl (by intro q hq; simp only [List.mem_cons, List.not_mem_nil, or_false] at hq; rcases hq with rfl | rfl | rfl | rfl | rfl <;> assumption) ?_
  unfold f_X3_layOut at h
  show KW l xX3_layOut D (kT cI cB cJ cZ) ws z (kQv D (kT cI cB cJ cZ) [(32, (ad 32, .inr (3, [.ref (ad 1), .ref (ad 9), .ref (ad 22), .ref (ad 33), .ref (ad 34), .ref (ad 35), .ref (ad 36), .int o.1, .int o.2.1]))), (33, (ad 33, .inl (cB, 1300, .inl o.2.2.1))), (34, (ad 34, .inl (cI, 150, .inl o.2.2.2.1))), (35, (ad 35, .inl (cZ, 150, .inl o.2.2.2.2.1))), (36, (ad 36, .inl (cI, 150, .inl o.2.2.2.2.2)))] ws z) 0 [(0, .ref (ad 32)), (1, .int a1)] [] [(32, (ad 32, .inr (3, [.ref (ad 1), .ref (ad 9), .ref (ad 22), .ref (ad 33), .ref (ad 34), .ref (ad 35), .ref (ad 36), .int p_size, .int p_column]))), (33, (ad 33, .inl (cB, 1300, .inl p_sheet))), (34, (ad 34, .inl (cI, 150, .inl p_flats))), (35, (ad 35, .inl (cZ, 150, .inl p_broken))), (36, (ad 36, .inl (cI, 150, .inl p_indents)))]
  refine k_aload_n dX3_layOut_0 0 rfl rfl ?_
  obtain ⟨r1, hr1, h⟩ := Option.bind_eq_some_iff.mp h
  refine k_callvV (As := []) (st := []) (Lc := [(34, (ad 34, .inl (cI, 150, .inl r1)))]) (L' := [(32, (ad 32, .inr (3, [.ref (ad 1), .ref (ad 9), .ref (ad 22), .ref (ad 33), .ref (ad 34), .ref (ad 35), .ref (ad 36), .int p_size, .int p_column]))), (33, (ad 33, .inl (cB, 1300, .inl p_sheet))), (34, (ad 34, .inl (cI, 150, .inl r1))), (35, (ad 35, .inl (cZ, 150, .inl p_broken))), (36, (ad 36, .inl (cI, 150, .inl p_indents)))]) gX3_layOut_X3_measure rfl rfl rfl hyVX3_measure ⟨Nat.le_of_ble_eq_true rfl, Nat.le_of_ble_eq_true rfl⟩ rfl rfl (Nat.le_of_ble_eq_true rfl) 32 rfl rfl dX3_layOut_1 (fun w z hw => c_X3_measure (cI := cI) (cB := cB) (cJ := cJ) (cZ := cZ) (ad := ad) w z ⟨((hw 9).trans E.2.2.1), ((hw 10).trans E.2.2.2.1), ((hw 11).trans E.2.2.2.2.1), ((hw 12).trans E.2.2.2.2.2.1), ((hw 14).trans E.2.2.2.2.2.2.1), ((hw 15).trans E.2.2.2.2.2.2.2.1), ((hw 16).trans E.2.2.2.2.2.2.2.2.1), ((hw 22).trans E.2.2.2.2.2.2.2.2.2.1), ((hw 23).trans E.2.2.2.2.2.2.2.2.2.2.1), ((hw 24).trans E.2.2.2.2.2.2.2.2.2.2.2), (hw 32)⟩ (hw 34) hr1) rfl rfl ?_
  refine k_aload_n dX3_layOut_4 0 rfl rfl ?_
  refine k_iconst (v := 0) dX3_layOut_5 (by decide) ?_
  refine k_put (L' := [(32, (ad 32, .inr (3, [.ref (ad 1), .ref (ad 9), .ref (ad 22), .ref (ad 33), .ref (ad 34), .ref (ad 35), .ref (ad 36), .int 0, .int p_column]))), (33, (ad 33, .inl (cB, 1300, .inl p_sheet))), (34, (ad 34, .inl (cI, 150, .inl r1))), (35, (ad 35, .inl (cZ, 150, .inl p_broken))), (36, (ad 36, .inl (cI, 150, .inl p_indents)))]) 32 7 rfl rfl qX3_layOut_wX3 (by decide) tyX3 tyX3_ok nmX3 rfl qX3_layOut_f26 rfl (tyX3_ok 7 (by decide)) rfl rfl (Nat.le_of_ble_eq_true rfl) dX3_layOut_6 rfl ?_
  refine k_aload_n dX3_layOut_9 0 rfl rfl ?_
  refine k_iconst (v := 0) dX3_layOut_10 (by decide) ?_
  refine k_put (L' := [(32, (ad 32, .inr (3, [.ref (ad 1), .ref (ad 9), .ref (ad 22), .ref (ad 33), .ref (ad 34), .ref (ad 35), .ref (ad 36), .int 0, .int 0]))), (33, (ad 33, .inl (cB, 1300, .inl p_sheet))), (34, (ad 34, .inl (cI, 150, .inl r1))), (35, (ad 35, .inl (cZ, 150, .inl p_broken))), (36, (ad 36, .inl (cI, 150, .inl p_indents)))]) 32 8 rfl rfl qX3_layOut_wX3 (by decide) tyX3 tyX3_ok nmX3 rfl qX3_layOut_f30 rfl (tyX3_ok 8 (by decide)) rfl rfl (Nat.le_of_ble_eq_true rfl) dX3_layOut_11 rfl ?_
  refine k_iconst (v := 0) dX3_layOut_14 (by decide) ?_
  refine k_istore_n (i := 2) (lv' := fun x => [(2, .int x), (0, .ref (ad 32)), (1, .int a1)]) dX3_layOut_15 rfl (Nat.le_of_ble_eq_true rfl) (fun _ => rfl) h (fun x2_2 h => ?_)
  refine k_sub [1, 2, 0] rfl ?_
  refine wlp_X3_layOut_16 (cI := cI) (cB := cB) (cJ := cJ) (cZ := cZ) (ad := ad) E ?_ FU _ _ _ _ _ _ _ _ h
  · intro p_size p_column p_sheet p_flats p_broken p_indents h
    refine k_aload_n dX3_layOut_51 0 rfl rfl ?_
    obtain ⟨r6, hr6, h⟩ := Option.bind_eq_some_iff.mp h
    refine k_callvV (As := []) (st := []) (Lc := [(32, (ad 32, .inr (3, [.ref (ad 1), .ref (ad 9), .ref (ad 22), .ref (ad 33), .ref (ad 34), .ref (ad 35), .ref (ad 36), .int r6.1, .int r6.2.1]))), (33, (ad 33, .inl (cB, 1300, .inl r6.2.2)))]) (L' := [(32, (ad 32, .inr (3, [.ref (ad 1), .ref (ad 9), .ref (ad 22), .ref (ad 33), .ref (ad 34), .ref (ad 35), .ref (ad 36), .int r6.1, .int r6.2.1]))), (33, (ad 33, .inl (cB, 1300, .inl r6.2.2))), (34, (ad 34, .inl (cI, 150, .inl p_flats))), (35, (ad 35, .inl (cZ, 150, .inl p_broken))), (36, (ad 36, .inl (cI, 150, .inl p_indents)))]) gX3_layOut_X3_layEnd rfl rfl rfl hyVX3_layEnd ⟨Nat.le_of_ble_eq_true rfl, Nat.le_of_ble_eq_true rfl⟩ rfl rfl (Nat.le_of_ble_eq_true rfl) 32 rfl rfl dX3_layOut_52 (fun w z hw => c_X3_layEnd (cI := cI) (cB := cB) (cJ := cJ) (cZ := cZ) (ad := ad) w z ⟨((hw 9).trans E.2.2.1), ((hw 10).trans E.2.2.2.1), ((hw 11).trans E.2.2.2.2.1), ((hw 12).trans E.2.2.2.2.2.1), ((hw 14).trans E.2.2.2.2.2.2.1), ((hw 15).trans E.2.2.2.2.2.2.2.1), ((hw 16).trans E.2.2.2.2.2.2.2.2.1), ((hw 22).trans E.2.2.2.2.2.2.2.2.2.1)⟩ (hw 32) (hw 33) hr6) rfl rfl ?_
    obtain rfl := Option.some.inj h
    exact k_vret rfl dX3_layOut_55
