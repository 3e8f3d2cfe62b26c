abbrev rmX1_signOf : Room := { frames := 0, cells := 0, slots := 0, locals := 0 }
abbrev xX1_signOf : KX := (rmX1_signOf, cX1_signOf, 2, some .int, RX1, wsX1_signOf)
theorem hySX1_signOf : yX1_signOf.cls ≠ "java/lang/invoke/MethodHandle" ∧ yX1_signOf.cls ≠ "java/lang/invoke/VarHandle" ∧ (parseMethodDescriptor yX1_signOf.desc).map (fun d => d.parameters.length) = some 1 := by decide +kernel
theorem hyVX1_signOf : yX1_signOf.cls = RX1 ∧ yX1_signOf.cls ≠ "java/lang/invoke/MethodHandle" ∧ yX1_signOf.cls ≠ "java/lang/invoke/VarHandle" ∧ (parseMethodDescriptor yX1_signOf.desc).map (fun d => d.parameters.length) = some 1 := ⟨rfl, hySX1_signOf⟩
theorem qX1_signOf_wX1 : ∀ w ∈ u_ws RX1 TX1 10, w ∈ wsX1_signOf := by decide +kernel
theorem qX1_signOf_f38 : Cond.fieldLink RX1 38 "KindParser$Cut" "size" "I" ∈ wsX1_signOf := by decide +kernel
theorem qX1_signOf_f26 : Cond.fieldLink RX1 26 "KindParser$Cut" "signs" "[I" ∈ wsX1_signOf := by decide +kernel
set_option maxHeartbeats 4000000 in
set_option maxRecDepth 100000 in
theorem wjn_X1_signOf_22 {l : Launch} {D : va_G} {cI cB cJ cZ : ClassId} {ad : Nat → Nat} {ws : va_W} {z : Nat} {c_length : Int32} {c_size : Int32} {c_comments : Int32} {c_signs : Nat → Int32} (E : ws[9]? = some (ad 9, .inr (1, [.ref (ad 10), .int c_length, .ref (ad 11), .ref (ad 12), .ref (ad 13), .ref (ad 14), .ref (ad 15), .ref (ad 16), .int c_size, .int c_comments])) ∧ ws[13]? = some (ad 13, .inl (cI, 16, .inl c_signs))) {o : Int32}   : ∀ (s0 : Int32), jn_X1_signOf_22 c_size c_signs s0 = some o → KW l xX1_signOf D (kT cI cB cJ cZ) ws z (kQi D (kT cI cB cJ cZ) o [] ws z) 22 [] [.int s0] [] := by
  intro s0 h
  unfold jn_X1_signOf_22 at h
  obtain rfl := Option.some.inj h
  exact k_iret rfl dX1_signOf_22
set_option maxHeartbeats 4000000 in
set_option maxRecDepth 100000 in
theorem wjn_X1_signOf_21 {l : Launch} {D : va_G} {cI cB cJ cZ : ClassId} {ad : Nat → Nat} {ws : va_W} {z : Nat} {c_length : Int32} {c_size : Int32} {c_comments : Int32} {c_signs : Nat → Int32} (E : ws[9]? = some (ad 9, .inr (1, [.ref (ad 10), .int c_length, .ref (ad 11), .ref (ad 12), .ref (ad 13), .ref (ad 14), .ref (ad 15), .ref (ad 16), .int c_size, .int c_comments])) ∧ ws[13]? = some (ad 13, .inl (cI, 16, .inl c_signs))) {o : Int32}   : jn_X1_signOf_21 c_size c_signs = some o → KW l xX1_signOf D (kT cI cB cJ cZ) ws z (kQi D (kT cI cB cJ cZ) o [] ws z) 21 [] [] [] := by
  intro h
  unfold jn_X1_signOf_21 at h
  refine k_iconst (v := 0) dX1_signOf_21 (by decide) ?_
  refine k_sub [] rfl ?_
  exact wjn_X1_signOf_22 (cI := cI) (cB := cB) (cJ := cJ) (cZ := cZ) (ad := ad) E  _ h
set_option maxHeartbeats 4000000 in
set_option maxRecDepth 100000 in
/-- KindParser$Cut.signOf -/
theorem c_X1_signOf {l : Launch} {D : va_G} {cI cB cJ cZ : ClassId} {ad : Nat → Nat} (ws : va_W) (z : Nat) {c_length : Int32} {c_size : Int32} {c_comments : Int32} {c_signs : Nat → Int32} (E : ws[9]? = some (ad 9, .inr (1, [.ref (ad 10), .int c_length, .ref (ad 11), .ref (ad 12), .ref (ad 13), .ref (ad 14), .ref (ad 15), .ref (ad 16), .int c_size, .int c_comments])) ∧ ws[13]? = some (ad 13, .inl (cI, 16, .inl c_signs)))  {a1 : Int32} {o : Int32} (h : f_X1_signOf a1 c_size c_signs = some o) : Met l yX1_signOf wsX1_signOf rmX1_signOf (kPc D (kT cI cB cJ cZ) [.ref (ad 9), .int a1] ws z) (kQi D (kT cI cB cJ cZ) o [] ws z) 0 0 (va_A ws z) := by
  refine KW.met (rm := rmX1_signOf) (lv := [(0, .ref (ad 9)), (1, .int a1)]) (L := []) rfl (by decide) (Nat.le_of_ble_eq_true rfl) rfl (fun q hq => by cases hq) ?_
  unfold f_X1_signOf at h
  show KW l xX1_signOf D (kT cI cB cJ cZ) ws z (kQi D (kT cI cB cJ cZ) o [] ws z) 0 [(0, .ref (ad 9)), (1, .int a1)] [] []
  refine k_iload_n dX1_signOf_0 1 rfl rfl ?_
  refine k_if_lt 21 dX1_signOf_1 (by decide) h (fun h => ?_) (fun h => ?_)
  · skip
    refine k_sub [] rfl ?_
    exact wjn_X1_signOf_21 (cI := cI) (cB := cB) (cJ := cJ) (cZ := cZ) (ad := ad) E   h
  · skip
    refine k_iload_n dX1_signOf_4 1 rfl rfl ?_
    refine k_aload_n dX1_signOf_5 0 rfl rfl ?_
    refine k_get 9 8 E.1 rfl qX1_signOf_wX1 (by decide) qX1_signOf_f38 rfl dX1_signOf_6 ?_
    refine k_icmp_ge 21 dX1_signOf_9 (by decide) h (fun h => ?_) (fun h => ?_)
    · skip
      refine k_sub [] rfl ?_
      exact wjn_X1_signOf_21 (cI := cI) (cB := cB) (cJ := cJ) (cZ := cZ) (ad := ad) E   h
    · skip
      refine k_aload_n dX1_signOf_12 0 rfl rfl ?_
      refine k_get 9 4 E.1 rfl qX1_signOf_wX1 (by decide) qX1_signOf_f26 rfl dX1_signOf_13 ?_
      refine k_iload_n dX1_signOf_16 1 rfl rfl ?_
      refine k_iald 13 0 E.2 rfl dX1_signOf_17 h (fun v1 h => ?_)
      refine k_goto 22 dX1_signOf_18 (by decide) ?_
      refine k_sub [] rfl ?_
      exact wjn_X1_signOf_22 (cI := cI) (cB := cB) (cJ := cJ) (cZ := cZ) (ad := ad) E  _ h
abbrev rmX1_closing : Room := { frames := 0, cells := 0, slots := 0, locals := 0 }
abbrev xX1_closing : KX := (rmX1_closing, cX1_closing, 3, some .int, RX1, wsX1_closing)
theorem hySX1_closing : yX1_closing.cls ≠ "java/lang/invoke/MethodHandle" ∧ yX1_closing.cls ≠ "java/lang/invoke/VarHandle" ∧ (parseMethodDescriptor yX1_closing.desc).map (fun d => d.parameters.length) = some 1 := by decide +kernel
theorem hyVX1_closing : yX1_closing.cls = RX1 ∧ yX1_closing.cls ≠ "java/lang/invoke/MethodHandle" ∧ yX1_closing.cls ≠ "java/lang/invoke/VarHandle" ∧ (parseMethodDescriptor yX1_closing.desc).map (fun d => d.parameters.length) = some 1 := ⟨rfl, hySX1_closing⟩
theorem qX1_closing_wX1 : ∀ w ∈ u_ws RX1 TX1 10, w ∈ wsX1_closing := by decide +kernel
theorem qX1_closing_f15 : Cond.fieldLink RX1 15 "KindParser$Cut" "length" "I" ∈ wsX1_closing := by decide +kernel
theorem qX1_closing_f9 : Cond.fieldLink RX1 9 "KindParser$Cut" "text" "[B" ∈ wsX1_closing := by decide +kernel
set_option maxHeartbeats 4000000 in
set_option maxRecDepth 100000 in
theorem wlp_X1_closing_4 {l : Launch} {D : va_G} {cI cB cJ cZ : ClassId} {ad : Nat → Nat} {ws : va_W} {z : Nat} {c_length : Int32} {c_size : Int32} {c_comments : Int32} {c_text : Nat → Int32} (E : ws[9]? = some (ad 9, .inr (1, [.ref (ad 10), .int c_length, .ref (ad 11), .ref (ad 12), .ref (ad 13), .ref (ad 14), .ref (ad 15), .ref (ad 16), .int c_size, .int c_comments])) ∧ ws[10]? = some (ad 10, .inl (cB, 80, .inl c_text))) {o : Int32} {k31 : Option (Int32)} (hk31 : k31 = some o → KW l xX1_closing D (kT cI cB cJ cZ) ws z (kQi D (kT cI cB cJ cZ) o [] ws z) 31 [] [] []) : ∀ (n : Nat) (x2 : Int32), lp_X1_closing_4 c_length c_text k31 n x2 = some o → KW l xX1_closing D (kT cI cB cJ cZ) ws z (kQi D (kT cI cB cJ cZ) o [] ws z) 4 [(0, .ref (ad 9)), (2, .int x2)] [] [] := by
  intro n
  induction n with
  | zero => intro x2 h; exact absurd h (by simp [lp_X1_closing_4])
  | succ n hk4 =>
    intro x2 h
    unfold lp_X1_closing_4 at h
    refine k_iload_n dX1_closing_4 1 rfl rfl ?_
    refine k_aload_n dX1_closing_5 0 rfl rfl ?_
    refine k_get 9 1 E.1 rfl qX1_closing_wX1 (by decide) qX1_closing_f15 rfl dX1_closing_6 ?_
    refine k_icmp_ge 31 dX1_closing_9 (by decide) h (fun h => ?_) (fun h => ?_)
    · skip
      refine k_sub [] rfl ?_
      exact hk31  h
    · skip
      refine k_aload_n dX1_closing_12 0 rfl rfl ?_
      refine k_get 9 0 E.1 rfl qX1_closing_wX1 (by decide) qX1_closing_f9 rfl dX1_closing_13 ?_
      refine k_iload_n dX1_closing_16 1 rfl rfl ?_
      refine k_bald 10 1 E.2 rfl dX1_closing_17 h (fun v2 h => ?_)
      refine k_bipush (v := 125) dX1_closing_18 (by decide) ?_
      refine k_icmp_ne 25 dX1_closing_20 (by decide) h (fun h => ?_) (fun h => ?_)
      · skip
        refine k_iload_n dX1_closing_23 1 rfl rfl ?_
        obtain rfl := Option.some.inj h
        exact k_iret rfl dX1_closing_24
      · skip
        refine k_iinc (i := 2) (lv' := fun x => [(2, .int x), (0, .ref (ad 9))]) dX1_closing_25 1 rfl (Nat.le_of_ble_eq_true rfl) (fun _ => rfl) h (fun x2_3 h => ?_)
        refine k_goto 4 dX1_closing_28 (by decide) ?_
        refine k_sub [1, 0] rfl ?_
        exact hk4 _ h
set_option maxHeartbeats 4000000 in
set_option maxRecDepth 100000 in
/-- KindParser$Cut.closing -/
theorem c_X1_closing {l : Launch} {D : va_G} {cI cB cJ cZ : ClassId} {ad : Nat → Nat} (ws : va_W) (z : Nat) {c_length : Int32} {c_size : Int32} {c_comments : Int32} {c_text : Nat → Int32} (E : ws[9]? = some (ad 9, .inr (1, [.ref (ad 10), .int c_length, .ref (ad 11), .ref (ad 12), .ref (ad 13), .ref (ad 14), .ref (ad 15), .ref (ad 16), .int c_size, .int c_comments])) ∧ ws[10]? = some (ad 10, .inl (cB, 80, .inl c_text)))  {a1 : Int32} {o : Int32} (h : f_X1_closing a1 c_length c_text = some o) : Met l yX1_closing wsX1_closing rmX1_closing (kPc D (kT cI cB cJ cZ) [.ref (ad 9), .int a1] ws z) (kQi D (kT cI cB cJ cZ) o [] ws z) 0 0 (va_A ws z) := by
  refine KW.met (rm := rmX1_closing) (lv := [(0, .ref (ad 9)), (1, .int a1)]) (L := []) rfl (by decide) (Nat.le_of_ble_eq_true rfl) rfl (fun q hq => by cases hq) ?_
  unfold f_X1_closing at h
  show KW l xX1_closing D (kT cI cB cJ cZ) ws z (kQi D (kT cI cB cJ cZ) o [] ws z) 0 [(0, .ref (ad 9)), (1, .int a1)] [] []
  refine k_iload_n dX1_closing_0 1 rfl rfl ?_
  refine k_iconst (v := 1) dX1_closing_1 (by decide) ?_
  refine k_iadd dX1_closing_2 ?_
  refine k_istore_n (i := 2) (lv' := fun x => [(2, .int x), (0, .ref (ad 9)), (1, .int a1)]) dX1_closing_3 rfl (Nat.le_of_ble_eq_true rfl) (fun _ => rfl) h (fun x2_1 h => ?_)
  refine k_sub [1, 0] rfl ?_
  refine wlp_X1_closing_4 (cI := cI) (cB := cB) (cJ := cJ) (cZ := cZ) (ad := ad) E ?_ FU _ h
  · intro  h
    refine k_iconst (v := (-1)) dX1_closing_31 (by decide) ?_
    obtain rfl := Option.some.inj h
    exact k_iret rfl dX1_closing_32
abbrev rmX1_takeComment : Room := { frames := 0, cells := 0, slots := 0, locals := 0 }
abbrev xX1_takeComment : KX := (rmX1_takeComment, cX1_takeComment, 3, some .int, RX1, wsX1_takeComment)
theorem hySX1_takeComment : yX1_takeComment.cls ≠ "java/lang/invoke/MethodHandle" ∧ yX1_takeComment.cls ≠ "java/lang/invoke/VarHandle" ∧ (parseMethodDescriptor yX1_takeComment.desc).map (fun d => d.parameters.length) = some 2 := by decide +kernel
theorem hyVX1_takeComment : yX1_takeComment.cls = RX1 ∧ yX1_takeComment.cls ≠ "java/lang/invoke/MethodHandle" ∧ yX1_takeComment.cls ≠ "java/lang/invoke/VarHandle" ∧ (parseMethodDescriptor yX1_takeComment.desc).map (fun d => d.parameters.length) = some 2 := ⟨rfl, hySX1_takeComment⟩
theorem qX1_takeComment_wX1 : ∀ w ∈ u_ws RX1 TX1 10, w ∈ wsX1_takeComment := by decide +kernel
theorem qX1_takeComment_f41 : Cond.fieldLink RX1 41 "KindParser$Cut" "comments" "I" ∈ wsX1_takeComment := by decide +kernel
theorem qX1_takeComment_f32 : Cond.fieldLink RX1 32 "KindParser$Cut" "commentStarts" "[I" ∈ wsX1_takeComment := by decide +kernel
theorem qX1_takeComment_f35 : Cond.fieldLink RX1 35 "KindParser$Cut" "commentEnds" "[I" ∈ wsX1_takeComment := by decide +kernel
set_option maxHeartbeats 4000000 in
set_option maxRecDepth 100000 in
theorem wjn_X1_takeComment_39 {l : Launch} {D : va_G} {cI cB cJ cZ : ClassId} {ad : Nat → Nat} {ws : va_W} {z : Nat} {c_length : Int32} {c_size : Int32} (E : True) {o : Int32 × (Int32) × (Nat → Int32) × (Nat → Int32)}   : ∀ (x2 : Int32) (c_comments : Int32) (c_commentStarts : Nat → Int32) (c_commentEnds : Nat → Int32), jn_X1_takeComment_39  x2 c_comments c_commentStarts c_commentEnds = some o → KW l xX1_takeComment D (kT cI cB cJ cZ) ws z (kQi D (kT cI cB cJ cZ) o.1 [(9, (ad 9, .inr (1, [.ref (ad 10), .int c_length, .ref (ad 11), .ref (ad 12), .ref (ad 13), .ref (ad 14), .ref (ad 15), .ref (ad 16), .int c_size, .int o.2.1]))), (15, (ad 15, .inl (cI, 40, .inl o.2.2.1))), (16, (ad 16, .inl (cI, 40, .inl o.2.2.2)))] ws z) 39 [(2, .int x2)] [] [(9, (ad 9, .inr (1, [.ref (ad 10), .int c_length, .ref (ad 11), .ref (ad 12), .ref (ad 13), .ref (ad 14), .ref (ad 15), .ref (ad 16), .int c_size, .int c_comments]))), (15, (ad 15, .inl (cI, 40, .inl c_commentStarts))), (16, (ad 16, .inl (cI, 40, .inl c_commentEnds)))] := by
  intro x2 c_comments c_commentStarts c_commentEnds h
  unfold jn_X1_takeComment_39 at h
  refine k_iload_n dX1_takeComment_39 0 rfl rfl ?_
  obtain rfl := Option.some.inj h
  exact k_iret rfl dX1_takeComment_40
set_option maxHeartbeats 4000000 in
set_option maxRecDepth 100000 in
/-- KindParser$Cut.takeComment -/
theorem c_X1_takeComment {l : Launch} {D : va_G} {cI cB cJ cZ : ClassId} {ad : Nat → Nat} (ws : va_W) (z : Nat) {c_length : Int32} {c_size : Int32} {c_comments : Int32} {c_commentStarts : Nat → Int32} {c_commentEnds : Nat → Int32} (E : True) (e9 : ws[9]? = some (ad 9, .inr (1, [.ref (ad 10), .int c_length, .ref (ad 11), .ref (ad 12), .ref (ad 13), .ref (ad 14), .ref (ad 15), .ref (ad 16), .int c_size, .int c_comments]))) (e15 : ws[15]? = some (ad 15, .inl (cI, 40, .inl c_commentStarts))) (e16 : ws[16]? = some (ad 16, .inl (cI, 40, .inl c_commentEnds))) {a1 : Int32} {a2 : Int32} {o : Int32 × (Int32) × (Nat → Int32) × (Nat → Int32)} (h : f_X1_takeComment a1 a2 c_comments c_commentStarts c_commentEnds = some o) : Met l yX1_takeComment wsX1_takeComment rmX1_takeComment (kPc D (kT cI cB cJ cZ) [.ref (ad 9), .int a1, .int a2] ws z) (kQi D (kT cI cB cJ cZ) o.1 [(9, (ad 9, .inr (1, [.ref (ad 10), .int c_length, .ref (ad 11), .ref (ad 12), .ref (ad 13), .ref (ad 14), .ref (ad 15), .ref (ad 16), .int c_size, .int o.2.1]))), (15, (ad 15, .inl (cI, 40, .inl o.2.2.1))), (16, (ad 16, .inl (cI, 40, .inl o.2.2.2)))] ws z) 0 0 (va_A ws z) := by
  refine KW.met (rm := rmX1_takeComment) (lv := [(0, .ref (ad 9)), (1, .int a1), (2, .int a2)]) (L := [(9, (ad 9, .inr (1, [.ref (ad 10), .int c_length, .ref (ad 11), .ref (ad 12), .ref (ad 13), .ref (ad 14), .ref (ad 15), .ref (ad 16), .int c_size, .int c_comments]))), (15, (ad 15, .inl (cI, 40, .inl c_commentStarts))), (16, (ad 16, .inl (cI, 40, .inl c_commentEnds)))]) rfl (by decide) (Nat.le_of_ble_eq_true rfl) rfl (by intro q hq; simp only [List.mem_cons, List.not_mem_nil, or_false] at hq; rcases hq with rfl | rfl | rfl <;> assumption) ?_
  unfold f_X1_takeComment at h
  show KW l xX1_takeComment D (kT cI cB cJ cZ) ws z (kQi D (kT cI cB cJ cZ) o.1 [(9, (ad 9, .inr (1, [.ref (ad 10), .int c_length, .ref (ad 11), .ref (ad 12), .ref (ad 13), .ref (ad 14), .ref (ad 15), .ref (ad 16), .int c_size, .int o.2.1]))), (15, (ad 15, .inl (cI, 40, .inl o.2.2.1))), (16, (ad 16, .inl (cI, 40, .inl o.2.2.2)))] ws z) 0 [(0, .ref (ad 9)), (1, .int a1), (2, .int a2)] [] [(9, (ad 9, .inr (1, [.ref (ad 10), .int c_length, .ref (ad 11), .ref (ad 12), .ref (ad 13), .ref (ad 14), .ref (ad 15), .ref (ad 16), .int c_size, .int c_comments]))), (15, (ad 15, .inl (cI, 40, .inl c_commentStarts))), (16, (ad 16, .inl (cI, 40, .inl c_commentEnds)))]
  refine k_aload_n dX1_takeComment_0 0 rfl rfl ?_
  refine k_get 9 9 rfl rfl qX1_takeComment_wX1 (by decide) qX1_takeComment_f41 rfl dX1_takeComment_1 ?_
  refine k_bipush (v := 40) dX1_takeComment_4 (by decide) ?_
  refine k_icmp_ge 39 dX1_takeComment_6 (by decide) h (fun h => ?_) (fun h => ?_)
  · skip
    refine k_sub [2] rfl ?_
    exact wjn_X1_takeComment_39 (cI := cI) (cB := cB) (cJ := cJ) (cZ := cZ) (ad := ad) E  _ _ _ _ h
  · skip
    refine k_aload_n dX1_takeComment_9 0 rfl rfl ?_
    refine k_get 9 6 rfl rfl qX1_takeComment_wX1 (by decide) qX1_takeComment_f32 rfl dX1_takeComment_10 ?_
    refine k_aload_n dX1_takeComment_13 0 rfl rfl ?_
    refine k_get 9 9 rfl rfl qX1_takeComment_wX1 (by decide) qX1_takeComment_f41 rfl dX1_takeComment_14 ?_
    refine k_iload_n dX1_takeComment_17 1 rfl rfl ?_
    refine k_iast (L' := fun f => [(9, (ad 9, .inr (1, [.ref (ad 10), .int c_length, .ref (ad 11), .ref (ad 12), .ref (ad 13), .ref (ad 14), .ref (ad 15), .ref (ad 16), .int c_size, .int c_comments]))), (15, (ad 15, .inl (cI, 40, .inl f))), (16, (ad 16, .inl (cI, 40, .inl c_commentEnds)))]) 15 0 rfl rfl rfl dX1_takeComment_18 h (fun _ => rfl) (fun c_commentStarts_1 h => ?_)
    refine k_aload_n dX1_takeComment_19 0 rfl rfl ?_
    refine k_get 9 7 rfl rfl qX1_takeComment_wX1 (by decide) qX1_takeComment_f35 rfl dX1_takeComment_20 ?_
    refine k_aload_n dX1_takeComment_23 0 rfl rfl ?_
    refine k_get 9 9 rfl rfl qX1_takeComment_wX1 (by decide) qX1_takeComment_f41 rfl dX1_takeComment_24 ?_
    refine k_iload_n dX1_takeComment_27 2 rfl rfl ?_
    refine k_iast (L' := fun f => [(9, (ad 9, .inr (1, [.ref (ad 10), .int c_length, .ref (ad 11), .ref (ad 12), .ref (ad 13), .ref (ad 14), .ref (ad 15), .ref (ad 16), .int c_size, .int c_comments]))), (15, (ad 15, .inl (cI, 40, .inl c_commentStarts_1))), (16, (ad 16, .inl (cI, 40, .inl f)))]) 16 0 rfl rfl rfl dX1_takeComment_28 h (fun _ => rfl) (fun c_commentEnds_2 h => ?_)
    refine k_aload_n dX1_takeComment_29 0 rfl rfl ?_
    refine k_dup dX1_takeComment_30 rfl ?_
    refine k_get 9 9 rfl rfl qX1_takeComment_wX1 (by decide) qX1_takeComment_f41 rfl dX1_takeComment_31 ?_
    refine k_iconst (v := 1) dX1_takeComment_34 (by decide) ?_
    refine k_iadd dX1_takeComment_35 ?_
    refine k_put (L' := [(9, (ad 9, .inr (1, [.ref (ad 10), .int c_length, .ref (ad 11), .ref (ad 12), .ref (ad 13), .ref (ad 14), .ref (ad 15), .ref (ad 16), .int c_size, .int (c_comments + 1)]))), (15, (ad 15, .inl (cI, 40, .inl c_commentStarts_1))), (16, (ad 16, .inl (cI, 40, .inl c_commentEnds_2)))]) 9 9 rfl rfl qX1_takeComment_wX1 (by decide) tyX1 tyX1_ok nmX1 rfl qX1_takeComment_f41 rfl (tyX1_ok 9 (by decide)) rfl rfl (Nat.le_of_ble_eq_true rfl) dX1_takeComment_36 rfl ?_
    refine k_sub [2] rfl ?_
    exact wjn_X1_takeComment_39 (cI := cI) (cB := cB) (cJ := cJ) (cZ := cZ) (ad := ad) E  _ _ _ _ h
abbrev rmX1_behindDigits : Room := { frames := 1, cells := 0, slots := 0, locals := 20 }
abbrev xX1_behindDigits : KX := (rmX1_behindDigits, cX1_behindDigits, 3, some .int, RX1, wsX1_behindDigits)
theorem hySX1_behindDigits : yX1_behindDigits.cls ≠ "java/lang/invoke/MethodHandle" ∧ yX1_behindDigits.cls ≠ "java/lang/invoke/VarHandle" ∧ (parseMethodDescriptor yX1_behindDigits.desc).map (fun d => d.parameters.length) = some 1 := by decide +kernel
theorem hyVX1_behindDigits : yX1_behindDigits.cls = RX1 ∧ yX1_behindDigits.cls ≠ "java/lang/invoke/MethodHandle" ∧ yX1_behindDigits.cls ≠ "java/lang/invoke/VarHandle" ∧ (parseMethodDescriptor yX1_behindDigits.desc).map (fun d => d.parameters.length) = some 1 := ⟨rfl, hySX1_behindDigits⟩
theorem qX1_behindDigits_wX1 : ∀ w ∈ u_ws RX1 TX1 10, w ∈ wsX1_behindDigits := by decide +kernel
theorem qX1_behindDigits_f15 : Cond.fieldLink RX1 15 "KindParser$Cut" "length" "I" ∈ wsX1_behindDigits := by decide +kernel
theorem qX1_behindDigits_f9 : Cond.fieldLink RX1 9 "KindParser$Cut" "text" "[B" ∈ wsX1_behindDigits := by decide +kernel
theorem qX1_behindDigits_iX5 : Cond.initialized RX5 ∈ wsX1_behindDigits := by decide +kernel
theorem qX1_behindDigits_sX5_isDigit : Cond.static yX5_isDigit ∈ wsX1_behindDigits := by decide +kernel
set_option maxHeartbeats 4000000 in
set_option maxRecDepth 100000 in
theorem wlp_X1_behindDigits_2 {l : Launch} {D : va_G} {cI cB cJ cZ : ClassId} {ad : Nat → Nat} {ws : va_W} {z : Nat} {c_length : Int32} {c_size : Int32} {c_comments : Int32} {c_text : Nat → Int32} (E : ws[9]? = some (ad 9, .inr (1, [.ref (ad 10), .int c_length, .ref (ad 11), .ref (ad 12), .ref (ad 13), .ref (ad 14), .ref (ad 15), .ref (ad 16), .int c_size, .int c_comments])) ∧ ws[10]? = some (ad 10, .inl (cB, 80, .inl c_text))) {o : Int32} {k28 : (Int32) → Option (Int32)} (hk28 : ∀ (x2 : Int32), k28 x2 = some o → KW l xX1_behindDigits D (kT cI cB cJ cZ) ws z (kQi D (kT cI cB cJ cZ) o [] ws z) 28 [(2, .int x2)] [] []) : ∀ (n : Nat) (x2 : Int32), lp_X1_behindDigits_2 c_length c_text k28 n x2 = some o → KW l xX1_behindDigits D (kT cI cB cJ cZ) ws z (kQi D (kT cI cB cJ cZ) o [] ws z) 2 [(0, .ref (ad 9)), (2, .int x2)] [] [] := by
  intro n
  induction n with
  | zero => intro x2 h; exact absurd h (by simp [lp_X1_behindDigits_2])
  | succ n hk2 =>
    intro x2 h
    unfold lp_X1_behindDigits_2 at h
    refine k_iload_n dX1_behindDigits_2 1 rfl rfl ?_
    refine k_aload_n dX1_behindDigits_3 0 rfl rfl ?_
    refine k_get 9 1 E.1 rfl qX1_behindDigits_wX1 (by decide) qX1_behindDigits_f15 rfl dX1_behindDigits_4 ?_
    refine k_icmp_ge 28 dX1_behindDigits_7 (by decide) h (fun h => ?_) (fun h => ?_)
    · skip
      refine k_sub [1] rfl ?_
      exact hk28 _ h
    · skip
      refine k_aload_n dX1_behindDigits_10 0 rfl rfl ?_
      refine k_get 9 0 E.1 rfl qX1_behindDigits_wX1 (by decide) qX1_behindDigits_f9 rfl dX1_behindDigits_11 ?_
      refine k_iload_n dX1_behindDigits_14 1 rfl rfl ?_
      refine k_bald 10 1 E.2 rfl dX1_behindDigits_15 h (fun v2 h => ?_)
      obtain ⟨r3, hr3, h⟩ := Option.bind_eq_some_iff.mp h
      refine k_calliSN (As := [.int v2]) (st := []) (Lc := []) (L' := []) (r := r3) (host := "KindParser") gX1_behindDigits_X5_isDigit_n72 (by decide +kernel) qX1_behindDigits_iX5 qX1_behindDigits_sX5_isDigit rfl rfl rfl hySX5_isDigit ⟨Nat.le_of_ble_eq_true rfl, Nat.le_of_ble_eq_true rfl⟩ rfl rfl (Nat.le_of_ble_eq_true rfl) dX1_behindDigits_16 (fun w z hw => c_X5_isDigit (cI := cI) (cB := cB) (cJ := cJ) (cZ := cZ) (ad := ad) w z trivial  hr3) rfl rfl ?_
      refine k_if_eq 28 dX1_behindDigits_19 (by decide) h (fun h => ?_) (fun h => ?_)
      · skip
        refine k_sub [1] rfl ?_
        exact hk28 _ h
      · skip
        refine k_iinc (i := 2) (lv' := fun x => [(2, .int x), (0, .ref (ad 9))]) dX1_behindDigits_22 1 rfl (Nat.le_of_ble_eq_true rfl) (fun _ => rfl) h (fun x2_4 h => ?_)
        refine k_goto 2 dX1_behindDigits_25 (by decide) ?_
        refine k_sub [1, 0] rfl ?_
        exact hk2 _ h
set_option maxHeartbeats 4000000 in
set_option maxRecDepth 100000 in
theorem wjn_X1_behindDigits_28 {l : Launch} {D : va_G} {cI cB cJ cZ : ClassId} {ad : Nat → Nat} {ws : va_W} {z : Nat} {c_length : Int32} {c_size : Int32} {c_comments : Int32} {c_text : Nat → Int32} (E : ws[9]? = some (ad 9, .inr (1, [.ref (ad 10), .int c_length, .ref (ad 11), .ref (ad 12), .ref (ad 13), .ref (ad 14), .ref (ad 15), .ref (ad 16), .int c_size, .int c_comments])) ∧ ws[10]? = some (ad 10, .inl (cB, 80, .inl c_text))) {o : Int32}   : ∀ (x2 : Int32), jn_X1_behindDigits_28 c_length c_text x2 = some o → KW l xX1_behindDigits D (kT cI cB cJ cZ) ws z (kQi D (kT cI cB cJ cZ) o [] ws z) 28 [(2, .int x2)] [] [] := by
  intro x2 h
  unfold jn_X1_behindDigits_28 at h
  refine k_iload_n dX1_behindDigits_28 0 rfl rfl ?_
  obtain rfl := Option.some.inj h
  exact k_iret rfl dX1_behindDigits_29
set_option maxHeartbeats 4000000 in
set_option maxRecDepth 100000 in
/-- KindParser$Cut.behindDigits -/
theorem c_X1_behindDigits {l : Launch} {D : va_G} {cI cB cJ cZ : ClassId} {ad : Nat → Nat} (ws : va_W) (z : Nat) {c_length : Int32} {c_size : Int32} {c_comments : Int32} {c_text : Nat → Int32} (E : ws[9]? = some (ad 9, .inr (1, [.ref (ad 10), .int c_length, .ref (ad 11), .ref (ad 12), .ref (ad 13), .ref (ad 14), .ref (ad 15), .ref (ad 16), .int c_size, .int c_comments])) ∧ ws[10]? = some (ad 10, .inl (cB, 80, .inl c_text)))  {a1 : Int32} {o : Int32} (h : f_X1_behindDigits a1 c_length c_text = some o) : Met l yX1_behindDigits wsX1_behindDigits rmX1_behindDigits (kPc D (kT cI cB cJ cZ) [.ref (ad 9), .int a1] ws z) (kQi D (kT cI cB cJ cZ) o [] ws z) 0 0 (va_A ws z) := by
  refine KW.met (rm := rmX1_behindDigits) (lv := [(0, .ref (ad 9)), (1, .int a1)]) (L := []) rfl (by decide) (Nat.le_of_ble_eq_true rfl) rfl (fun q hq => by cases hq) ?_
  unfold f_X1_behindDigits at h
  show KW l xX1_behindDigits D (kT cI cB cJ cZ) ws z (kQi D (kT cI cB cJ cZ) o [] ws z) 0 [(0, .ref (ad 9)), (1, .int a1)] [] []
  refine k_iload_n dX1_behindDigits_0 1 rfl rfl ?_
  refine k_istore_n (i := 2) (lv' := fun x => [(2, .int x), (0, .ref (ad 9)), (1, .int a1)]) dX1_behindDigits_1 rfl (Nat.le_of_ble_eq_true rfl) (fun _ => rfl) h (fun x2_1 h => ?_)
  refine k_sub [1, 0] rfl ?_
  refine wlp_X1_behindDigits_2 (cI := cI) (cB := cB) (cJ := cJ) (cZ := cZ) (ad := ad) E ?_ FU _ h
  · intro x2 h
    refine k_sub [0] rfl ?_
    exact wjn_X1_behindDigits_28 (cI := cI) (cB := cB) (cJ := cJ) (cZ := cZ) (ad := ad) E  _ h
abbrev rmX1_take : Room := { frames := 2, cells := 0, slots := 0, locals := 42 }
abbrev xX1_take : KX := (rmX1_take, cX1_take, 6, some .int, RX1, wsX1_take)
theorem hySX1_take : yX1_take.cls ≠ "java/lang/invoke/MethodHandle" ∧ yX1_take.cls ≠ "java/lang/invoke/VarHandle" ∧ (parseMethodDescriptor yX1_take.desc).map (fun d => d.parameters.length) = some 1 := by decide +kernel
theorem hyVX1_take : yX1_take.cls = RX1 ∧ yX1_take.cls ≠ "java/lang/invoke/MethodHandle" ∧ yX1_take.cls ≠ "java/lang/invoke/VarHandle" ∧ (parseMethodDescriptor yX1_take.desc).map (fun d => d.parameters.length) = some 1 := ⟨rfl, hySX1_take⟩
theorem qX1_take_wX1 : ∀ w ∈ u_ws RX1 TX1 10, w ∈ wsX1_take := by decide +kernel
theorem qX1_take_f9 : Cond.fieldLink RX1 9 "KindParser$Cut" "text" "[B" ∈ wsX1_take := by decide +kernel
theorem qX1_take_f38 : Cond.fieldLink RX1 38 "KindParser$Cut" "size" "I" ∈ wsX1_take := by decide +kernel
theorem qX1_take_f19 : Cond.fieldLink RX1 19 "KindParser$Cut" "starts" "[I" ∈ wsX1_take := by decide +kernel
theorem qX1_take_f23 : Cond.fieldLink RX1 23 "KindParser$Cut" "lengths" "[I" ∈ wsX1_take := by decide +kernel
theorem qX1_take_f26 : Cond.fieldLink RX1 26 "KindParser$Cut" "signs" "[I" ∈ wsX1_take := by decide +kernel
theorem qX1_take_f29 : Cond.fieldLink RX1 29 "KindParser$Cut" "firstComments" "[I" ∈ wsX1_take := by decide +kernel
theorem qX1_take_f41 : Cond.fieldLink RX1 41 "KindParser$Cut" "comments" "I" ∈ wsX1_take := by decide +kernel
set_option maxHeartbeats 4000000 in
set_option maxRecDepth 100000 in
theorem wjn_X1_take_19 {l : Launch} {D : va_G} {cI cB cJ cZ : ClassId} {ad : Nat → Nat} {ws : va_W} {z : Nat} {c_length : Int32} {c_text : Nat → Int32} (E : ws[10]? = some (ad 10, .inl (cB, 80, .inl c_text))) {o : Int32 × (Int32) × (Int32) × (Nat → Int32) × (Nat → Int32) × (Nat → Int32) × (Nat → Int32) × (Nat → Int32) × (Nat → Int32)}   : ∀ (x1 : Int32) (c_size : Int32) (c_comments : Int32) (c_starts : Nat → Int32) (c_lengths : Nat → Int32) (c_signs : Nat → Int32) (c_firstComments : Nat → Int32) (c_commentStarts : Nat → Int32) (c_commentEnds : Nat → Int32), jn_X1_take_19 c_length c_text x1 c_size c_comments c_starts c_lengths c_signs c_firstComments c_commentStarts c_commentEnds = some o → KW l xX1_take D (kT cI cB cJ cZ) ws z (kQi D (kT cI cB cJ cZ) o.1 [(9, (ad 9, .inr (1, [.ref (ad 10), .int c_length, .ref (ad 11), .ref (ad 12), .ref (ad 13), .ref (ad 14), .ref (ad 15), .ref (ad 16), .int o.2.1, .int o.2.2.1]))), (11, (ad 11, .inl (cI, 16, .inl o.2.2.2.1))), (12, (ad 12, .inl (cI, 16, .inl o.2.2.2.2.1))), (13, (ad 13, .inl (cI, 16, .inl o.2.2.2.2.2.1))), (14, (ad 14, .inl (cI, 18, .inl o.2.2.2.2.2.2.1))), (15, (ad 15, .inl (cI, 40, .inl o.2.2.2.2.2.2.2.1))), (16, (ad 16, .inl (cI, 40, .inl o.2.2.2.2.2.2.2.2)))] ws z) 19 [(1, .int x1)] [] [(9, (ad 9, .inr (1, [.ref (ad 10), .int c_length, .ref (ad 11), .ref (ad 12), .ref (ad 13), .ref (ad 14), .ref (ad 15), .ref (ad 16), .int c_size, .int c_comments]))), (11, (ad 11, .inl (cI, 16, .inl c_starts))), (12, (ad 12, .inl (cI, 16, .inl c_lengths))), (13, (ad 13, .inl (cI, 16, .inl c_signs))), (14, (ad 14, .inl (cI, 18, .inl c_firstComments))), (15, (ad 15, .inl (cI, 40, .inl c_commentStarts))), (16, (ad 16, .inl (cI, 40, .inl c_commentEnds)))] := by
  intro x1 c_size c_comments c_starts c_lengths c_signs c_firstComments c_commentStarts c_commentEnds h
  unfold jn_X1_take_19 at h
  refine k_iload_n dX1_take_19 0 rfl rfl ?_
  refine k_iconst (v := 1) dX1_take_20 (by decide) ?_
  refine k_iadd dX1_take_21 ?_
  obtain rfl := Option.some.inj h
  exact k_iret rfl dX1_take_22
set_option maxHeartbeats 4000000 in
set_option maxRecDepth 100000 in
theorem wjn_X1_take_149 {l : Launch} {D : va_G} {cI cB cJ cZ : ClassId} {ad : Nat → Nat} {ws : va_W} {z : Nat} {c_length : Int32} {c_text : Nat → Int32} (E : ws[10]? = some (ad 10, .inl (cB, 80, .inl c_text))) {o : Int32 × (Int32) × (Int32) × (Nat → Int32) × (Nat → Int32) × (Nat → Int32) × (Nat → Int32) × (Nat → Int32) × (Nat → Int32)}   : ∀ (x5 : Int32) (s1 : Int32) (s2 : Int32) (c_size : Int32) (c_comments : Int32) (c_starts : Nat → Int32) (c_lengths : Nat → Int32) (c_signs : Nat → Int32) (c_firstComments : Nat → Int32) (c_commentStarts : Nat → Int32) (c_commentEnds : Nat → Int32), jn_X1_take_149 c_length c_text x5 s1 s2 c_size c_comments c_starts c_lengths c_signs c_firstComments c_commentStarts c_commentEnds = some o → KW l xX1_take D (kT cI cB cJ cZ) ws z (kQi D (kT cI cB cJ cZ) o.1 [(9, (ad 9, .inr (1, [.ref (ad 10), .int c_length, .ref (ad 11), .ref (ad 12), .ref (ad 13), .ref (ad 14), .ref (ad 15), .ref (ad 16), .int o.2.1, .int o.2.2.1]))), (11, (ad 11, .inl (cI, 16, .inl o.2.2.2.1))), (12, (ad 12, .inl (cI, 16, .inl o.2.2.2.2.1))), (13, (ad 13, .inl (cI, 16, .inl o.2.2.2.2.2.1))), (14, (ad 14, .inl (cI, 18, .inl o.2.2.2.2.2.2.1))), (15, (ad 15, .inl (cI, 40, .inl o.2.2.2.2.2.2.2.1))), (16, (ad 16, .inl (cI, 40, .inl o.2.2.2.2.2.2.2.2)))] ws z) 149 [(0, .ref (ad 9)), (5, .int x5)] [.int s2, .int s1, .ref (ad 13)] [(9, (ad 9, .inr (1, [.ref (ad 10), .int c_length, .ref (ad 11), .ref (ad 12), .ref (ad 13), .ref (ad 14), .ref (ad 15), .ref (ad 16), .int c_size, .int c_comments]))), (11, (ad 11, .inl (cI, 16, .inl c_starts))), (12, (ad 12, .inl (cI, 16, .inl c_lengths))), (13, (ad 13, .inl (cI, 16, .inl c_signs))), (14, (ad 14, .inl (cI, 18, .inl c_firstComments))), (15, (ad 15, .inl (cI, 40, .inl c_commentStarts))), (16, (ad 16, .inl (cI, 40, .inl c_commentEnds)))] := by
  intro x5 s1 s2 c_size c_comments c_starts c_lengths c_signs c_firstComments c_commentStarts c_commentEnds h
  unfold jn_X1_take_149 at h
  refine k_iast (L' := fun f => [(9, (ad 9, .inr (1, [.ref (ad 10), .int c_length, .ref (ad 11), .ref (ad 12), .ref (ad 13), .ref (ad 14), .ref (ad 15), .ref (ad 16), .int c_size, .int c_comments]))), (11, (ad 11, .inl (cI, 16, .inl c_starts))), (12, (ad 12, .inl (cI, 16, .inl c_lengths))), (13, (ad 13, .inl (cI, 16, .inl f))), (14, (ad 14, .inl (cI, 18, .inl c_firstComments))), (15, (ad 15, .inl (cI, 40, .inl c_commentStarts))), (16, (ad 16, .inl (cI, 40, .inl c_commentEnds)))]) 13 0 rfl rfl rfl dX1_take_149 h (fun _ => rfl) (fun c_signs_9 h => ?_)
  refine k_aload_n dX1_take_150 0 rfl rfl ?_
  refine k_dup dX1_take_151 rfl ?_
  refine k_get 9 8 rfl rfl qX1_take_wX1 (by decide) qX1_take_f38 rfl dX1_take_152 ?_
  refine k_iconst (v := 1) dX1_take_155 (by decide) ?_
  refine k_iadd dX1_take_156 ?_
  refine k_put (L' := [(9, (ad 9, .inr (1, [.ref (ad 10), .int c_length, .ref (ad 11), .ref (ad 12), .ref (ad 13), .ref (ad 14), .ref (ad 15), .ref (ad 16), .int (c_size + 1), .int c_comments]))), (11, (ad 11, .inl (cI, 16, .inl c_starts))), (12, (ad 12, .inl (cI, 16, .inl c_lengths))), (13, (ad 13, .inl (cI, 16, .inl c_signs_9))), (14, (ad 14, .inl (cI, 18, .inl c_firstComments))), (15, (ad 15, .inl (cI, 40, .inl c_commentStarts))), (16, (ad 16, .inl (cI, 40, .inl c_commentEnds)))]) 9 8 rfl rfl qX1_take_wX1 (by decide) tyX1 tyX1_ok nmX1 rfl qX1_take_f38 rfl (tyX1_ok 8 (by decide)) rfl rfl (Nat.le_of_ble_eq_true rfl) dX1_take_157 rfl ?_
  refine k_aload_n dX1_take_160 0 rfl rfl ?_
  refine k_get 9 5 rfl rfl qX1_take_wX1 (by decide) qX1_take_f29 rfl dX1_take_161 ?_
  refine k_aload_n dX1_take_164 0 rfl rfl ?_
  refine k_get 9 8 rfl rfl qX1_take_wX1 (by decide) qX1_take_f38 rfl dX1_take_165 ?_
  refine k_aload_n dX1_take_168 0 rfl rfl ?_
  refine k_get 9 9 rfl rfl qX1_take_wX1 (by decide) qX1_take_f41 rfl dX1_take_169 ?_
  refine k_iast (L' := fun f => [(9, (ad 9, .inr (1, [.ref (ad 10), .int c_length, .ref (ad 11), .ref (ad 12), .ref (ad 13), .ref (ad 14), .ref (ad 15), .ref (ad 16), .int (c_size + 1), .int c_comments]))), (11, (ad 11, .inl (cI, 16, .inl c_starts))), (12, (ad 12, .inl (cI, 16, .inl c_lengths))), (13, (ad 13, .inl (cI, 16, .inl c_signs_9))), (14, (ad 14, .inl (cI, 18, .inl f))), (15, (ad 15, .inl (cI, 40, .inl c_commentStarts))), (16, (ad 16, .inl (cI, 40, .inl c_commentEnds)))]) 14 0 rfl rfl rfl dX1_take_172 h (fun _ => rfl) (fun c_firstComments_11 h => ?_)
  refine k_iload dX1_take_173 1 rfl ?_
  obtain rfl := Option.some.inj h
  exact k_iret rfl dX1_take_175
set_option maxHeartbeats 4000000 in
set_option maxRecDepth 100000 in
theorem wjn_X1_take_101 {l : Launch} {D : va_G} {cI cB cJ cZ : ClassId} {ad : Nat → Nat} {ws : va_W} {z : Nat} {c_length : Int32} {c_text : Nat → Int32} (E : ws[10]? = some (ad 10, .inl (cB, 80, .inl c_text))) {o : Int32 × (Int32) × (Int32) × (Nat → Int32) × (Nat → Int32) × (Nat → Int32) × (Nat → Int32) × (Nat → Int32) × (Nat → Int32)}   : ∀ (x1 : Int32) (x2 : Int32) (x4 : Int32) (s0 : Int32) (c_size : Int32) (c_comments : Int32) (c_starts : Nat → Int32) (c_lengths : Nat → Int32) (c_signs : Nat → Int32) (c_firstComments : Nat → Int32) (c_commentStarts : Nat → Int32) (c_commentEnds : Nat → Int32), jn_X1_take_101 c_length c_text x1 x2 x4 s0 c_size c_comments c_starts c_lengths c_signs c_firstComments c_commentStarts c_commentEnds = some o → KW l xX1_take D (kT cI cB cJ cZ) ws z (kQi D (kT cI cB cJ cZ) o.1 [(9, (ad 9, .inr (1, [.ref (ad 10), .int c_length, .ref (ad 11), .ref (ad 12), .ref (ad 13), .ref (ad 14), .ref (ad 15), .ref (ad 16), .int o.2.1, .int o.2.2.1]))), (11, (ad 11, .inl (cI, 16, .inl o.2.2.2.1))), (12, (ad 12, .inl (cI, 16, .inl o.2.2.2.2.1))), (13, (ad 13, .inl (cI, 16, .inl o.2.2.2.2.2.1))), (14, (ad 14, .inl (cI, 18, .inl o.2.2.2.2.2.2.1))), (15, (ad 15, .inl (cI, 40, .inl o.2.2.2.2.2.2.2.1))), (16, (ad 16, .inl (cI, 40, .inl o.2.2.2.2.2.2.2.2)))] ws z) 101 [(0, .ref (ad 9)), (1, .int x1), (2, .int x2), (4, .int x4)] [.int s0] [(9, (ad 9, .inr (1, [.ref (ad 10), .int c_length, .ref (ad 11), .ref (ad 12), .ref (ad 13), .ref (ad 14), .ref (ad 15), .ref (ad 16), .int c_size, .int c_comments]))), (11, (ad 11, .inl (cI, 16, .inl c_starts))), (12, (ad 12, .inl (cI, 16, .inl c_lengths))), (13, (ad 13, .inl (cI, 16, .inl c_signs))), (14, (ad 14, .inl (cI, 18, .inl c_firstComments))), (15, (ad 15, .inl (cI, 40, .inl c_commentStarts))), (16, (ad 16, .inl (cI, 40, .inl c_commentEnds)))] := by
  intro x1 x2 x4 s0 c_size c_comments c_starts c_lengths c_signs c_firstComments c_commentStarts c_commentEnds h
  unfold jn_X1_take_101 at h
  refine k_istore (i := 5) (lv' := fun x => [(5, .int x), (0, .ref (ad 9)), (1, .int x1), (2, .int x2), (4, .int x4)]) dX1_take_101 (Nat.le_of_ble_eq_true rfl) (fun _ => rfl) h (fun x5_6 h => ?_)
  refine k_aload_n dX1_take_103 1 rfl rfl ?_
  refine k_get 9 2 rfl rfl qX1_take_wX1 (by decide) qX1_take_f19 rfl dX1_take_104 ?_
  refine k_aload_n dX1_take_107 1 rfl rfl ?_
  refine k_get 9 8 rfl rfl qX1_take_wX1 (by decide) qX1_take_f38 rfl dX1_take_108 ?_
  refine k_iload_n dX1_take_111 2 rfl rfl ?_
  refine k_iast (L' := fun f => [(9, (ad 9, .inr (1, [.ref (ad 10), .int c_length, .ref (ad 11), .ref (ad 12), .ref (ad 13), .ref (ad 14), .ref (ad 15), .ref (ad 16), .int c_size, .int c_comments]))), (11, (ad 11, .inl (cI, 16, .inl f))), (12, (ad 12, .inl (cI, 16, .inl c_lengths))), (13, (ad 13, .inl (cI, 16, .inl c_signs))), (14, (ad 14, .inl (cI, 18, .inl c_firstComments))), (15, (ad 15, .inl (cI, 40, .inl c_commentStarts))), (16, (ad 16, .inl (cI, 40, .inl c_commentEnds)))]) 11 0 rfl rfl rfl dX1_take_112 h (fun _ => rfl) (fun c_starts_7 h => ?_)
  refine k_aload_n dX1_take_113 1 rfl rfl ?_
  refine k_get 9 3 rfl rfl qX1_take_wX1 (by decide) qX1_take_f23 rfl dX1_take_114 ?_
  refine k_aload_n dX1_take_117 1 rfl rfl ?_
  refine k_get 9 8 rfl rfl qX1_take_wX1 (by decide) qX1_take_f38 rfl dX1_take_118 ?_
  refine k_iload dX1_take_121 0 rfl ?_
  refine k_iload_n dX1_take_123 2 rfl rfl ?_
  refine k_isub dX1_take_124 ?_
  refine k_iast (L' := fun f => [(9, (ad 9, .inr (1, [.ref (ad 10), .int c_length, .ref (ad 11), .ref (ad 12), .ref (ad 13), .ref (ad 14), .ref (ad 15), .ref (ad 16), .int c_size, .int c_comments]))), (11, (ad 11, .inl (cI, 16, .inl c_starts_7))), (12, (ad 12, .inl (cI, 16, .inl f))), (13, (ad 13, .inl (cI, 16, .inl c_signs))), (14, (ad 14, .inl (cI, 18, .inl c_firstComments))), (15, (ad 15, .inl (cI, 40, .inl c_commentStarts))), (16, (ad 16, .inl (cI, 40, .inl c_commentEnds)))]) 12 0 rfl rfl rfl dX1_take_125 h (fun _ => rfl) (fun c_lengths_8 h => ?_)
  refine k_aload_n dX1_take_126 1 rfl rfl ?_
  refine k_get 9 4 rfl rfl qX1_take_wX1 (by decide) qX1_take_f26 rfl dX1_take_127 ?_
  refine k_aload_n dX1_take_130 1 rfl rfl ?_
  refine k_get 9 8 rfl rfl qX1_take_wX1 (by decide) qX1_take_f38 rfl dX1_take_131 ?_
  refine k_iload dX1_take_134 4 rfl ?_
  refine k_if_eq 148 dX1_take_136 (by decide) h (fun h => ?_) (fun h => ?_)
  · skip
    refine k_iconst (v := 0) dX1_take_148 (by decide) ?_
    refine k_sub [1, 0] rfl ?_
    exact wjn_X1_take_149 (cI := cI) (cB := cB) (cJ := cJ) (cZ := cZ) (ad := ad) E  _ _ _ _ _ _ _ _ _ _ _ h
  · skip
    refine k_iload_n dX1_take_139 3 rfl rfl ?_
    refine k_bipush (v := 97) dX1_take_140 (by decide) ?_
    refine k_isub dX1_take_142 ?_
    refine k_iconst (v := 1) dX1_take_143 (by decide) ?_
    refine k_iadd dX1_take_144 ?_
    refine k_goto 149 dX1_take_145 (by decide) ?_
    refine k_sub [1, 0] rfl ?_
    exact wjn_X1_take_149 (cI := cI) (cB := cB) (cJ := cJ) (cZ := cZ) (ad := ad) E  _ _ _ _ _ _ _ _ _ _ _ h
set_option maxHeartbeats 4000000 in
set_option maxRecDepth 100000 in
theorem wjn_X1_take_81 {l : Launch} {D : va_G} {cI cB cJ cZ : ClassId} {ad : Nat → Nat} {ws : va_W} {z : Nat} {c_length : Int32} {c_text : Nat → Int32} (E : ws[10]? = some (ad 10, .inl (cB, 80, .inl c_text))) {o : Int32 × (Int32) × (Int32) × (Nat → Int32) × (Nat → Int32) × (Nat → Int32) × (Nat → Int32) × (Nat → Int32) × (Nat → Int32)}   : ∀ (x1 : Int32) (x2 : Int32) (s0 : Int32) (c_size : Int32) (c_comments : Int32) (c_starts : Nat → Int32) (c_lengths : Nat → Int32) (c_signs : Nat → Int32) (c_firstComments : Nat → Int32) (c_commentStarts : Nat → Int32) (c_commentEnds : Nat → Int32), jn_X1_take_81 c_length c_text x1 x2 s0 c_size c_comments c_starts c_lengths c_signs c_firstComments c_commentStarts c_commentEnds = some o → KW l xX1_take D (kT cI cB cJ cZ) ws z (kQi D (kT cI cB cJ cZ) o.1 [(9, (ad 9, .inr (1, [.ref (ad 10), .int c_length, .ref (ad 11), .ref (ad 12), .ref (ad 13), .ref (ad 14), .ref (ad 15), .ref (ad 16), .int o.2.1, .int o.2.2.1]))), (11, (ad 11, .inl (cI, 16, .inl o.2.2.2.1))), (12, (ad 12, .inl (cI, 16, .inl o.2.2.2.2.1))), (13, (ad 13, .inl (cI, 16, .inl o.2.2.2.2.2.1))), (14, (ad 14, .inl (cI, 18, .inl o.2.2.2.2.2.2.1))), (15, (ad 15, .inl (cI, 40, .inl o.2.2.2.2.2.2.2.1))), (16, (ad 16, .inl (cI, 40, .inl o.2.2.2.2.2.2.2.2)))] ws z) 81 [(0, .ref (ad 9)), (1, .int x1), (2, .int x2)] [.int s0] [(9, (ad 9, .inr (1, [.ref (ad 10), .int c_length, .ref (ad 11), .ref (ad 12), .ref (ad 13), .ref (ad 14), .ref (ad 15), .ref (ad 16), .int c_size, .int c_comments]))), (11, (ad 11, .inl (cI, 16, .inl c_starts))), (12, (ad 12, .inl (cI, 16, .inl c_lengths))), (13, (ad 13, .inl (cI, 16, .inl c_signs))), (14, (ad 14, .inl (cI, 18, .inl c_firstComments))), (15, (ad 15, .inl (cI, 40, .inl c_commentStarts))), (16, (ad 16, .inl (cI, 40, .inl c_commentEnds)))] := by
  intro x1 x2 s0 c_size c_comments c_starts c_lengths c_signs c_firstComments c_commentStarts c_commentEnds h
  unfold jn_X1_take_81 at h
  refine k_istore (i := 4) (lv' := fun x => [(4, .int x), (0, .ref (ad 9)), (1, .int x1), (2, .int x2)]) dX1_take_81 (Nat.le_of_ble_eq_true rfl) (fun _ => rfl) h (fun x4_5 h => ?_)
  refine k_iload dX1_take_83 0 rfl ?_
  refine k_if_eq 98 dX1_take_85 (by decide) h (fun h => ?_) (fun h => ?_)
  · skip
    refine k_iload_n dX1_take_98 2 rfl rfl ?_
    refine k_iconst (v := 1) dX1_take_99 (by decide) ?_
    refine k_iadd dX1_take_100 ?_
    refine k_sub [1, 2, 3, 0] rfl ?_
    exact wjn_X1_take_101 (cI := cI) (cB := cB) (cJ := cJ) (cZ := cZ) (ad := ad) E  _ _ _ _ _ _ _ _ _ _ _ _ h
  · skip
    refine k_aload_n dX1_take_88 1 rfl rfl ?_
    refine k_iload_n dX1_take_89 2 rfl rfl ?_
    refine k_iconst (v := 1) dX1_take_90 (by decide) ?_
    refine k_iadd dX1_take_91 ?_
    obtain ⟨r12, hr12, h⟩ := Option.bind_eq_some_iff.mp h
    refine k_calliV (As := [.int (x1 + 1)]) (st := []) (Lc := []) (L' := [(9, (ad 9, .inr (1, [.ref (ad 10), .int c_length, .ref (ad 11), .ref (ad 12), .ref (ad 13), .ref (ad 14), .ref (ad 15), .ref (ad 16), .int c_size, .int c_comments]))), (11, (ad 11, .inl (cI, 16, .inl c_starts))), (12, (ad 12, .inl (cI, 16, .inl c_lengths))), (13, (ad 13, .inl (cI, 16, .inl c_signs))), (14, (ad 14, .inl (cI, 18, .inl c_firstComments))), (15, (ad 15, .inl (cI, 40, .inl c_commentStarts))), (16, (ad 16, .inl (cI, 40, .inl c_commentEnds)))]) (r := r12) gX1_take_X1_behindDigits rfl rfl rfl hyVX1_behindDigits ⟨Nat.le_of_ble_eq_true rfl, Nat.le_of_ble_eq_true rfl⟩ rfl rfl (Nat.le_of_ble_eq_true rfl) 9 rfl rfl dX1_take_92 (fun w z hw => c_X1_behindDigits (cI := cI) (cB := cB) (cJ := cJ) (cZ := cZ) (ad := ad) w z ⟨(hw 9), ((hw 10).trans E)⟩  hr12) rfl rfl ?_
    refine k_goto 101 dX1_take_95 (by decide) ?_
    refine k_sub [1, 2, 3, 0] rfl ?_
    exact wjn_X1_take_101 (cI := cI) (cB := cB) (cJ := cJ) (cZ := cZ) (ad := ad) E  _ _ _ _ _ _ _ _ _ _ _ _ h
set_option maxHeartbeats 4000000 in
set_option maxRecDepth 100000 in
theorem wjn_X1_take_80 {l : Launch} {D : va_G} {cI cB cJ cZ : ClassId} {ad : Nat → Nat} {ws : va_W} {z : Nat} {c_length : Int32} {c_text : Nat → Int32} (E : ws[10]? = some (ad 10, .inl (cB, 80, .inl c_text))) {o : Int32 × (Int32) × (Int32) × (Nat → Int32) × (Nat → Int32) × (Nat → Int32) × (Nat → Int32) × (Nat → Int32) × (Nat → Int32)}   : ∀ (x1 : Int32) (x2 : Int32) (c_size : Int32) (c_comments : Int32) (c_starts : Nat → Int32) (c_lengths : Nat → Int32) (c_signs : Nat → Int32) (c_firstComments : Nat → Int32) (c_commentStarts : Nat → Int32) (c_commentEnds : Nat → Int32), jn_X1_take_80 c_length c_text x1 x2 c_size c_comments c_starts c_lengths c_signs c_firstComments c_commentStarts c_commentEnds = some o → KW l xX1_take D (kT cI cB cJ cZ) ws z (kQi D (kT cI cB cJ cZ) o.1 [(9, (ad 9, .inr (1, [.ref (ad 10), .int c_length, .ref (ad 11), .ref (ad 12), .ref (ad 13), .ref (ad 14), .ref (ad 15), .ref (ad 16), .int o.2.1, .int o.2.2.1]))), (11, (ad 11, .inl (cI, 16, .inl o.2.2.2.1))), (12, (ad 12, .inl (cI, 16, .inl o.2.2.2.2.1))), (13, (ad 13, .inl (cI, 16, .inl o.2.2.2.2.2.1))), (14, (ad 14, .inl (cI, 18, .inl o.2.2.2.2.2.2.1))), (15, (ad 15, .inl (cI, 40, .inl o.2.2.2.2.2.2.2.1))), (16, (ad 16, .inl (cI, 40, .inl o.2.2.2.2.2.2.2.2)))] ws z) 80 [(0, .ref (ad 9)), (1, .int x1), (2, .int x2)] [] [(9, (ad 9, .inr (1, [.ref (ad 10), .int c_length, .ref (ad 11), .ref (ad 12), .ref (ad 13), .ref (ad 14), .ref (ad 15), .ref (ad 16), .int c_size, .int c_comments]))), (11, (ad 11, .inl (cI, 16, .inl c_starts))), (12, (ad 12, .inl (cI, 16, .inl c_lengths))), (13, (ad 13, .inl (cI, 16, .inl c_signs))), (14, (ad 14, .inl (cI, 18, .inl c_firstComments))), (15, (ad 15, .inl (cI, 40, .inl c_commentStarts))), (16, (ad 16, .inl (cI, 40, .inl c_commentEnds)))] := by
  intro x1 x2 c_size c_comments c_starts c_lengths c_signs c_firstComments c_commentStarts c_commentEnds h
  unfold jn_X1_take_80 at h
  refine k_iconst (v := 0) dX1_take_80 (by decide) ?_
  refine k_sub [0, 1, 2] rfl ?_
  exact wjn_X1_take_81 (cI := cI) (cB := cB) (cJ := cJ) (cZ := cZ) (ad := ad) E  _ _ _ _ _ _ _ _ _ _ _ h
set_option maxHeartbeats 4000000 in
set_option maxRecDepth 100000 in
theorem wjn_X1_take_38 {l : Launch} {D : va_G} {cI cB cJ cZ : ClassId} {ad : Nat → Nat} {ws : va_W} {z : Nat} {c_length : Int32} {c_text : Nat → Int32} (E : ws[10]? = some (ad 10, .inl (cB, 80, .inl c_text))) {o : Int32 × (Int32) × (Int32) × (Nat → Int32) × (Nat → Int32) × (Nat → Int32) × (Nat → Int32) × (Nat → Int32) × (Nat → Int32)}   : ∀ (x1 : Int32) (x2 : Int32) (s0 : Int32) (c_size : Int32) (c_comments : Int32) (c_starts : Nat → Int32) (c_lengths : Nat → Int32) (c_signs : Nat → Int32) (c_firstComments : Nat → Int32) (c_commentStarts : Nat → Int32) (c_commentEnds : Nat → Int32), jn_X1_take_38 c_length c_text x1 x2 s0 c_size c_comments c_starts c_lengths c_signs c_firstComments c_commentStarts c_commentEnds = some o → KW l xX1_take D (kT cI cB cJ cZ) ws z (kQi D (kT cI cB cJ cZ) o.1 [(9, (ad 9, .inr (1, [.ref (ad 10), .int c_length, .ref (ad 11), .ref (ad 12), .ref (ad 13), .ref (ad 14), .ref (ad 15), .ref (ad 16), .int o.2.1, .int o.2.2.1]))), (11, (ad 11, .inl (cI, 16, .inl o.2.2.2.1))), (12, (ad 12, .inl (cI, 16, .inl o.2.2.2.2.1))), (13, (ad 13, .inl (cI, 16, .inl o.2.2.2.2.2.1))), (14, (ad 14, .inl (cI, 18, .inl o.2.2.2.2.2.2.1))), (15, (ad 15, .inl (cI, 40, .inl o.2.2.2.2.2.2.2.1))), (16, (ad 16, .inl (cI, 40, .inl o.2.2.2.2.2.2.2.2)))] ws z) 38 [(0, .ref (ad 9)), (1, .int x1), (2, .int x2)] [.int s0] [(9, (ad 9, .inr (1, [.ref (ad 10), .int c_length, .ref (ad 11), .ref (ad 12), .ref (ad 13), .ref (ad 14), .ref (ad 15), .ref (ad 16), .int c_size, .int c_comments]))), (11, (ad 11, .inl (cI, 16, .inl c_starts))), (12, (ad 12, .inl (cI, 16, .inl c_lengths))), (13, (ad 13, .inl (cI, 16, .inl c_signs))), (14, (ad 14, .inl (cI, 18, .inl c_firstComments))), (15, (ad 15, .inl (cI, 40, .inl c_commentStarts))), (16, (ad 16, .inl (cI, 40, .inl c_commentEnds)))] := by
  intro x1 x2 s0 c_size c_comments c_starts c_lengths c_signs c_firstComments c_commentStarts c_commentEnds h
  unfold jn_X1_take_38 at h
  refine k_istore_n (i := 3) (lv' := fun x => [(3, .int x), (0, .ref (ad 9)), (1, .int x1), (2, .int x2)]) dX1_take_38 rfl (Nat.le_of_ble_eq_true rfl) (fun _ => rfl) h (fun x3_4 h => ?_)
  refine k_iload_n dX1_take_39 0 rfl rfl ?_
  refine k_iconst (v := (-1)) dX1_take_40 (by decide) ?_
  refine k_icmp_eq 53 dX1_take_41 (by decide) h (fun h => ?_) (fun h => ?_)
  · skip
    refine k_aload_n dX1_take_53 1 rfl rfl ?_
    refine k_get 9 8 rfl rfl qX1_take_wX1 (by decide) qX1_take_f38 rfl dX1_take_54 ?_
    refine k_bipush (v := 16) dX1_take_57 (by decide) ?_
    refine k_icmp_lt 64 dX1_take_59 (by decide) h (fun h => ?_) (fun h => ?_)
    · skip
      refine k_iload_n dX1_take_64 3 rfl rfl ?_
      refine k_bipush (v := 97) dX1_take_65 (by decide) ?_
      refine k_icmp_lt 80 dX1_take_67 (by decide) h (fun h => ?_) (fun h => ?_)
      · skip
        refine k_sub [1, 2, 3] rfl ?_
        exact wjn_X1_take_80 (cI := cI) (cB := cB) (cJ := cJ) (cZ := cZ) (ad := ad) E  _ _ _ _ _ _ _ _ _ _ h
      · skip
        refine k_iload_n dX1_take_70 3 rfl rfl ?_
        refine k_bipush (v := 105) dX1_take_71 (by decide) ?_
        refine k_icmp_ge 80 dX1_take_73 (by decide) h (fun h => ?_) (fun h => ?_)
        · skip
          refine k_sub [1, 2, 3] rfl ?_
          exact wjn_X1_take_80 (cI := cI) (cB := cB) (cJ := cJ) (cZ := cZ) (ad := ad) E  _ _ _ _ _ _ _ _ _ _ h
        · skip
          refine k_iconst (v := 1) dX1_take_76 (by decide) ?_
          refine k_goto 81 dX1_take_77 (by decide) ?_
          refine k_sub [1, 2, 3] rfl ?_
          exact wjn_X1_take_81 (cI := cI) (cB := cB) (cJ := cJ) (cZ := cZ) (ad := ad) E  _ _ _ _ _ _ _ _ _ _ _ h
    · skip
      refine k_iconst (v := (-1)) dX1_take_62 (by decide) ?_
      obtain rfl := Option.some.inj h
      exact k_iret rfl dX1_take_63
  · skip
    refine k_aload_n dX1_take_44 1 rfl rfl ?_
    refine k_iload_n dX1_take_45 2 rfl rfl ?_
    refine k_iload_n dX1_take_46 0 rfl rfl ?_
    refine k_iconst (v := 1) dX1_take_47 (by decide) ?_
    refine k_iadd dX1_take_48 ?_
    obtain ⟨r13, hr13, h⟩ := Option.bind_eq_some_iff.mp h
    refine k_calliV (As := [.int x1, .int (x3_4 + 1)]) (st := []) (Lc := [(9, (ad 9, .inr (1, [.ref (ad 10), .int c_length, .ref (ad 11), .ref (ad 12), .ref (ad 13), .ref (ad 14), .ref (ad 15), .ref (ad 16), .int c_size, .int r13.2.1]))), (15, (ad 15, .inl (cI, 40, .inl r13.2.2.1))), (16, (ad 16, .inl (cI, 40, .inl r13.2.2.2)))]) (L' := [(9, (ad 9, .inr (1, [.ref (ad 10), .int c_length, .ref (ad 11), .ref (ad 12), .ref (ad 13), .ref (ad 14), .ref (ad 15), .ref (ad 16), .int c_size, .int r13.2.1]))), (11, (ad 11, .inl (cI, 16, .inl c_starts))), (12, (ad 12, .inl (cI, 16, .inl c_lengths))), (13, (ad 13, .inl (cI, 16, .inl c_signs))), (14, (ad 14, .inl (cI, 18, .inl c_firstComments))), (15, (ad 15, .inl (cI, 40, .inl r13.2.2.1))), (16, (ad 16, .inl (cI, 40, .inl r13.2.2.2)))]) (r := r13.1) gX1_take_X1_takeComment rfl rfl rfl hyVX1_takeComment ⟨Nat.le_of_ble_eq_true rfl, Nat.le_of_ble_eq_true rfl⟩ rfl rfl (Nat.le_of_ble_eq_true rfl) 9 rfl rfl dX1_take_49 (fun w z hw => c_X1_takeComment (cI := cI) (cB := cB) (cJ := cJ) (cZ := cZ) (ad := ad) w z trivial (hw 9) (hw 15) (hw 16) hr13) rfl rfl ?_
    obtain rfl := Option.some.inj h
    exact k_iret rfl dX1_take_52
set_option maxHeartbeats 4000000 in
set_option maxRecDepth 100000 in
/-- KindParser$Cut.take -/
theorem c_X1_take {l : Launch} {D : va_G} {cI cB cJ cZ : ClassId} {ad : Nat → Nat} (ws : va_W) (z : Nat) {c_length : Int32} {c_size : Int32} {c_comments : Int32} {c_text : Nat → Int32} {c_starts : Nat → Int32} {c_lengths : Nat → Int32} {c_signs : Nat → Int32} {c_firstComments : Nat → Int32} {c_commentStarts : Nat → Int32} {c_commentEnds : Nat → Int32} (E : ws[10]? = some (ad 10, .inl (cB, 80, .inl c_text))) (e9 : ws[9]? = some (ad 9, .inr (1, [.ref (ad 10), .int c_length, .ref (ad 11), .ref (ad 12), .ref (ad 13), .ref (ad 14), .ref (ad 15), .ref (ad 16), .int c_size, .int c_comments]))) (e11 : ws[11]? = some (ad 11, .inl (cI, 16, .inl c_starts))) (e12 : ws[12]? = some (ad 12, .inl (cI, 16, .inl c_lengths))) (e13 : ws[13]? = some (ad 13, .inl (cI, 16, .inl c_signs))) (e14 : ws[14]? = some (ad 14, .inl (cI, 18, .inl c_firstComments))) (e15 : ws[15]? = some (ad 15, .inl (cI, 40, .inl c_commentStarts))) (e16 : ws[16]? = some (ad 16, .inl (cI, 40, .inl c_commentEnds))) {a1 : Int32} {o : Int32 × (Int32) × (Int32) × (Nat → Int32) × (Nat → Int32) × (Nat → Int32) × (Nat → Int32) × (Nat → Int32) × (Nat → Int32)} (h : f_X1_take a1 c_length c_text c_size c_comments c_starts c_lengths c_signs c_firstComments c_commentStarts c_commentEnds = some o) : Met l yX1_take wsX1_take rmX1_take (kPc D (kT cI cB cJ cZ) [.ref (ad 9), .int a1] ws z) (kQi D (kT cI cB cJ cZ) o.1 [(9, (ad 9, .inr (1, [.ref (ad 10), .int c_length, .ref (ad 11), .ref (ad 12), .ref (ad 13), .ref (ad 14), .ref (ad 15), .ref (ad 16), .int o.2.1, .int o.2.2.1]))), (11, (ad 11, .inl (cI, 16, .inl o.2.2.2.1))), (12, (ad 12, .inl (cI, 16, .inl o.2.2.2.2.1))), (13, (ad 13, .inl (cI, 16, .inl o.2.2.2.2.2.1))), (14, (ad 14, .inl (cI, 18, .inl o.2.2.2.2.2.2.1))), (15, (ad 15, .inl (cI, 40, .inl o.2.2.2.2.2.2.2.1))), (16, (ad 16, .inl (cI, 40, .inl o.2.2.2.2.2.2.2.2)))] ws z) 0 0 (va_A ws z) := by
  refine KW.met (rm := rmX1_take) (lv := [(0, .ref (ad 9)), (1, .int a1)]) (L := [(9, (ad 9, .inr (1, [.ref (ad 10), .int c_length, .ref (ad 11), .ref (ad 12), .ref (ad 13), .ref (ad 14), .ref (ad 15), .ref (ad 16), .int c_size, .int c_comments]))), (11, (ad 11, .inl (cI, 16, .inl c_starts))), (12, (ad 12, .inl (cI, 16, .inl c_lengths))), (13, (ad 13, .inl (cI, 16, .inl c_signs))), (14, (ad 14, .inl (cI, 18, .inl c_firstComments))), (15, (ad 15, .inl (cI, 40, .inl c_commentStarts))), (16, (ad 16, .inl (cI, 40, .inl c_commentEnds)))]) rfl (by decide) (Nat.le_of_ble_eq_true rfl) rfl (by intro q hq; simp only [List.mem_cons, List.not_mem_nil, or_false] at hq; rcases hq with rfl | rfl | rfl | rfl | rfl | rfl | rfl <;> assumption) ?_
  unfold f_X1_take at h
  show KW l xX1_take D (kT cI cB cJ cZ) ws z (kQi D (kT cI cB cJ cZ) o.1 [(9, (ad 9, .inr (1, [.ref (ad 10), .int c_length, .ref (ad 11), .ref (ad 12), .ref (ad 13), .ref (ad 14), .ref (ad 15), .ref (ad 16), .int o.2.1, .int o.2.2.1]))), (11, (ad 11, .inl (cI, 16, .inl o.2.2.2.1))), (12, (ad 12, .inl (cI, 16, .inl o.2.2.2.2.1))), (13, (ad 13, .inl (cI, 16, .inl o.2.2.2.2.2.1))), (14, (ad 14, .inl (cI, 18, .inl o.2.2.2.2.2.2.1))), (15, (ad 15, .inl (cI, 40, .inl o.2.2.2.2.2.2.2.1))), (16, (ad 16, .inl (cI, 40, .inl o.2.2.2.2.2.2.2.2)))] ws z) 0 [(0, .ref (ad 9)), (1, .int a1)] [] [(9, (ad 9, .inr (1, [.ref (ad 10), .int c_length, .ref (ad 11), .ref (ad 12), .ref (ad 13), .ref (ad 14), .ref (ad 15), .ref (ad 16), .int c_size, .int c_comments]))), (11, (ad 11, .inl (cI, 16, .inl c_starts))), (12, (ad 12, .inl (cI, 16, .inl c_lengths))), (13, (ad 13, .inl (cI, 16, .inl c_signs))), (14, (ad 14, .inl (cI, 18, .inl c_firstComments))), (15, (ad 15, .inl (cI, 40, .inl c_commentStarts))), (16, (ad 16, .inl (cI, 40, .inl c_commentEnds)))]
  refine k_aload_n dX1_take_0 0 rfl rfl ?_
  refine k_get 9 0 rfl rfl qX1_take_wX1 (by decide) qX1_take_f9 rfl dX1_take_1 ?_
  refine k_iload_n dX1_take_4 1 rfl rfl ?_
  refine k_bald 10 1 E rfl dX1_take_5 h (fun v1 h => ?_)
  refine k_istore_n (i := 2) (lv' := fun x => [(2, .int x), (0, .ref (ad 9)), (1, .int a1)]) dX1_take_6 rfl (Nat.le_of_ble_eq_true rfl) (fun _ => rfl) h (fun x2_2 h => ?_)
  refine k_iload_n dX1_take_7 0 rfl rfl ?_
  refine k_bipush (v := 32) dX1_take_8 (by decide) ?_
  refine k_icmp_eq 19 dX1_take_10 (by decide) h (fun h => ?_) (fun h => ?_)
  · skip
    refine k_sub [2] rfl ?_
    exact wjn_X1_take_19 (cI := cI) (cB := cB) (cJ := cJ) (cZ := cZ) (ad := ad) E  _ _ _ _ _ _ _ _ _ h
  · skip
    refine k_iload_n dX1_take_13 0 rfl rfl ?_
    refine k_bipush (v := 10) dX1_take_14 (by decide) ?_
    refine k_icmp_ne 23 dX1_take_16 (by decide) h (fun h => ?_) (fun h => ?_)
    · skip
      refine k_sub [2] rfl ?_
      exact wjn_X1_take_19 (cI := cI) (cB := cB) (cJ := cJ) (cZ := cZ) (ad := ad) E  _ _ _ _ _ _ _ _ _ h
    · skip
      refine k_iload_n dX1_take_23 0 rfl rfl ?_
      refine k_bipush (v := 123) dX1_take_24 (by decide) ?_
      refine k_icmp_ne 37 dX1_take_26 (by decide) h (fun h => ?_) (fun h => ?_)
      · skip
        refine k_aload_n dX1_take_29 1 rfl rfl ?_
        refine k_iload_n dX1_take_30 2 rfl rfl ?_
        obtain ⟨r3, hr3, h⟩ := Option.bind_eq_some_iff.mp h
        refine k_calliV (As := [.int a1]) (st := []) (Lc := []) (L' := [(9, (ad 9, .inr (1, [.ref (ad 10), .int c_length, .ref (ad 11), .ref (ad 12), .ref (ad 13), .ref (ad 14), .ref (ad 15), .ref (ad 16), .int c_size, .int c_comments]))), (11, (ad 11, .inl (cI, 16, .inl c_starts))), (12, (ad 12, .inl (cI, 16, .inl c_lengths))), (13, (ad 13, .inl (cI, 16, .inl c_signs))), (14, (ad 14, .inl (cI, 18, .inl c_firstComments))), (15, (ad 15, .inl (cI, 40, .inl c_commentStarts))), (16, (ad 16, .inl (cI, 40, .inl c_commentEnds)))]) (r := r3) gX1_take_X1_closing rfl rfl rfl hyVX1_closing ⟨Nat.le_of_ble_eq_true rfl, Nat.le_of_ble_eq_true rfl⟩ rfl rfl (Nat.le_of_ble_eq_true rfl) 9 rfl rfl dX1_take_31 (fun w z hw => c_X1_closing (cI := cI) (cB := cB) (cJ := cJ) (cZ := cZ) (ad := ad) w z ⟨(hw 9), ((hw 10).trans E)⟩  hr3) rfl rfl ?_
        refine k_goto 38 dX1_take_34 (by decide) ?_
        refine k_sub [1, 2, 0] rfl ?_
        exact wjn_X1_take_38 (cI := cI) (cB := cB) (cJ := cJ) (cZ := cZ) (ad := ad) E  _ _ _ _ _ _ _ _ _ _ _ h
      · skip
        refine k_iconst (v := (-1)) dX1_take_37 (by decide) ?_
        refine k_sub [1, 2, 0] rfl ?_
        exact wjn_X1_take_38 (cI := cI) (cB := cB) (cJ := cJ) (cZ := cZ) (ad := ad) E  _ _ _ _ _ _ _ _ _ _ _ h
abbrev rmX1_read : Room := { frames := 3, cells := 0, slots := 0, locals := 67 }
abbrev xX1_read : KX := (rmX1_read, cX1_read, 5, some .boolean, RX1, wsX1_read)
theorem hySX1_read : yX1_read.cls ≠ "java/lang/invoke/MethodHandle" ∧ yX1_read.cls ≠ "java/lang/invoke/VarHandle" ∧ (parseMethodDescriptor yX1_read.desc).map (fun d => d.parameters.length) = some 2 := by decide +kernel
theorem hyVX1_read : yX1_read.cls = RX1 ∧ yX1_read.cls ≠ "java/lang/invoke/MethodHandle" ∧ yX1_read.cls ≠ "java/lang/invoke/VarHandle" ∧ (parseMethodDescriptor yX1_read.desc).map (fun d => d.parameters.length) = some 2 := ⟨rfl, hySX1_read⟩
theorem qX1_read_m44 : Cond.methodLink RX1 44 Lib.Math.min.name ∈ wsX1_read := by decide +kernel
theorem qX1_read_ms44 : Cond.static Lib.Math.min.name ∈ wsX1_read := by decide +kernel
theorem qX1_read_iMath : Cond.initialized "java/lang/Math" ∈ wsX1_read := by decide +kernel
theorem qX1_read_mc44 : Cond.code Lib.Math.min.name Lib.Math.min.code 2 (some .int) ∈ wsX1_read := by decide +kernel
theorem qX1_read_m50 : Cond.methodLink RX1 50 Lib.Math.max.name ∈ wsX1_read := by decide +kernel
theorem qX1_read_ms50 : Cond.static Lib.Math.max.name ∈ wsX1_read := by decide +kernel
theorem qX1_read_mc50 : Cond.code Lib.Math.max.name Lib.Math.max.code 2 (some .int) ∈ wsX1_read := by decide +kernel
theorem qX1_read_wX1 : ∀ w ∈ u_ws RX1 TX1 10, w ∈ wsX1_read := by decide +kernel
theorem qX1_read_f15 : Cond.fieldLink RX1 15 "KindParser$Cut" "length" "I" ∈ wsX1_read := by decide +kernel
theorem qX1_read_f9 : Cond.fieldLink RX1 9 "KindParser$Cut" "text" "[B" ∈ wsX1_read := by decide +kernel
theorem qX1_read_m53 : Cond.methodLink RX1 53 arraycopyName ∈ wsX1_read := by decide +kernel
theorem qX1_read_acn : Cond.native arraycopyName ∈ wsX1_read := by decide +kernel
theorem qX1_read_acs : Cond.static arraycopyName ∈ wsX1_read := by decide +kernel
theorem qX1_read_iSys : Cond.initialized "java/lang/System" ∈ wsX1_read := by decide +kernel
theorem qX1_read_f38 : Cond.fieldLink RX1 38 "KindParser$Cut" "size" "I" ∈ wsX1_read := by decide +kernel
theorem qX1_read_f41 : Cond.fieldLink RX1 41 "KindParser$Cut" "comments" "I" ∈ wsX1_read := by decide +kernel
theorem qX1_read_f29 : Cond.fieldLink RX1 29 "KindParser$Cut" "firstComments" "[I" ∈ wsX1_read := by decide +kernel
set_option maxHeartbeats 4000000 in
set_option maxRecDepth 100000 in
theorem wlp_X1_read_55 {l : Launch} {D : va_G} {cI cB cJ cZ : ClassId} {ad : Nat → Nat} {ws : va_W} {z : Nat} {k_text : Nat → Int32} (E : ws[8]? = some (ad 8, .inl (cB, 80, .inl k_text))) {o : Int32 × (Int32) × (Int32) × (Int32) × (Nat → Int32) × (Nat → Int32) × (Nat → Int32) × (Nat → Int32) × (Nat → Int32) × (Nat → Int32) × (Nat → Int32)} {k89 : (Int32) → (Int32) → (Int32) → (Nat → Int32) → (Nat → Int32) → (Nat → Int32) → (Nat → Int32) → (Nat → Int32) → (Nat → Int32) → (Nat → Int32) → Option (Int32 × (Int32) × (Int32) × (Int32) × (Nat → Int32) × (Nat → Int32) × (Nat → Int32) × (Nat → Int32) × (Nat → Int32) × (Nat → Int32) × (Nat → Int32))} (hk89 : ∀ (c_length : Int32) (c_size : Int32) (c_comments : Int32) (c_text : Nat → Int32) (c_starts : Nat → Int32) (c_lengths : Nat → Int32) (c_signs : Nat → Int32) (c_firstComments : Nat → Int32) (c_commentStarts : Nat → Int32) (c_commentEnds : Nat → Int32), k89 c_length c_size c_comments c_text c_starts c_lengths c_signs c_firstComments c_commentStarts c_commentEnds = some o → KW l xX1_read D (kT cI cB cJ cZ) ws z (kQi D (kT cI cB cJ cZ) o.1 [(9, (ad 9, .inr (1, [.ref (ad 10), .int o.2.1, .ref (ad 11), .ref (ad 12), .ref (ad 13), .ref (ad 14), .ref (ad 15), .ref (ad 16), .int o.2.2.1, .int o.2.2.2.1]))), (10, (ad 10, .inl (cB, 80, .inl o.2.2.2.2.1))), (11, (ad 11, .inl (cI, 16, .inl o.2.2.2.2.2.1))), (12, (ad 12, .inl (cI, 16, .inl o.2.2.2.2.2.2.1))), (13, (ad 13, .inl (cI, 16, .inl o.2.2.2.2.2.2.2.1))), (14, (ad 14, .inl (cI, 18, .inl o.2.2.2.2.2.2.2.2.1))), (15, (ad 15, .inl (cI, 40, .inl o.2.2.2.2.2.2.2.2.2.1))), (16, (ad 16, .inl (cI, 40, .inl o.2.2.2.2.2.2.2.2.2.2)))] ws z) 89 [(0, .ref (ad 9))] [] [(9, (ad 9, .inr (1, [.ref (ad 10), .int c_length, .ref (ad 11), .ref (ad 12), .ref (ad 13), .ref (ad 14), .ref (ad 15), .ref (ad 16), .int c_size, .int c_comments]))), (10, (ad 10, .inl (cB, 80, .inl c_text))), (11, (ad 11, .inl (cI, 16, .inl c_starts))), (12, (ad 12, .inl (cI, 16, .inl c_lengths))), (13, (ad 13, .inl (cI, 16, .inl c_signs))), (14, (ad 14, .inl (cI, 18, .inl c_firstComments))), (15, (ad 15, .inl (cI, 40, .inl c_commentStarts))), (16, (ad 16, .inl (cI, 40, .inl c_commentEnds)))]) : ∀ (n : Nat) (x3 : Int32) (x4 : Int32) (c_length : Int32) (c_size : Int32) (c_comments : Int32) (c_text : Nat → Int32) (c_starts : Nat → Int32) (c_lengths : Nat → Int32) (c_signs : Nat → Int32) (c_firstComments : Nat → Int32) (c_commentStarts : Nat → Int32) (c_commentEnds : Nat → Int32), lp_X1_read_55 k_text k89 n x3 x4 c_length c_size c_comments c_text c_starts c_lengths c_signs c_firstComments c_commentStarts c_commentEnds = some o → KW l xX1_read D (kT cI cB cJ cZ) ws z (kQi D (kT cI cB cJ cZ) o.1 [(9, (ad 9, .inr (1, [.ref (ad 10), .int o.2.1, .ref (ad 11), .ref (ad 12), .ref (ad 13), .ref (ad 14), .ref (ad 15), .ref (ad 16), .int o.2.2.1, .int o.2.2.2.1]))), (10, (ad 10, .inl (cB, 80, .inl o.2.2.2.2.1))), (11, (ad 11, .inl (cI, 16, .inl o.2.2.2.2.2.1))), (12, (ad 12, .inl (cI, 16, .inl o.2.2.2.2.2.2.1))), (13, (ad 13, .inl (cI, 16, .inl o.2.2.2.2.2.2.2.1))), (14, (ad 14, .inl (cI, 18, .inl o.2.2.2.2.2.2.2.2.1))), (15, (ad 15, .inl (cI, 40, .inl o.2.2.2.2.2.2.2.2.2.1))), (16, (ad 16, .inl (cI, 40, .inl o.2.2.2.2.2.2.2.2.2.2)))] ws z) 55 [(0, .ref (ad 9)), (3, .int x3), (4, .int x4)] [] [(9, (ad 9, .inr (1, [.ref (ad 10), .int c_length, .ref (ad 11), .ref (ad 12), .ref (ad 13), .ref (ad 14), .ref (ad 15), .ref (ad 16), .int c_size, .int c_comments]))), (10, (ad 10, .inl (cB, 80, .inl c_text))), (11, (ad 11, .inl (cI, 16, .inl c_starts))), (12, (ad 12, .inl (cI, 16, .inl c_lengths))), (13, (ad 13, .inl (cI, 16, .inl c_signs))), (14, (ad 14, .inl (cI, 18, .inl c_firstComments))), (15, (ad 15, .inl (cI, 40, .inl c_commentStarts))), (16, (ad 16, .inl (cI, 40, .inl c_commentEnds)))] := by
  intro n
  induction n with
  | zero => intro x3 x4 c_length c_size c_comments c_text c_starts c_lengths c_signs c_firstComments c_commentStarts c_commentEnds h; exact absurd h (by simp [lp_X1_read_55])
  | succ n hk55 =>
    intro x3 x4 c_length c_size c_comments c_text c_starts c_lengths c_signs c_firstComments c_commentStarts c_commentEnds h
    unfold lp_X1_read_55 at h
    refine k_iload dX1_read_55 2 rfl ?_
    refine k_bipush (v := 80) dX1_read_57 (by decide) ?_
    refine k_icmp_ge 89 dX1_read_59 (by decide) h (fun h => ?_) (fun h => ?_)
    · skip
      refine k_sub [0] rfl ?_
      exact hk89 _ _ _ _ _ _ _ _ _ _ h
    · skip
      refine k_iload_n dX1_read_62 1 rfl rfl ?_
      refine k_aload_n dX1_read_63 0 rfl rfl ?_
      refine k_get 9 1 rfl rfl qX1_read_wX1 (by decide) qX1_read_f15 rfl dX1_read_64 ?_
      refine k_icmp_ge 89 dX1_read_67 (by decide) h (fun h => ?_) (fun h => ?_)
      · skip
        refine k_sub [0] rfl ?_
        exact hk89 _ _ _ _ _ _ _ _ _ _ h
      · skip
        refine k_aload_n dX1_read_70 0 rfl rfl ?_
        refine k_iload_n dX1_read_71 1 rfl rfl ?_
        obtain ⟨r8, hr8, h⟩ := Option.bind_eq_some_iff.mp h
        refine k_calliV (As := [.int x3]) (st := []) (Lc := [(9, (ad 9, .inr (1, [.ref (ad 10), .int c_length, .ref (ad 11), .ref (ad 12), .ref (ad 13), .ref (ad 14), .ref (ad 15), .ref (ad 16), .int r8.2.1, .int r8.2.2.1]))), (11, (ad 11, .inl (cI, 16, .inl r8.2.2.2.1))), (12, (ad 12, .inl (cI, 16, .inl r8.2.2.2.2.1))), (13, (ad 13, .inl (cI, 16, .inl r8.2.2.2.2.2.1))), (14, (ad 14, .inl (cI, 18, .inl r8.2.2.2.2.2.2.1))), (15, (ad 15, .inl (cI, 40, .inl r8.2.2.2.2.2.2.2.1))), (16, (ad 16, .inl (cI, 40, .inl r8.2.2.2.2.2.2.2.2)))]) (L' := [(9, (ad 9, .inr (1, [.ref (ad 10), .int c_length, .ref (ad 11), .ref (ad 12), .ref (ad 13), .ref (ad 14), .ref (ad 15), .ref (ad 16), .int r8.2.1, .int r8.2.2.1]))), (10, (ad 10, .inl (cB, 80, .inl c_text))), (11, (ad 11, .inl (cI, 16, .inl r8.2.2.2.1))), (12, (ad 12, .inl (cI, 16, .inl r8.2.2.2.2.1))), (13, (ad 13, .inl (cI, 16, .inl r8.2.2.2.2.2.1))), (14, (ad 14, .inl (cI, 18, .inl r8.2.2.2.2.2.2.1))), (15, (ad 15, .inl (cI, 40, .inl r8.2.2.2.2.2.2.2.1))), (16, (ad 16, .inl (cI, 40, .inl r8.2.2.2.2.2.2.2.2)))]) (r := r8.1) gX1_read_X1_take rfl rfl rfl hyVX1_take ⟨Nat.le_of_ble_eq_true rfl, Nat.le_of_ble_eq_true rfl⟩ rfl rfl (Nat.le_of_ble_eq_true rfl) 9 rfl rfl dX1_read_72 (fun w z hw => c_X1_take (cI := cI) (cB := cB) (cJ := cJ) (cZ := cZ) (ad := ad) w z (hw 10) (hw 9) (hw 11) (hw 12) (hw 13) (hw 14) (hw 15) (hw 16) hr8) rfl rfl ?_
        refine k_istore_n (i := 3) (lv' := fun x => [(3, .int x), (0, .ref (ad 9)), (4, .int x4)]) dX1_read_75 rfl (Nat.le_of_ble_eq_true rfl) (fun _ => rfl) h (fun x3_9 h => ?_)
        refine k_iload_n dX1_read_76 0 rfl rfl ?_
        refine k_iconst (v := (-1)) dX1_read_77 (by decide) ?_
        refine k_icmp_ne 83 dX1_read_78 (by decide) h (fun h => ?_) (fun h => ?_)
        · skip
          refine k_iconst (v := 0) dX1_read_81 (by decide) ?_
          obtain ⟨hz, h⟩ := zc_some h
          obtain rfl := Option.some.inj h
          exact k_zret rfl hz dX1_read_82
        · skip
          refine k_iinc (i := 4) (lv' := fun x => [(4, .int x), (3, .int x3_9), (0, .ref (ad 9))]) dX1_read_83 2 rfl (Nat.le_of_ble_eq_true rfl) (fun _ => rfl) h (fun x4_11 h => ?_)
          refine k_goto 55 dX1_read_86 (by decide) ?_
          refine k_sub [2, 1, 0] rfl ?_
          exact hk55 _ _ _ _ _ _ _ _ _ _ _ _ h
set_option maxHeartbeats 4000000 in
set_option maxRecDepth 100000 in
theorem wjn_X1_read_89 {l : Launch} {D : va_G} {cI cB cJ cZ : ClassId} {ad : Nat → Nat} {ws : va_W} {z : Nat} {k_text : Nat → Int32} (E : ws[8]? = some (ad 8, .inl (cB, 80, .inl k_text))) {o : Int32 × (Int32) × (Int32) × (Int32) × (Nat → Int32) × (Nat → Int32) × (Nat → Int32) × (Nat → Int32) × (Nat → Int32) × (Nat → Int32) × (Nat → Int32)}   : ∀ (c_length : Int32) (c_size : Int32) (c_comments : Int32) (c_text : Nat → Int32) (c_starts : Nat → Int32) (c_lengths : Nat → Int32) (c_signs : Nat → Int32) (c_firstComments : Nat → Int32) (c_commentStarts : Nat → Int32) (c_commentEnds : Nat → Int32), jn_X1_read_89 k_text c_length c_size c_comments c_text c_starts c_lengths c_signs c_firstComments c_commentStarts c_commentEnds = some o → KW l xX1_read D (kT cI cB cJ cZ) ws z (kQi D (kT cI cB cJ cZ) o.1 [(9, (ad 9, .inr (1, [.ref (ad 10), .int o.2.1, .ref (ad 11), .ref (ad 12), .ref (ad 13), .ref (ad 14), .ref (ad 15), .ref (ad 16), .int o.2.2.1, .int o.2.2.2.1]))), (10, (ad 10, .inl (cB, 80, .inl o.2.2.2.2.1))), (11, (ad 11, .inl (cI, 16, .inl o.2.2.2.2.2.1))), (12, (ad 12, .inl (cI, 16, .inl o.2.2.2.2.2.2.1))), (13, (ad 13, .inl (cI, 16, .inl o.2.2.2.2.2.2.2.1))), (14, (ad 14, .inl (cI, 18, .inl o.2.2.2.2.2.2.2.2.1))), (15, (ad 15, .inl (cI, 40, .inl o.2.2.2.2.2.2.2.2.2.1))), (16, (ad 16, .inl (cI, 40, .inl o.2.2.2.2.2.2.2.2.2.2)))] ws z) 89 [(0, .ref (ad 9))] [] [(9, (ad 9, .inr (1, [.ref (ad 10), .int c_length, .ref (ad 11), .ref (ad 12), .ref (ad 13), .ref (ad 14), .ref (ad 15), .ref (ad 16), .int c_size, .int c_comments]))), (10, (ad 10, .inl (cB, 80, .inl c_text))), (11, (ad 11, .inl (cI, 16, .inl c_starts))), (12, (ad 12, .inl (cI, 16, .inl c_lengths))), (13, (ad 13, .inl (cI, 16, .inl c_signs))), (14, (ad 14, .inl (cI, 18, .inl c_firstComments))), (15, (ad 15, .inl (cI, 40, .inl c_commentStarts))), (16, (ad 16, .inl (cI, 40, .inl c_commentEnds)))] := by
  intro c_length c_size c_comments c_text c_starts c_lengths c_signs c_firstComments c_commentStarts c_commentEnds h
  unfold jn_X1_read_89 at h
  refine k_aload_n dX1_read_89 0 rfl rfl ?_
  refine k_get 9 5 rfl rfl qX1_read_wX1 (by decide) qX1_read_f29 rfl dX1_read_90 ?_
  refine k_aload_n dX1_read_93 0 rfl rfl ?_
  refine k_get 9 8 rfl rfl qX1_read_wX1 (by decide) qX1_read_f38 rfl dX1_read_94 ?_
  refine k_iconst (v := 1) dX1_read_97 (by decide) ?_
  refine k_iadd dX1_read_98 ?_
  refine k_aload_n dX1_read_99 0 rfl rfl ?_
  refine k_get 9 9 rfl rfl qX1_read_wX1 (by decide) qX1_read_f41 rfl dX1_read_100 ?_
  refine k_iast (L' := fun f => [(9, (ad 9, .inr (1, [.ref (ad 10), .int c_length, .ref (ad 11), .ref (ad 12), .ref (ad 13), .ref (ad 14), .ref (ad 15), .ref (ad 16), .int c_size, .int c_comments]))), (10, (ad 10, .inl (cB, 80, .inl c_text))), (11, (ad 11, .inl (cI, 16, .inl c_starts))), (12, (ad 12, .inl (cI, 16, .inl c_lengths))), (13, (ad 13, .inl (cI, 16, .inl c_signs))), (14, (ad 14, .inl (cI, 18, .inl f))), (15, (ad 15, .inl (cI, 40, .inl c_commentStarts))), (16, (ad 16, .inl (cI, 40, .inl c_commentEnds)))]) 14 0 rfl rfl rfl dX1_read_103 h (fun _ => rfl) (fun c_firstComments_12 h => ?_)
  refine k_iconst (v := 1) dX1_read_104 (by decide) ?_
  obtain ⟨hz, h⟩ := zc_some h
  obtain rfl := Option.some.inj h
  exact k_zret rfl hz dX1_read_105
set_option maxHeartbeats 4000000 in
set_option maxRecDepth 100000 in
/-- KindParser$Cut.read -/
theorem c_X1_read {l : Launch} {D : va_G} {cI cB cJ cZ : ClassId} {ad : Nat → Nat} (ws : va_W) (z : Nat) {k_text : Nat → Int32} {c_length : Int32} {c_size : Int32} {c_comments : Int32} {c_text : Nat → Int32} {c_starts : Nat → Int32} {c_lengths : Nat → Int32} {c_signs : Nat → Int32} {c_firstComments : Nat → Int32} {c_commentStarts : Nat → Int32} {c_commentEnds : Nat → Int32} (E : ws[8]? = some (ad 8, .inl (cB, 80, .inl k_text))) (e9 : ws[9]? = some (ad 9, .inr (1, [.ref (ad 10), .int c_length, .ref (ad 11), .ref (ad 12), .ref (ad 13), .ref (ad 14), .ref (ad 15), .ref (ad 16), .int c_size, .int c_comments]))) (e10 : ws[10]? = some (ad 10, .inl (cB, 80, .inl c_text))) (e11 : ws[11]? = some (ad 11, .inl (cI, 16, .inl c_starts))) (e12 : ws[12]? = some (ad 12, .inl (cI, 16, .inl c_lengths))) (e13 : ws[13]? = some (ad 13, .inl (cI, 16, .inl c_signs))) (e14 : ws[14]? = some (ad 14, .inl (cI, 18, .inl c_firstComments))) (e15 : ws[15]? = some (ad 15, .inl (cI, 40, .inl c_commentStarts))) (e16 : ws[16]? = some (ad 16, .inl (cI, 40, .inl c_commentEnds))) {a2 : Int32} {o : Int32 × (Int32) × (Int32) × (Int32) × (Nat → Int32) × (Nat → Int32) × (Nat → Int32) × (Nat → Int32) × (Nat → Int32) × (Nat → Int32) × (Nat → Int32)} (h : f_X1_read a2 k_text c_length c_size c_comments c_text c_starts c_lengths c_signs c_firstComments c_commentStarts c_commentEnds = some o) : Met l yX1_read wsX1_read rmX1_read (kPc D (kT cI cB cJ cZ) [.ref (ad 9), .ref (ad 8), .int a2] ws z) (kQi D (kT cI cB cJ cZ) o.1 [(9, (ad 9, .inr (1, [.ref (ad 10), .int o.2.1, .ref (ad 11), .ref (ad 12), .ref (ad 13), .ref (ad 14), .ref (ad 15), .ref (ad 16), .int o.2.2.1, .int o.2.2.2.1]))), (10, (ad 10, .inl (cB, 80, .inl o.2.2.2.2.1))), (11, (ad 11, .inl (cI, 16, .inl o.2.2.2.2.2.1))), (12, (ad 12, .inl (cI, 16, .inl o.2.2.2.2.2.2.1))), (13, (ad 13, .inl (cI, 16, .inl o.2.2.2.2.2.2.2.1))), (14, (ad 14, .inl (cI, 18, .inl o.2.2.2.2.2.2.2.2.1))), (15, (ad 15, .inl (cI, 40, .inl o.2.2.2.2.2.2.2.2.2.1))), (16, (ad 16, .inl (cI, 40, .inl o.2.2.2.2.2.2.2.2.2.2)))] ws z) 0 0 (va_A ws z) := by
  refine KW.met (rm := rmX1_read) (lv := [(0, .ref (ad 9)), (1, .ref (ad 8)), (2, .int a2)]) (L := [(9, (ad 9, .inr (1, [.ref (ad 10), .int c_length, .ref (ad 11), .ref (ad 12), .ref (ad 13), .ref (ad 14), .ref (ad 15), .ref (ad 16), .int c_size, .int c_comments]))), (10, (ad 10, .inl (cB, 80, .inl c_text))), (11, (ad 11, .inl (cI, 16, .inl c_starts))), (12, (ad 12, .inl (cI, 16, .inl c_lengths))), (13, (ad 13, .inl (cI, 16, .inl c_signs))), (14, (ad 14, .inl (cI, 18, .inl c_firstComments))), (15, (ad 15, .inl (cI, 40, .inl c_commentStarts))), (16, (ad 16, .inl (cI, 40, .inl c_commentEnds)))]) rfl (by decide) (Nat.le_of_ble_eq_true rfl) rfl (by intro q hq; simp only [List.mem_cons, List.not_mem_nil, or_false] at hq; rcases hq with rfl | rfl | rfl | rfl | rfl | rfl | rfl | rfl <;> assumption) ?_
  unfold f_X1_read at h
  show KW l xX1_read D (kT cI cB cJ cZ) ws z (kQi D (kT cI cB cJ cZ) o.1 [(9, (ad 9, .inr (1, [.ref (ad 10), .int o.2.1, .ref (ad 11), .ref (ad 12), .ref (ad 13), .ref (ad 14), .ref (ad 15), .ref (ad 16), .int o.2.2.1, .int o.2.2.2.1]))), (10, (ad 10, .inl (cB, 80, .inl o.2.2.2.2.1))), (11, (ad 11, .inl (cI, 16, .inl o.2.2.2.2.2.1))), (12, (ad 12, .inl (cI, 16, .inl o.2.2.2.2.2.2.1))), (13, (ad 13, .inl (cI, 16, .inl o.2.2.2.2.2.2.2.1))), (14, (ad 14, .inl (cI, 18, .inl o.2.2.2.2.2.2.2.2.1))), (15, (ad 15, .inl (cI, 40, .inl o.2.2.2.2.2.2.2.2.2.1))), (16, (ad 16, .inl (cI, 40, .inl o.2.2.2.2.2.2.2.2.2.2)))] ws z) 0 [(0, .ref (ad 9)), (1, .ref (ad 8)), (2, .int a2)] [] [(9, (ad 9, .inr (1, [.ref (ad 10), .int c_length, .ref (ad 11), .ref (ad 12), .ref (ad 13), .ref (ad 14), .ref (ad 15), .ref (ad 16), .int c_size, .int c_comments]))), (10, (ad 10, .inl (cB, 80, .inl c_text))), (11, (ad 11, .inl (cI, 16, .inl c_starts))), (12, (ad 12, .inl (cI, 16, .inl c_lengths))), (13, (ad 13, .inl (cI, 16, .inl c_signs))), (14, (ad 14, .inl (cI, 18, .inl c_firstComments))), (15, (ad 15, .inl (cI, 40, .inl c_commentStarts))), (16, (ad 16, .inl (cI, 40, .inl c_commentEnds)))]
  refine k_aload_n dX1_read_0 0 rfl rfl ?_
  refine k_iconst (v := 0) dX1_read_1 (by decide) ?_
  refine k_iload_n dX1_read_2 2 rfl rfl ?_
  refine k_aload_n dX1_read_3 1 rfl rfl ?_
  refine k_alen (v := 80) 8 1 E rfl (show Int32.ofNat 80 = 80 by decide) dX1_read_4 ?_
  refine k_bipush (v := 80) dX1_read_5 (by decide) ?_
  refine k_mmin qX1_read_m44 qX1_read_ms44 qX1_read_iMath qX1_read_mc44 (Nat.le_of_ble_eq_true rfl) (Nat.le_of_ble_eq_true rfl) dX1_read_7 ?_
  refine k_topi h (fun v1 h => ?_)
  refine k_mmin qX1_read_m44 qX1_read_ms44 qX1_read_iMath qX1_read_mc44 (Nat.le_of_ble_eq_true rfl) (Nat.le_of_ble_eq_true rfl) dX1_read_10 ?_
  refine k_topi h (fun v2 h => ?_)
  refine k_mmax qX1_read_m50 qX1_read_ms50 qX1_read_iMath qX1_read_mc50 (Nat.le_of_ble_eq_true rfl) (Nat.le_of_ble_eq_true rfl) dX1_read_13 ?_
  refine k_topi h (fun v3 h => ?_)
  refine k_put (L' := [(9, (ad 9, .inr (1, [.ref (ad 10), .int v3, .ref (ad 11), .ref (ad 12), .ref (ad 13), .ref (ad 14), .ref (ad 15), .ref (ad 16), .int c_size, .int c_comments]))), (10, (ad 10, .inl (cB, 80, .inl c_text))), (11, (ad 11, .inl (cI, 16, .inl c_starts))), (12, (ad 12, .inl (cI, 16, .inl c_lengths))), (13, (ad 13, .inl (cI, 16, .inl c_signs))), (14, (ad 14, .inl (cI, 18, .inl c_firstComments))), (15, (ad 15, .inl (cI, 40, .inl c_commentStarts))), (16, (ad 16, .inl (cI, 40, .inl c_commentEnds)))]) 9 1 rfl rfl qX1_read_wX1 (by decide) tyX1 tyX1_ok nmX1 rfl qX1_read_f15 rfl (tyX1_ok 1 (by decide)) rfl rfl (Nat.le_of_ble_eq_true rfl) dX1_read_16 rfl ?_
  refine k_aload_n dX1_read_19 1 rfl rfl ?_
  refine k_iconst (v := 0) dX1_read_20 (by decide) ?_
  refine k_aload_n dX1_read_21 0 rfl rfl ?_
  refine k_get 9 0 rfl rfl qX1_read_wX1 (by decide) qX1_read_f9 rfl dX1_read_22 ?_
  refine k_iconst (v := 0) dX1_read_25 (by decide) ?_
  refine k_aload_n dX1_read_26 0 rfl rfl ?_
  refine k_get 9 1 rfl rfl qX1_read_wX1 (by decide) qX1_read_f15 rfl dX1_read_27 ?_
  refine k_copyb (L' := fun f => [(9, (ad 9, .inr (1, [.ref (ad 10), .int v3, .ref (ad 11), .ref (ad 12), .ref (ad 13), .ref (ad 14), .ref (ad 15), .ref (ad 16), .int c_size, .int c_comments]))), (10, (ad 10, .inl (cB, 80, .inl f))), (11, (ad 11, .inl (cI, 16, .inl c_starts))), (12, (ad 12, .inl (cI, 16, .inl c_lengths))), (13, (ad 13, .inl (cI, 16, .inl c_signs))), (14, (ad 14, .inl (cI, 18, .inl c_firstComments))), (15, (ad 15, .inl (cI, 40, .inl c_commentStarts))), (16, (ad 16, .inl (cI, 40, .inl c_commentEnds)))]) 8 10 1 E rfl rfl rfl qX1_read_m53 qX1_read_acn qX1_read_acs qX1_read_iSys (Nat.le_of_ble_eq_true rfl) (Nat.le_of_ble_eq_true rfl) dX1_read_30 h (fun _ => rfl) (fun c_text_4 h => ?_)
  refine k_aload_n dX1_read_33 0 rfl rfl ?_
  refine k_iconst (v := 0) dX1_read_34 (by decide) ?_
  refine k_put (L' := [(9, (ad 9, .inr (1, [.ref (ad 10), .int v3, .ref (ad 11), .ref (ad 12), .ref (ad 13), .ref (ad 14), .ref (ad 15), .ref (ad 16), .int 0, .int c_comments]))), (10, (ad 10, .inl (cB, 80, .inl c_text_4))), (11, (ad 11, .inl (cI, 16, .inl c_starts))), (12, (ad 12, .inl (cI, 16, .inl c_lengths))), (13, (ad 13, .inl (cI, 16, .inl c_signs))), (14, (ad 14, .inl (cI, 18, .inl c_firstComments))), (15, (ad 15, .inl (cI, 40, .inl c_commentStarts))), (16, (ad 16, .inl (cI, 40, .inl c_commentEnds)))]) 9 8 rfl rfl qX1_read_wX1 (by decide) tyX1 tyX1_ok nmX1 rfl qX1_read_f38 rfl (tyX1_ok 8 (by decide)) rfl rfl (Nat.le_of_ble_eq_true rfl) dX1_read_35 rfl ?_
  refine k_aload_n dX1_read_38 0 rfl rfl ?_
  refine k_iconst (v := 0) dX1_read_39 (by decide) ?_
  refine k_put (L' := [(9, (ad 9, .inr (1, [.ref (ad 10), .int v3, .ref (ad 11), .ref (ad 12), .ref (ad 13), .ref (ad 14), .ref (ad 15), .ref (ad 16), .int 0, .int 0]))), (10, (ad 10, .inl (cB, 80, .inl c_text_4))), (11, (ad 11, .inl (cI, 16, .inl c_starts))), (12, (ad 12, .inl (cI, 16, .inl c_lengths))), (13, (ad 13, .inl (cI, 16, .inl c_signs))), (14, (ad 14, .inl (cI, 18, .inl c_firstComments))), (15, (ad 15, .inl (cI, 40, .inl c_commentStarts))), (16, (ad 16, .inl (cI, 40, .inl c_commentEnds)))]) 9 9 rfl rfl qX1_read_wX1 (by decide) tyX1 tyX1_ok nmX1 rfl qX1_read_f41 rfl (tyX1_ok 9 (by decide)) rfl rfl (Nat.le_of_ble_eq_true rfl) dX1_read_40 rfl ?_
  refine k_aload_n dX1_read_43 0 rfl rfl ?_
  refine k_get 9 5 rfl rfl qX1_read_wX1 (by decide) qX1_read_f29 rfl dX1_read_44 ?_
  refine k_iconst (v := 0) dX1_read_47 (by decide) ?_
  refine k_iconst (v := 0) dX1_read_48 (by decide) ?_
  refine k_iast (L' := fun f => [(9, (ad 9, .inr (1, [.ref (ad 10), .int v3, .ref (ad 11), .ref (ad 12), .ref (ad 13), .ref (ad 14), .ref (ad 15), .ref (ad 16), .int 0, .int 0]))), (10, (ad 10, .inl (cB, 80, .inl c_text_4))), (11, (ad 11, .inl (cI, 16, .inl c_starts))), (12, (ad 12, .inl (cI, 16, .inl c_lengths))), (13, (ad 13, .inl (cI, 16, .inl c_signs))), (14, (ad 14, .inl (cI, 18, .inl f))), (15, (ad 15, .inl (cI, 40, .inl c_commentStarts))), (16, (ad 16, .inl (cI, 40, .inl c_commentEnds)))]) 14 0 rfl rfl rfl dX1_read_49 h (fun _ => rfl) (fun c_firstComments_5 h => ?_)
  refine k_iconst (v := 0) dX1_read_50 (by decide) ?_
  refine k_istore_n (i := 3) (lv' := fun x => [(3, .int x), (0, .ref (ad 9)), (1, .ref (ad 8)), (2, .int a2)]) dX1_read_51 rfl (Nat.le_of_ble_eq_true rfl) (fun _ => rfl) h (fun x3_6 h => ?_)
  refine k_iconst (v := 0) dX1_read_52 (by decide) ?_
  refine k_istore (i := 4) (lv' := fun x => [(4, .int x), (3, .int x3_6), (0, .ref (ad 9)), (1, .ref (ad 8)), (2, .int a2)]) dX1_read_53 (Nat.le_of_ble_eq_true rfl) (fun _ => rfl) h (fun x4_7 h => ?_)
  refine k_sub [2, 1, 0] rfl ?_
  refine wlp_X1_read_55 (cI := cI) (cB := cB) (cJ := cJ) (cZ := cZ) (ad := ad) E ?_ FU _ _ _ _ _ _ _ _ _ _ _ _ h
  · intro c_length c_size c_comments c_text c_starts c_lengths c_signs c_firstComments c_commentStarts c_commentEnds h
    refine k_sub [0] rfl ?_
    exact wjn_X1_read_89 (cI := cI) (cB := cB) (cJ := cJ) (cZ := cZ) (ad := ad) E  _ _ _ _ _ _ _ _ _ _ h
abbrev rmX1_lengthOf : Room := { frames := 0, cells := 0, slots := 0, locals := 0 }
abbrev xX1_lengthOf : KX := (rmX1_lengthOf, cX1_lengthOf, 2, some .int, RX1, wsX1_lengthOf)
theorem hySX1_lengthOf : yX1_lengthOf.cls ≠ "java/lang/invoke/MethodHandle" ∧ yX1_lengthOf.cls ≠ "java/lang/invoke/VarHandle" ∧ (parseMethodDescriptor yX1_lengthOf.desc).map (fun d => d.parameters.length) = some 1 := by decide +kernel
theorem hyVX1_lengthOf : yX1_lengthOf.cls = RX1 ∧ yX1_lengthOf.cls ≠ "java/lang/invoke/MethodHandle" ∧ yX1_lengthOf.cls ≠ "java/lang/invoke/VarHandle" ∧ (parseMethodDescriptor yX1_lengthOf.desc).map (fun d => d.parameters.length) = some 1 := ⟨rfl, hySX1_lengthOf⟩
theorem qX1_lengthOf_wX1 : ∀ w ∈ u_ws RX1 TX1 10, w ∈ wsX1_lengthOf := by decide +kernel
theorem qX1_lengthOf_f38 : Cond.fieldLink RX1 38 "KindParser$Cut" "size" "I" ∈ wsX1_lengthOf := by decide +kernel
theorem qX1_lengthOf_f23 : Cond.fieldLink RX1 23 "KindParser$Cut" "lengths" "[I" ∈ wsX1_lengthOf := by decide +kernel
set_option maxHeartbeats 4000000 in
set_option maxRecDepth 100000 in
theorem wjn_X1_lengthOf_22 {l : Launch} {D : va_G} {cI cB cJ cZ : ClassId} {ad : Nat → Nat} {ws : va_W} {z : Nat} {c_length : Int32} {c_size : Int32} {c_comments : Int32} {c_lengths : Nat → Int32} (E : ws[9]? = some (ad 9, .inr (1, [.ref (ad 10), .int c_length, .ref (ad 11), .ref (ad 12), .ref (ad 13), .ref (ad 14), .ref (ad 15), .ref (ad 16), .int c_size, .int c_comments])) ∧ ws[12]? = some (ad 12, .inl (cI, 16, .inl c_lengths))) {o : Int32}   : ∀ (s0 : Int32), jn_X1_lengthOf_22 c_size c_lengths s0 = some o → KW l xX1_lengthOf D (kT cI cB cJ cZ) ws z (kQi D (kT cI cB cJ cZ) o [] ws z) 22 [] [.int s0] [] := by
  intro s0 h
  unfold jn_X1_lengthOf_22 at h
  obtain rfl := Option.some.inj h
  exact k_iret rfl dX1_lengthOf_22
set_option maxHeartbeats 4000000 in
set_option maxRecDepth 100000 in
theorem wjn_X1_lengthOf_21 {l : Launch} {D : va_G} {cI cB cJ cZ : ClassId} {ad : Nat → Nat} {ws : va_W} {z : Nat} {c_length : Int32} {c_size : Int32} {c_comments : Int32} {c_lengths : Nat → Int32} (E : ws[9]? = some (ad 9, .inr (1, [.ref (ad 10), .int c_length, .ref (ad 11), .ref (ad 12), .ref (ad 13), .ref (ad 14), .ref (ad 15), .ref (ad 16), .int c_size, .int c_comments])) ∧ ws[12]? = some (ad 12, .inl (cI, 16, .inl c_lengths))) {o : Int32}   : jn_X1_lengthOf_21 c_size c_lengths = some o → KW l xX1_lengthOf D (kT cI cB cJ cZ) ws z (kQi D (kT cI cB cJ cZ) o [] ws z) 21 [] [] [] := by
  intro h
  unfold jn_X1_lengthOf_21 at h
  refine k_iconst (v := 0) dX1_lengthOf_21 (by decide) ?_
  refine k_sub [] rfl ?_
  exact wjn_X1_lengthOf_22 (cI := cI) (cB := cB) (cJ := cJ) (cZ := cZ) (ad := ad) E  _ h
set_option maxHeartbeats 4000000 in
set_option maxRecDepth 100000 in
/-- KindParser$Cut.lengthOf -/
theorem c_X1_lengthOf {l : Launch} {D : va_G} {cI cB cJ cZ : ClassId} {ad : Nat → Nat} (ws : va_W) (z : Nat) {c_length : Int32} {c_size : Int32} {c_comments : Int32} {c_lengths : Nat → Int32} (E : ws[9]? = some (ad 9, .inr (1, [.ref (ad 10), .int c_length, .ref (ad 11), .ref (ad 12), .ref (ad 13), .ref (ad 14), .ref (ad 15), .ref (ad 16), .int c_size, .int c_comments])) ∧ ws[12]? = some (ad 12, .inl (cI, 16, .inl c_lengths)))  {a1 : Int32} {o : Int32} (h : f_X1_lengthOf a1 c_size c_lengths = some o) : Met l yX1_lengthOf wsX1_lengthOf rmX1_lengthOf (kPc D (kT cI cB cJ cZ) [.ref (ad 9), .int a1] ws z) (kQi D (kT cI cB cJ cZ) o [] ws z) 0 0 (va_A ws z) := by
  refine KW.met (rm := rmX1_lengthOf) (lv := [(0, .ref (ad 9)), (1, .int a1)]) (L := []) rfl (by decide) (Nat.le_of_ble_eq_true rfl) rfl (fun q hq => by cases hq) ?_
  unfold f_X1_lengthOf at h
  show KW l xX1_lengthOf D (kT cI cB cJ cZ) ws z (kQi D (kT cI cB cJ cZ) o [] ws z) 0 [(0, .ref (ad 9)), (1, .int a1)] [] []
  refine k_iload_n dX1_lengthOf_0 1 rfl rfl ?_
  refine k_if_lt 21 dX1_lengthOf_1 (by decide) h (fun h => ?_) (fun h => ?_)
  · skip
    refine k_sub [] rfl ?_
    exact wjn_X1_lengthOf_21 (cI := cI) (cB := cB) (cJ := cJ) (cZ := cZ) (ad := ad) E   h
  · skip
    refine k_iload_n dX1_lengthOf_4 1 rfl rfl ?_
    refine k_aload_n dX1_lengthOf_5 0 rfl rfl ?_
    refine k_get 9 8 E.1 rfl qX1_lengthOf_wX1 (by decide) qX1_lengthOf_f38 rfl dX1_lengthOf_6 ?_
    refine k_icmp_ge 21 dX1_lengthOf_9 (by decide) h (fun h => ?_) (fun h => ?_)
    · skip
      refine k_sub [] rfl ?_
      exact wjn_X1_lengthOf_21 (cI := cI) (cB := cB) (cJ := cJ) (cZ := cZ) (ad := ad) E   h
    · skip
      refine k_aload_n dX1_lengthOf_12 0 rfl rfl ?_
      refine k_get 9 3 E.1 rfl qX1_lengthOf_wX1 (by decide) qX1_lengthOf_f23 rfl dX1_lengthOf_13 ?_
      refine k_iload_n dX1_lengthOf_16 1 rfl rfl ?_
      refine k_iald 12 0 E.2 rfl dX1_lengthOf_17 h (fun v1 h => ?_)
      refine k_goto 22 dX1_lengthOf_18 (by decide) ?_
      refine k_sub [] rfl ?_
      exact wjn_X1_lengthOf_22 (cI := cI) (cB := cB) (cJ := cJ) (cZ := cZ) (ad := ad) E  _ h
abbrev rmX1_commentsOf : Room := { frames := 0, cells := 0, slots := 0, locals := 0 }
abbrev xX1_commentsOf : KX := (rmX1_commentsOf, cX1_commentsOf, 2, some .int, RX1, wsX1_commentsOf)
theorem hySX1_commentsOf : yX1_commentsOf.cls ≠ "java/lang/invoke/MethodHandle" ∧ yX1_commentsOf.cls ≠ "java/lang/invoke/VarHandle" ∧ (parseMethodDescriptor yX1_commentsOf.desc).map (fun d => d.parameters.length) = some 1 := by decide +kernel
theorem hyVX1_commentsOf : yX1_commentsOf.cls = RX1 ∧ yX1_commentsOf.cls ≠ "java/lang/invoke/MethodHandle" ∧ yX1_commentsOf.cls ≠ "java/lang/invoke/VarHandle" ∧ (parseMethodDescriptor yX1_commentsOf.desc).map (fun d => d.parameters.length) = some 1 := ⟨rfl, hySX1_commentsOf⟩
theorem qX1_commentsOf_wX1 : ∀ w ∈ u_ws RX1 TX1 10, w ∈ wsX1_commentsOf := by decide +kernel
theorem qX1_commentsOf_f38 : Cond.fieldLink RX1 38 "KindParser$Cut" "size" "I" ∈ wsX1_commentsOf := by decide +kernel
theorem qX1_commentsOf_f29 : Cond.fieldLink RX1 29 "KindParser$Cut" "firstComments" "[I" ∈ wsX1_commentsOf := by decide +kernel
set_option maxHeartbeats 4000000 in
set_option maxRecDepth 100000 in
theorem wjn_X1_commentsOf_31 {l : Launch} {D : va_G} {cI cB cJ cZ : ClassId} {ad : Nat → Nat} {ws : va_W} {z : Nat} {c_length : Int32} {c_size : Int32} {c_comments : Int32} {c_firstComments : Nat → Int32} (E : ws[9]? = some (ad 9, .inr (1, [.ref (ad 10), .int c_length, .ref (ad 11), .ref (ad 12), .ref (ad 13), .ref (ad 14), .ref (ad 15), .ref (ad 16), .int c_size, .int c_comments])) ∧ ws[14]? = some (ad 14, .inl (cI, 18, .inl c_firstComments))) {o : Int32}   : ∀ (s0 : Int32), jn_X1_commentsOf_31 c_size c_firstComments s0 = some o → KW l xX1_commentsOf D (kT cI cB cJ cZ) ws z (kQi D (kT cI cB cJ cZ) o [] ws z) 31 [] [.int s0] [] := by
  intro s0 h
  unfold jn_X1_commentsOf_31 at h
  obtain rfl := Option.some.inj h
  exact k_iret rfl dX1_commentsOf_31
set_option maxHeartbeats 4000000 in
set_option maxRecDepth 100000 in
theorem wjn_X1_commentsOf_30 {l : Launch} {D : va_G} {cI cB cJ cZ : ClassId} {ad : Nat → Nat} {ws : va_W} {z : Nat} {c_length : Int32} {c_size : Int32} {c_comments : Int32} {c_firstComments : Nat → Int32} (E : ws[9]? = some (ad 9, .inr (1, [.ref (ad 10), .int c_length, .ref (ad 11), .ref (ad 12), .ref (ad 13), .ref (ad 14), .ref (ad 15), .ref (ad 16), .int c_size, .int c_comments])) ∧ ws[14]? = some (ad 14, .inl (cI, 18, .inl c_firstComments))) {o : Int32}   : jn_X1_commentsOf_30 c_size c_firstComments = some o → KW l xX1_commentsOf D (kT cI cB cJ cZ) ws z (kQi D (kT cI cB cJ cZ) o [] ws z) 30 [] [] [] := by
  intro h
  unfold jn_X1_commentsOf_30 at h
  refine k_iconst (v := 0) dX1_commentsOf_30 (by decide) ?_
  refine k_sub [] rfl ?_
  exact wjn_X1_commentsOf_31 (cI := cI) (cB := cB) (cJ := cJ) (cZ := cZ) (ad := ad) E  _ h
set_option maxHeartbeats 4000000 in
set_option maxRecDepth 100000 in
/-- KindParser$Cut.commentsOf -/
theorem c_X1_commentsOf {l : Launch} {D : va_G} {cI cB cJ cZ : ClassId} {ad : Nat → Nat} (ws : va_W) (z : Nat) {c_length : Int32} {c_size : Int32} {c_comments : Int32} {c_firstComments : Nat → Int32} (E : ws[9]? = some (ad 9, .inr (1, [.ref (ad 10), .int c_length, .ref (ad 11), .ref (ad 12), .ref (ad 13), .ref (ad 14), .ref (ad 15), .ref (ad 16), .int c_size, .int c_comments])) ∧ ws[14]? = some (ad 14, .inl (cI, 18, .inl c_firstComments)))  {a1 : Int32} {o : Int32} (h : f_X1_commentsOf a1 c_size c_firstComments = some o) : Met l yX1_commentsOf wsX1_commentsOf rmX1_commentsOf (kPc D (kT cI cB cJ cZ) [.ref (ad 9), .int a1] ws z) (kQi D (kT cI cB cJ cZ) o [] ws z) 0 0 (va_A ws z) := by
  refine KW.met (rm := rmX1_commentsOf) (lv := [(0, .ref (ad 9)), (1, .int a1)]) (L := []) rfl (by decide) (Nat.le_of_ble_eq_true rfl) rfl (fun q hq => by cases hq) ?_
  unfold f_X1_commentsOf at h
  show KW l xX1_commentsOf D (kT cI cB cJ cZ) ws z (kQi D (kT cI cB cJ cZ) o [] ws z) 0 [(0, .ref (ad 9)), (1, .int a1)] [] []
  refine k_iload_n dX1_commentsOf_0 1 rfl rfl ?_
  refine k_if_lt 30 dX1_commentsOf_1 (by decide) h (fun h => ?_) (fun h => ?_)
  · skip
    refine k_sub [] rfl ?_
    exact wjn_X1_commentsOf_30 (cI := cI) (cB := cB) (cJ := cJ) (cZ := cZ) (ad := ad) E   h
  · skip
    refine k_iload_n dX1_commentsOf_4 1 rfl rfl ?_
    refine k_aload_n dX1_commentsOf_5 0 rfl rfl ?_
    refine k_get 9 8 E.1 rfl qX1_commentsOf_wX1 (by decide) qX1_commentsOf_f38 rfl dX1_commentsOf_6 ?_
    refine k_icmp_gt 30 dX1_commentsOf_9 (by decide) h (fun h => ?_) (fun h => ?_)
    · skip
      refine k_sub [] rfl ?_
      exact wjn_X1_commentsOf_30 (cI := cI) (cB := cB) (cJ := cJ) (cZ := cZ) (ad := ad) E   h
    · skip
      refine k_aload_n dX1_commentsOf_12 0 rfl rfl ?_
      refine k_get 9 5 E.1 rfl qX1_commentsOf_wX1 (by decide) qX1_commentsOf_f29 rfl dX1_commentsOf_13 ?_
      refine k_iload_n dX1_commentsOf_16 1 rfl rfl ?_
      refine k_iconst (v := 1) dX1_commentsOf_17 (by decide) ?_
      refine k_iadd dX1_commentsOf_18 ?_
      refine k_iald 14 0 E.2 rfl dX1_commentsOf_19 h (fun v1 h => ?_)
      refine k_aload_n dX1_commentsOf_20 0 rfl rfl ?_
      refine k_get 9 5 E.1 rfl qX1_commentsOf_wX1 (by decide) qX1_commentsOf_f29 rfl dX1_commentsOf_21 ?_
      refine k_iload_n dX1_commentsOf_24 1 rfl rfl ?_
      refine k_iald 14 0 E.2 rfl dX1_commentsOf_25 h (fun v2 h => ?_)
      refine k_isub dX1_commentsOf_26 ?_
      refine k_goto 31 dX1_commentsOf_27 (by decide) ?_
      refine k_sub [] rfl ?_
      exact wjn_X1_commentsOf_31 (cI := cI) (cB := cB) (cJ := cJ) (cZ := cZ) (ad := ad) E  _ h
abbrev rmX1_beginsWithDigit : Room := { frames := 1, cells := 0, slots := 0, locals := 21 }
abbrev xX1_beginsWithDigit : KX := (rmX1_beginsWithDigit, cX1_beginsWithDigit, 2, some .boolean, RX1, wsX1_beginsWithDigit)
theorem hySX1_beginsWithDigit : yX1_beginsWithDigit.cls ≠ "java/lang/invoke/MethodHandle" ∧ yX1_beginsWithDigit.cls ≠ "java/lang/invoke/VarHandle" ∧ (parseMethodDescriptor yX1_beginsWithDigit.desc).map (fun d => d.parameters.length) = some 1 := by decide +kernel
theorem hyVX1_beginsWithDigit : yX1_beginsWithDigit.cls = RX1 ∧ yX1_beginsWithDigit.cls ≠ "java/lang/invoke/MethodHandle" ∧ yX1_beginsWithDigit.cls ≠ "java/lang/invoke/VarHandle" ∧ (parseMethodDescriptor yX1_beginsWithDigit.desc).map (fun d => d.parameters.length) = some 1 := ⟨rfl, hySX1_beginsWithDigit⟩
theorem qX1_beginsWithDigit_wX1 : ∀ w ∈ u_ws RX1 TX1 10, w ∈ wsX1_beginsWithDigit := by decide +kernel
theorem qX1_beginsWithDigit_f38 : Cond.fieldLink RX1 38 "KindParser$Cut" "size" "I" ∈ wsX1_beginsWithDigit := by decide +kernel
theorem qX1_beginsWithDigit_f9 : Cond.fieldLink RX1 9 "KindParser$Cut" "text" "[B" ∈ wsX1_beginsWithDigit := by decide +kernel
theorem qX1_beginsWithDigit_f19 : Cond.fieldLink RX1 19 "KindParser$Cut" "starts" "[I" ∈ wsX1_beginsWithDigit := by decide +kernel
theorem qX1_beginsWithDigit_iX5 : Cond.initialized RX5 ∈ wsX1_beginsWithDigit := by decide +kernel
theorem qX1_beginsWithDigit_sX5_isDigit : Cond.static yX5_isDigit ∈ wsX1_beginsWithDigit := by decide +kernel
set_option maxHeartbeats 4000000 in
set_option maxRecDepth 100000 in
theorem wjn_X1_beginsWithDigit_42 {l : Launch} {D : va_G} {cI cB cJ cZ : ClassId} {ad : Nat → Nat} {ws : va_W} {z : Nat} {c_length : Int32} {c_size : Int32} {c_comments : Int32} {c_text : Nat → Int32} {c_starts : Nat → Int32} {c_firstComments : Nat → Int32} (E : ws[9]? = some (ad 9, .inr (1, [.ref (ad 10), .int c_length, .ref (ad 11), .ref (ad 12), .ref (ad 13), .ref (ad 14), .ref (ad 15), .ref (ad 16), .int c_size, .int c_comments])) ∧ ws[10]? = some (ad 10, .inl (cB, 80, .inl c_text)) ∧ ws[11]? = some (ad 11, .inl (cI, 16, .inl c_starts)) ∧ ws[14]? = some (ad 14, .inl (cI, 18, .inl c_firstComments))) {o : Int32}   : ∀ (s0 : Int32), jn_X1_beginsWithDigit_42 c_size c_text c_starts c_firstComments s0 = some o → KW l xX1_beginsWithDigit D (kT cI cB cJ cZ) ws z (kQi D (kT cI cB cJ cZ) o [] ws z) 42 [] [.int s0] [] := by
  intro s0 h
  unfold jn_X1_beginsWithDigit_42 at h
  obtain ⟨hz, h⟩ := zc_some h
  obtain rfl := Option.some.inj h
  exact k_zret rfl hz dX1_beginsWithDigit_42
set_option maxHeartbeats 4000000 in
set_option maxRecDepth 100000 in
theorem wjn_X1_beginsWithDigit_41 {l : Launch} {D : va_G} {cI cB cJ cZ : ClassId} {ad : Nat → Nat} {ws : va_W} {z : Nat} {c_length : Int32} {c_size : Int32} {c_comments : Int32} {c_text : Nat → Int32} {c_starts : Nat → Int32} {c_firstComments : Nat → Int32} (E : ws[9]? = some (ad 9, .inr (1, [.ref (ad 10), .int c_length, .ref (ad 11), .ref (ad 12), .ref (ad 13), .ref (ad 14), .ref (ad 15), .ref (ad 16), .int c_size, .int c_comments])) ∧ ws[10]? = some (ad 10, .inl (cB, 80, .inl c_text)) ∧ ws[11]? = some (ad 11, .inl (cI, 16, .inl c_starts)) ∧ ws[14]? = some (ad 14, .inl (cI, 18, .inl c_firstComments))) {o : Int32}   : jn_X1_beginsWithDigit_41 c_size c_text c_starts c_firstComments = some o → KW l xX1_beginsWithDigit D (kT cI cB cJ cZ) ws z (kQi D (kT cI cB cJ cZ) o [] ws z) 41 [] [] [] := by
  intro h
  unfold jn_X1_beginsWithDigit_41 at h
  refine k_iconst (v := 0) dX1_beginsWithDigit_41 (by decide) ?_
  refine k_sub [] rfl ?_
  exact wjn_X1_beginsWithDigit_42 (cI := cI) (cB := cB) (cJ := cJ) (cZ := cZ) (ad := ad) E  _ h
set_option maxHeartbeats 4000000 in
set_option maxRecDepth 100000 in
/-- KindParser$Cut.beginsWithDigit -/
theorem c_X1_beginsWithDigit {l : Launch} {D : va_G} {cI cB cJ cZ : ClassId} {ad : Nat → Nat} (ws : va_W) (z : Nat) {c_length : Int32} {c_size : Int32} {c_comments : Int32} {c_text : Nat → Int32} {c_starts : Nat → Int32} {c_firstComments : Nat → Int32} (E : ws[9]? = some (ad 9, .inr (1, [.ref (ad 10), .int c_length, .ref (ad 11), .ref (ad 12), .ref (ad 13), .ref (ad 14), .ref (ad 15), .ref (ad 16), .int c_size, .int c_comments])) ∧ ws[10]? = some (ad 10, .inl (cB, 80, .inl c_text)) ∧ ws[11]? = some (ad 11, .inl (cI, 16, .inl c_starts)) ∧ ws[14]? = some (ad 14, .inl (cI, 18, .inl c_firstComments)))  {a1 : Int32} {o : Int32} (h : f_X1_beginsWithDigit a1 c_size c_text c_starts c_firstComments = some o) : Met l yX1_beginsWithDigit wsX1_beginsWithDigit rmX1_beginsWithDigit (kPc D (kT cI cB cJ cZ) [.ref (ad 9), .int a1] ws z) (kQi D (kT cI cB cJ cZ) o [] ws z) 0 0 (va_A ws z) := by
  refine KW.met (rm := rmX1_beginsWithDigit) (lv := [(0, .ref (ad 9)), (1, .int a1)]) (L := []) rfl (by decide) (Nat.le_of_ble_eq_true rfl) rfl (fun q hq => by cases hq) ?_
  unfold f_X1_beginsWithDigit at h
  show KW l xX1_beginsWithDigit D (kT cI cB cJ cZ) ws z (kQi D (kT cI cB cJ cZ) o [] ws z) 0 [(0, .ref (ad 9)), (1, .int a1)] [] []
  refine k_iload_n dX1_beginsWithDigit_0 1 rfl rfl ?_
  refine k_if_lt 41 dX1_beginsWithDigit_1 (by decide) h (fun h => ?_) (fun h => ?_)
  · skip
    refine k_sub [] rfl ?_
    exact wjn_X1_beginsWithDigit_41 (cI := cI) (cB := cB) (cJ := cJ) (cZ := cZ) (ad := ad) E   h
  · skip
    refine k_iload_n dX1_beginsWithDigit_4 1 rfl rfl ?_
    refine k_aload_n dX1_beginsWithDigit_5 0 rfl rfl ?_
    refine k_get 9 8 E.1 rfl qX1_beginsWithDigit_wX1 (by decide) qX1_beginsWithDigit_f38 rfl dX1_beginsWithDigit_6 ?_
    refine k_icmp_ge 41 dX1_beginsWithDigit_9 (by decide) h (fun h => ?_) (fun h => ?_)
    · skip
      refine k_sub [] rfl ?_
      exact wjn_X1_beginsWithDigit_41 (cI := cI) (cB := cB) (cJ := cJ) (cZ := cZ) (ad := ad) E   h
    · skip
      refine k_aload_n dX1_beginsWithDigit_12 0 rfl rfl ?_
      refine k_iload_n dX1_beginsWithDigit_13 1 rfl rfl ?_
      obtain ⟨r2, hr2, h⟩ := Option.bind_eq_some_iff.mp h
      refine k_calliV (As := [.int a1]) (st := []) (Lc := []) (L' := []) (r := r2) gX1_beginsWithDigit_X1_commentsOf rfl rfl rfl hyVX1_commentsOf ⟨Nat.le_of_ble_eq_true rfl, Nat.le_of_ble_eq_true rfl⟩ rfl rfl (Nat.le_of_ble_eq_true rfl) 9 E.1 rfl dX1_beginsWithDigit_14 (fun w z hw => c_X1_commentsOf (cI := cI) (cB := cB) (cJ := cJ) (cZ := cZ) (ad := ad) w z ⟨((hw 9).trans E.1), ((hw 14).trans E.2.2.2)⟩  hr2) rfl rfl ?_
      refine k_if_ne 41 dX1_beginsWithDigit_17 (by decide) h (fun h => ?_) (fun h => ?_)
      · skip
        refine k_aload_n dX1_beginsWithDigit_20 0 rfl rfl ?_
        refine k_get 9 0 E.1 rfl qX1_beginsWithDigit_wX1 (by decide) qX1_beginsWithDigit_f9 rfl dX1_beginsWithDigit_21 ?_
        refine k_aload_n dX1_beginsWithDigit_24 0 rfl rfl ?_
        refine k_get 9 2 E.1 rfl qX1_beginsWithDigit_wX1 (by decide) qX1_beginsWithDigit_f19 rfl dX1_beginsWithDigit_25 ?_
        refine k_iload_n dX1_beginsWithDigit_28 1 rfl rfl ?_
        refine k_iald 11 0 E.2.2.1 rfl dX1_beginsWithDigit_29 h (fun v3 h => ?_)
        refine k_bald 10 1 E.2.1 rfl dX1_beginsWithDigit_30 h (fun v4 h => ?_)
        obtain ⟨r5, hr5, h⟩ := Option.bind_eq_some_iff.mp h
        refine k_calliSN (As := [.int v4]) (st := []) (Lc := []) (L' := []) (r := r5) (host := "KindParser") gX1_beginsWithDigit_X5_isDigit_n72 (by decide +kernel) qX1_beginsWithDigit_iX5 qX1_beginsWithDigit_sX5_isDigit rfl rfl rfl hySX5_isDigit ⟨Nat.le_of_ble_eq_true rfl, Nat.le_of_ble_eq_true rfl⟩ rfl rfl (Nat.le_of_ble_eq_true rfl) dX1_beginsWithDigit_31 (fun w z hw => c_X5_isDigit (cI := cI) (cB := cB) (cJ := cJ) (cZ := cZ) (ad := ad) w z trivial  hr5) rfl rfl ?_
        refine k_if_eq 41 dX1_beginsWithDigit_34 (by decide) h (fun h => ?_) (fun h => ?_)
        · skip
          refine k_sub [] rfl ?_
          exact wjn_X1_beginsWithDigit_41 (cI := cI) (cB := cB) (cJ := cJ) (cZ := cZ) (ad := ad) E   h
        · skip
          refine k_iconst (v := 1) dX1_beginsWithDigit_37 (by decide) ?_
          refine k_goto 42 dX1_beginsWithDigit_38 (by decide) ?_
          refine k_sub [] rfl ?_
          exact wjn_X1_beginsWithDigit_42 (cI := cI) (cB := cB) (cJ := cJ) (cZ := cZ) (ad := ad) E  _ h
      · skip
        refine k_sub [] rfl ?_
        exact wjn_X1_beginsWithDigit_41 (cI := cI) (cB := cB) (cJ := cJ) (cZ := cZ) (ad := ad) E   h
abbrev rmX1_widthOf : Room := { frames := 1, cells := 0, slots := 0, locals := 21 }
abbrev xX1_widthOf : KX := (rmX1_widthOf, cX1_widthOf, 5, some .int, RX1, wsX1_widthOf)
theorem hySX1_widthOf : yX1_widthOf.cls ≠ "java/lang/invoke/MethodHandle" ∧ yX1_widthOf.cls ≠ "java/lang/invoke/VarHandle" ∧ (parseMethodDescriptor yX1_widthOf.desc).map (fun d => d.parameters.length) = some 1 := by decide +kernel
theorem hyVX1_widthOf : yX1_widthOf.cls = RX1 ∧ yX1_widthOf.cls ≠ "java/lang/invoke/MethodHandle" ∧ yX1_widthOf.cls ≠ "java/lang/invoke/VarHandle" ∧ (parseMethodDescriptor yX1_widthOf.desc).map (fun d => d.parameters.length) = some 1 := ⟨rfl, hySX1_widthOf⟩
theorem qX1_widthOf_wX1 : ∀ w ∈ u_ws RX1 TX1 10, w ∈ wsX1_widthOf := by decide +kernel
theorem qX1_widthOf_f29 : Cond.fieldLink RX1 29 "KindParser$Cut" "firstComments" "[I" ∈ wsX1_widthOf := by decide +kernel
theorem qX1_widthOf_f35 : Cond.fieldLink RX1 35 "KindParser$Cut" "commentEnds" "[I" ∈ wsX1_widthOf := by decide +kernel
theorem qX1_widthOf_f32 : Cond.fieldLink RX1 32 "KindParser$Cut" "commentStarts" "[I" ∈ wsX1_widthOf := by decide +kernel
set_option maxHeartbeats 4000000 in
set_option maxRecDepth 100000 in
theorem wlp_X1_widthOf_27 {l : Launch} {D : va_G} {cI cB cJ cZ : ClassId} {ad : Nat → Nat} {ws : va_W} {z : Nat} {c_length : Int32} {c_size : Int32} {c_comments : Int32} {c_lengths : Nat → Int32} {c_firstComments : Nat → Int32} {c_commentStarts : Nat → Int32} {c_commentEnds : Nat → Int32} (E : ws[9]? = some (ad 9, .inr (1, [.ref (ad 10), .int c_length, .ref (ad 11), .ref (ad 12), .ref (ad 13), .ref (ad 14), .ref (ad 15), .ref (ad 16), .int c_size, .int c_comments])) ∧ ws[12]? = some (ad 12, .inl (cI, 16, .inl c_lengths)) ∧ ws[14]? = some (ad 14, .inl (cI, 18, .inl c_firstComments)) ∧ ws[15]? = some (ad 15, .inl (cI, 40, .inl c_commentStarts)) ∧ ws[16]? = some (ad 16, .inl (cI, 40, .inl c_commentEnds))) {o : Int32} {k59 : (Int32) → Option (Int32)} (hk59 : ∀ (x2 : Int32), k59 x2 = some o → KW l xX1_widthOf D (kT cI cB cJ cZ) ws z (kQi D (kT cI cB cJ cZ) o [] ws z) 59 [(2, .int x2)] [] []) : ∀ (n : Nat) (x2 : Int32) (x3 : Int32) (x4 : Int32), lp_X1_widthOf_27 c_size c_lengths c_firstComments c_commentStarts c_commentEnds k59 n x2 x3 x4 = some o → KW l xX1_widthOf D (kT cI cB cJ cZ) ws z (kQi D (kT cI cB cJ cZ) o [] ws z) 27 [(0, .ref (ad 9)), (2, .int x2), (3, .int x3), (4, .int x4)] [] [] := by
  intro n
  induction n with
  | zero => intro x2 x3 x4 h; exact absurd h (by simp [lp_X1_widthOf_27])
  | succ n hk27 =>
    intro x2 x3 x4 h
    unfold lp_X1_widthOf_27 at h
    refine k_iload dX1_widthOf_27 3 rfl ?_
    refine k_iload_n dX1_widthOf_29 2 rfl rfl ?_
    refine k_icmp_ge 59 dX1_widthOf_30 (by decide) h (fun h => ?_) (fun h => ?_)
    · skip
      refine k_sub [1] rfl ?_
      exact hk59 _ h
    · skip
      refine k_iload_n dX1_widthOf_33 1 rfl rfl ?_
      refine k_aload_n dX1_widthOf_34 0 rfl rfl ?_
      refine k_get 9 7 E.1 rfl qX1_widthOf_wX1 (by decide) qX1_widthOf_f35 rfl dX1_widthOf_35 ?_
      refine k_iload dX1_widthOf_38 3 rfl ?_
      refine k_iald 16 0 E.2.2.2.2 rfl dX1_widthOf_40 h (fun v8 h => ?_)
      refine k_aload_n dX1_widthOf_41 0 rfl rfl ?_
      refine k_get 9 6 E.1 rfl qX1_widthOf_wX1 (by decide) qX1_widthOf_f32 rfl dX1_widthOf_42 ?_
      refine k_iload dX1_widthOf_45 3 rfl ?_
      refine k_iald 15 0 E.2.2.2.1 rfl dX1_widthOf_47 h (fun v9 h => ?_)
      refine k_isub dX1_widthOf_48 ?_
      refine k_iconst (v := 1) dX1_widthOf_49 (by decide) ?_
      refine k_iadd dX1_widthOf_50 ?_
      refine k_iadd dX1_widthOf_51 ?_
      refine k_istore_n (i := 2) (lv' := fun x => [(2, .int x), (0, .ref (ad 9)), (3, .int x3), (4, .int x4)]) dX1_widthOf_52 rfl (Nat.le_of_ble_eq_true rfl) (fun _ => rfl) h (fun x2_10 h => ?_)
      refine k_iinc (i := 4) (lv' := fun x => [(4, .int x), (2, .int x2_10), (0, .ref (ad 9)), (3, .int x3)]) dX1_widthOf_53 3 rfl (Nat.le_of_ble_eq_true rfl) (fun _ => rfl) h (fun x4_11 h => ?_)
      refine k_goto 27 dX1_widthOf_56 (by decide) ?_
      refine k_sub [2, 1, 3, 0] rfl ?_
      exact hk27 _ _ _ h
set_option maxHeartbeats 4000000 in
set_option maxRecDepth 100000 in
/-- KindParser$Cut.widthOf -/
theorem c_X1_widthOf {l : Launch} {D : va_G} {cI cB cJ cZ : ClassId} {ad : Nat → Nat} (ws : va_W) (z : Nat) {c_length : Int32} {c_size : Int32} {c_comments : Int32} {c_lengths : Nat → Int32} {c_firstComments : Nat → Int32} {c_commentStarts : Nat → Int32} {c_commentEnds : Nat → Int32} (E : ws[9]? = some (ad 9, .inr (1, [.ref (ad 10), .int c_length, .ref (ad 11), .ref (ad 12), .ref (ad 13), .ref (ad 14), .ref (ad 15), .ref (ad 16), .int c_size, .int c_comments])) ∧ ws[12]? = some (ad 12, .inl (cI, 16, .inl c_lengths)) ∧ ws[14]? = some (ad 14, .inl (cI, 18, .inl c_firstComments)) ∧ ws[15]? = some (ad 15, .inl (cI, 40, .inl c_commentStarts)) ∧ ws[16]? = some (ad 16, .inl (cI, 40, .inl c_commentEnds)))  {a1 : Int32} {o : Int32} (h : f_X1_widthOf a1 c_size c_lengths c_firstComments c_commentStarts c_commentEnds = some o) : Met l yX1_widthOf wsX1_widthOf rmX1_widthOf (kPc D (kT cI cB cJ cZ) [.ref (ad 9), .int a1] ws z) (kQi D (kT cI cB cJ cZ) o [] ws z) 0 0 (va_A ws z) := by
  refine KW.met (rm := rmX1_widthOf) (lv := [(0, .ref (ad 9)), (1, .int a1)]) (L := []) rfl (by decide) (Nat.le_of_ble_eq_true rfl) rfl (fun q hq => by cases hq) ?_
  unfold f_X1_widthOf at h
  show KW l xX1_widthOf D (kT cI cB cJ cZ) ws z (kQi D (kT cI cB cJ cZ) o [] ws z) 0 [(0, .ref (ad 9)), (1, .int a1)] [] []
  refine k_aload_n dX1_widthOf_0 0 rfl rfl ?_
  refine k_iload_n dX1_widthOf_1 1 rfl rfl ?_
  obtain ⟨r1, hr1, h⟩ := Option.bind_eq_some_iff.mp h
  refine k_calliV (As := [.int a1]) (st := []) (Lc := []) (L' := []) (r := r1) gX1_widthOf_X1_lengthOf rfl rfl rfl hyVX1_lengthOf ⟨Nat.le_of_ble_eq_true rfl, Nat.le_of_ble_eq_true rfl⟩ rfl rfl (Nat.le_of_ble_eq_true rfl) 9 E.1 rfl dX1_widthOf_2 (fun w z hw => c_X1_lengthOf (cI := cI) (cB := cB) (cJ := cJ) (cZ := cZ) (ad := ad) w z ⟨((hw 9).trans E.1), ((hw 12).trans E.2.1)⟩  hr1) rfl rfl ?_
  refine k_istore_n (i := 2) (lv' := fun x => [(2, .int x), (0, .ref (ad 9)), (1, .int a1)]) dX1_widthOf_5 rfl (Nat.le_of_ble_eq_true rfl) (fun _ => rfl) h (fun x2_2 h => ?_)
  refine k_aload_n dX1_widthOf_6 1 rfl rfl ?_
  refine k_get 9 5 E.1 rfl qX1_widthOf_wX1 (by decide) qX1_widthOf_f29 rfl dX1_widthOf_7 ?_
  refine k_iload_n dX1_widthOf_10 2 rfl rfl ?_
  refine k_iald 14 0 E.2.2.1 rfl dX1_widthOf_11 h (fun v3 h => ?_)
  refine k_aload_n dX1_widthOf_12 1 rfl rfl ?_
  refine k_iload_n dX1_widthOf_13 2 rfl rfl ?_
  obtain ⟨r4, hr4, h⟩ := Option.bind_eq_some_iff.mp h
  refine k_calliV (As := [.int a1]) (st := [.int v3]) (Lc := []) (L' := []) (r := r4) gX1_widthOf_X1_commentsOf rfl rfl rfl hyVX1_commentsOf ⟨Nat.le_of_ble_eq_true rfl, Nat.le_of_ble_eq_true rfl⟩ rfl rfl (Nat.le_of_ble_eq_true rfl) 9 E.1 rfl dX1_widthOf_14 (fun w z hw => c_X1_commentsOf (cI := cI) (cB := cB) (cJ := cJ) (cZ := cZ) (ad := ad) w z ⟨((hw 9).trans E.1), ((hw 14).trans E.2.2.1)⟩  hr4) rfl rfl ?_
  refine k_iadd dX1_widthOf_17 ?_
  refine k_istore_n (i := 3) (lv' := fun x => [(3, .int x), (2, .int x2_2), (0, .ref (ad 9)), (1, .int a1)]) dX1_widthOf_18 rfl (Nat.le_of_ble_eq_true rfl) (fun _ => rfl) h (fun x3_5 h => ?_)
  refine k_aload_n dX1_widthOf_19 2 rfl rfl ?_
  refine k_get 9 5 E.1 rfl qX1_widthOf_wX1 (by decide) qX1_widthOf_f29 rfl dX1_widthOf_20 ?_
  refine k_iload_n dX1_widthOf_23 3 rfl rfl ?_
  refine k_iald 14 0 E.2.2.1 rfl dX1_widthOf_24 h (fun v6 h => ?_)
  refine k_istore (i := 4) (lv' := fun x => [(4, .int x), (3, .int x3_5), (2, .int x2_2), (0, .ref (ad 9)), (1, .int a1)]) dX1_widthOf_25 (Nat.le_of_ble_eq_true rfl) (fun _ => rfl) h (fun x4_7 h => ?_)
  refine k_sub [3, 2, 1, 0] rfl ?_
  refine wlp_X1_widthOf_27 (cI := cI) (cB := cB) (cJ := cJ) (cZ := cZ) (ad := ad) E ?_ FU _ _ _ h
  · intro x2 h
    refine k_iload_n dX1_widthOf_59 0 rfl rfl ?_
    obtain rfl := Option.some.inj h
    exact k_iret rfl dX1_widthOf_60
