abbrev rmX5_isKind : Room := { frames := 0, cells := 0, slots := 0, locals := 0 }
abbrev xX5_isKind : KX := (rmX5_isKind, cX5_isKind, 1, some .boolean, RX5, wsX5_isKind)
theorem hySX5_isKind : yX5_isKind.cls ≠ "java/lang/invoke/MethodHandle" ∧ yX5_isKind.cls ≠ "java/lang/invoke/VarHandle" ∧ (parseMethodDescriptor yX5_isKind.desc).map (fun d => d.parameters.length) = some 1 := by decide +kernel
set_option maxHeartbeats 4000000 in
set_option maxRecDepth 100000 in
theorem wjn_X5_isKind_17 {l : Launch} {D : va_G} {cI cB cJ cZ : ClassId} {ad : Nat → Nat} {ws : va_W} {z : Nat}  (E : True) {o : Int32}   : ∀ (s0 : Int32), jn_X5_isKind_17  s0 = some o → KW l xX5_isKind D (kT cI cB cJ cZ) ws z (kQi D (kT cI cB cJ cZ) o [] ws z) 17 [] [.int s0] [] := by
  intro s0 h
  unfold jn_X5_isKind_17 at h
  obtain ⟨hz, h⟩ := zc_some h
  obtain rfl := Option.some.inj h
  exact k_zret rfl hz dX5_isKind_17
set_option maxHeartbeats 4000000 in
set_option maxRecDepth 100000 in
theorem wjn_X5_isKind_16 {l : Launch} {D : va_G} {cI cB cJ cZ : ClassId} {ad : Nat → Nat} {ws : va_W} {z : Nat}  (E : True) {o : Int32}   : jn_X5_isKind_16  = some o → KW l xX5_isKind D (kT cI cB cJ cZ) ws z (kQi D (kT cI cB cJ cZ) o [] ws z) 16 [] [] [] := by
  intro h
  unfold jn_X5_isKind_16 at h
  refine k_iconst (v := 0) dX5_isKind_16 (by decide) ?_
  refine k_sub [] rfl ?_
  exact wjn_X5_isKind_17 (cI := cI) (cB := cB) (cJ := cJ) (cZ := cZ) (ad := ad) E  _ h
set_option maxHeartbeats 4000000 in
set_option maxRecDepth 100000 in
/-- KindParser.isKind -/
theorem c_X5_isKind {l : Launch} {D : va_G} {cI cB cJ cZ : ClassId} {ad : Nat → Nat} (ws : va_W) (z : Nat)  (E : True)  {a0 : Int32} {o : Int32} (h : f_X5_isKind a0 = some o) : Met l yX5_isKind wsX5_isKind rmX5_isKind (kPc D (kT cI cB cJ cZ) [.int a0] ws z) (kQi D (kT cI cB cJ cZ) o [] ws z) 0 0 (va_A ws z) := by
  refine KW.met (rm := rmX5_isKind) (lv := [(0, .int a0)]) (L := []) rfl (by decide) (Nat.le_of_ble_eq_true rfl) rfl (fun q hq => by cases hq) ?_
  unfold f_X5_isKind at h
  show KW l xX5_isKind D (kT cI cB cJ cZ) ws z (kQi D (kT cI cB cJ cZ) o [] ws z) 0 [(0, .int a0)] [] []
  refine k_iload_n dX5_isKind_0 0 rfl rfl ?_
  refine k_bipush (v := 9) dX5_isKind_1 (by decide) ?_
  refine k_icmp_lt 16 dX5_isKind_3 (by decide) h (fun h => ?_) (fun h => ?_)
  · skip
    refine k_sub [] rfl ?_
    exact wjn_X5_isKind_16 (cI := cI) (cB := cB) (cJ := cJ) (cZ := cZ) (ad := ad) E   h
  · skip
    refine k_iload_n dX5_isKind_6 0 rfl rfl ?_
    refine k_bipush (v := 14) dX5_isKind_7 (by decide) ?_
    refine k_icmp_gt 16 dX5_isKind_9 (by decide) h (fun h => ?_) (fun h => ?_)
    · skip
      refine k_sub [] rfl ?_
      exact wjn_X5_isKind_16 (cI := cI) (cB := cB) (cJ := cJ) (cZ := cZ) (ad := ad) E   h
    · skip
      refine k_iconst (v := 1) dX5_isKind_12 (by decide) ?_
      refine k_goto 17 dX5_isKind_13 (by decide) ?_
      refine k_sub [] rfl ?_
      exact wjn_X5_isKind_17 (cI := cI) (cB := cB) (cJ := cJ) (cZ := cZ) (ad := ad) E  _ h
abbrev rmX5_byteOf : Room := { frames := 0, cells := 0, slots := 0, locals := 0 }
abbrev xX5_byteOf : KX := (rmX5_byteOf, cX5_byteOf, 3, some .int, RX5, wsX5_byteOf)
theorem hySX5_byteOf : yX5_byteOf.cls ≠ "java/lang/invoke/MethodHandle" ∧ yX5_byteOf.cls ≠ "java/lang/invoke/VarHandle" ∧ (parseMethodDescriptor yX5_byteOf.desc).map (fun d => d.parameters.length) = some 2 := by decide +kernel
set_option maxHeartbeats 4000000 in
set_option maxRecDepth 100000 in
/-- KindParser.byteOf -/
theorem c_X5_byteOf {l : Launch} {D : va_G} {cI cB cJ cZ : ClassId} {ad : Nat → Nat} (ws : va_W) (z : Nat)  (E : True)  {a0 : Int64} {a2 : Int32} {o : Int32} (h : f_X5_byteOf a0 a2 = some o) : Met l yX5_byteOf wsX5_byteOf rmX5_byteOf (kPc D (kT cI cB cJ cZ) [.long a0, .int a2] ws z) (kQi D (kT cI cB cJ cZ) o [] ws z) 0 0 (va_A ws z) := by
  refine KW.met (rm := rmX5_byteOf) (lv := [(0, .long a0), (2, .int a2)]) (L := []) rfl (by decide) (Nat.le_of_ble_eq_true rfl) rfl (fun q hq => by cases hq) ?_
  unfold f_X5_byteOf at h
  show KW l xX5_byteOf D (kT cI cB cJ cZ) ws z (kQi D (kT cI cB cJ cZ) o [] ws z) 0 [(0, .long a0), (2, .int a2)] [] []
  refine k_lload_n dX5_byteOf_0 0 rfl rfl ?_
  refine k_bipush (v := 8) dX5_byteOf_1 (by decide) ?_
  refine k_iload_n dX5_byteOf_3 1 rfl rfl ?_
  refine k_imul dX5_byteOf_4 ?_
  refine k_lushr dX5_byteOf_5 ?_
  refine k_l2i dX5_byteOf_6 ?_
  refine k_sipush (v := 255) dX5_byteOf_7 (by decide) ?_
  refine k_iand dX5_byteOf_10 ?_
  obtain rfl := Option.some.inj h
  exact k_iret rfl dX5_byteOf_11
abbrev rmX5_areCharacters : Room := { frames := 1, cells := 0, slots := 0, locals := 22 }
abbrev xX5_areCharacters : KX := (rmX5_areCharacters, cX5_areCharacters, 5, some .boolean, RX5, wsX5_areCharacters)
theorem hySX5_areCharacters : yX5_areCharacters.cls ≠ "java/lang/invoke/MethodHandle" ∧ yX5_areCharacters.cls ≠ "java/lang/invoke/VarHandle" ∧ (parseMethodDescriptor yX5_areCharacters.desc).map (fun d => d.parameters.length) = some 2 := by decide +kernel
set_option maxHeartbeats 4000000 in
set_option maxRecDepth 100000 in
theorem wjn_X5_areCharacters_37 {l : Launch} {D : va_G} {cI cB cJ cZ : ClassId} {ad : Nat → Nat} {ws : va_W} {z : Nat}  (E : True) {o : Int32} {k2 : (Int64) → (Int32) → (Int32) → Option (Int32)} (hk2 : ∀ (x0 : Int64) (x2 : Int32) (x3 : Int32), k2 x0 x2 x3 = some o → KW l xX5_areCharacters D (kT cI cB cJ cZ) ws z (kQi D (kT cI cB cJ cZ) o [] ws z) 2 [(0, .long x0), (2, .int x2), (3, .int x3)] [] []) : ∀ (x0 : Int64) (x2 : Int32) (x3 : Int32), jn_X5_areCharacters_37  k2 x0 x2 x3 = some o → KW l xX5_areCharacters D (kT cI cB cJ cZ) ws z (kQi D (kT cI cB cJ cZ) o [] ws z) 37 [(0, .long x0), (2, .int x2), (3, .int x3)] [] [] := by
  intro x0 x2 x3 h
  unfold jn_X5_areCharacters_37 at h
  refine k_iinc (i := 3) (lv' := fun x => [(3, .int x), (0, .long x0), (2, .int x2)]) dX5_areCharacters_37 2 rfl (Nat.le_of_ble_eq_true rfl) (fun _ => rfl) h (fun x3_4 h => ?_)
  refine k_goto 2 dX5_areCharacters_40 (by decide) ?_
  refine k_sub [1, 2, 0] rfl ?_
  exact hk2 _ _ _ h
set_option maxHeartbeats 4000000 in
set_option maxRecDepth 100000 in
theorem wjn_X5_areCharacters_35 {l : Launch} {D : va_G} {cI cB cJ cZ : ClassId} {ad : Nat → Nat} {ws : va_W} {z : Nat}  (E : True) {o : Int32}   : jn_X5_areCharacters_35  = some o → KW l xX5_areCharacters D (kT cI cB cJ cZ) ws z (kQi D (kT cI cB cJ cZ) o [] ws z) 35 [] [] [] := by
  intro h
  unfold jn_X5_areCharacters_35 at h
  refine k_iconst (v := 0) dX5_areCharacters_35 (by decide) ?_
  obtain ⟨hz, h⟩ := zc_some h
  obtain rfl := Option.some.inj h
  exact k_zret rfl hz dX5_areCharacters_36
set_option maxHeartbeats 4000000 in
set_option maxRecDepth 100000 in
theorem wlp_X5_areCharacters_2 {l : Launch} {D : va_G} {cI cB cJ cZ : ClassId} {ad : Nat → Nat} {ws : va_W} {z : Nat}  (E : True) {o : Int32} {k43 : Option (Int32)} (hk43 : k43 = some o → KW l xX5_areCharacters D (kT cI cB cJ cZ) ws z (kQi D (kT cI cB cJ cZ) o [] ws z) 43 [] [] []) : ∀ (n : Nat) (x0 : Int64) (x2 : Int32) (x3 : Int32), lp_X5_areCharacters_2  k43 n x0 x2 x3 = some o → KW l xX5_areCharacters D (kT cI cB cJ cZ) ws z (kQi D (kT cI cB cJ cZ) o [] ws z) 2 [(0, .long x0), (2, .int x2), (3, .int x3)] [] [] := by
  intro n
  induction n with
  | zero => intro x0 x2 x3 h; exact absurd h (by simp [lp_X5_areCharacters_2])
  | succ n hk2 =>
    intro x0 x2 x3 h
    unfold lp_X5_areCharacters_2 at h
    refine k_iload_n dX5_areCharacters_2 2 rfl rfl ?_
    refine k_iload_n dX5_areCharacters_3 1 rfl rfl ?_
    refine k_icmp_ge 43 dX5_areCharacters_4 (by decide) h (fun h => ?_) (fun h => ?_)
    · skip
      refine k_sub [] rfl ?_
      exact hk43  h
    · skip
      refine k_lload_n dX5_areCharacters_7 0 rfl rfl ?_
      refine k_iload_n dX5_areCharacters_8 2 rfl rfl ?_
      obtain ⟨r2, hr2, h⟩ := Option.bind_eq_some_iff.mp h
      refine k_calliS (As := [.long x0, .int x3]) (st := []) (Lc := []) (L' := []) (r := r2) gX5_areCharacters_X5_byteOf rfl rfl rfl hySX5_byteOf ⟨Nat.le_of_ble_eq_true rfl, Nat.le_of_ble_eq_true rfl⟩ rfl rfl (Nat.le_of_ble_eq_true rfl) dX5_areCharacters_9 (fun w z hw => c_X5_byteOf (cI := cI) (cB := cB) (cJ := cJ) (cZ := cZ) (ad := ad) w z trivial  hr2) rfl rfl ?_
      refine k_istore (i := 4) (lv' := fun x => [(4, .int x), (0, .long x0), (2, .int x2), (3, .int x3)]) dX5_areCharacters_12 (Nat.le_of_ble_eq_true rfl) (fun _ => rfl) h (fun x4_3 h => ?_)
      refine k_iload dX5_areCharacters_14 0 rfl ?_
      refine k_bipush (v := 10) dX5_areCharacters_16 (by decide) ?_
      refine k_icmp_eq 37 dX5_areCharacters_18 (by decide) h (fun h => ?_) (fun h => ?_)
      · skip
        refine k_sub [1, 2, 3] rfl ?_
        exact wjn_X5_areCharacters_37 (cI := cI) (cB := cB) (cJ := cJ) (cZ := cZ) (ad := ad) E hk2 _ _ _ h
      · skip
        refine k_iload dX5_areCharacters_21 0 rfl ?_
        refine k_bipush (v := 32) dX5_areCharacters_23 (by decide) ?_
        refine k_icmp_lt 35 dX5_areCharacters_25 (by decide) h (fun h => ?_) (fun h => ?_)
        · skip
          refine k_sub [] rfl ?_
          exact wjn_X5_areCharacters_35 (cI := cI) (cB := cB) (cJ := cJ) (cZ := cZ) (ad := ad) E   h
        · skip
          refine k_iload dX5_areCharacters_28 0 rfl ?_
          refine k_bipush (v := 126) dX5_areCharacters_30 (by decide) ?_
          refine k_icmp_le 37 dX5_areCharacters_32 (by decide) h (fun h => ?_) (fun h => ?_)
          · skip
            refine k_sub [1, 2, 3] rfl ?_
            exact wjn_X5_areCharacters_37 (cI := cI) (cB := cB) (cJ := cJ) (cZ := cZ) (ad := ad) E hk2 _ _ _ h
          · skip
            refine k_sub [] rfl ?_
            exact wjn_X5_areCharacters_35 (cI := cI) (cB := cB) (cJ := cJ) (cZ := cZ) (ad := ad) E   h
set_option maxHeartbeats 4000000 in
set_option maxRecDepth 100000 in
/-- KindParser.areCharacters -/
theorem c_X5_areCharacters {l : Launch} {D : va_G} {cI cB cJ cZ : ClassId} {ad : Nat → Nat} (ws : va_W) (z : Nat)  (E : True)  {a0 : Int64} {a2 : Int32} {o : Int32} (h : f_X5_areCharacters a0 a2 = some o) : Met l yX5_areCharacters wsX5_areCharacters rmX5_areCharacters (kPc D (kT cI cB cJ cZ) [.long a0, .int a2] ws z) (kQi D (kT cI cB cJ cZ) o [] ws z) 0 0 (va_A ws z) := by
  refine KW.met (rm := rmX5_areCharacters) (lv := [(0, .long a0), (2, .int a2)]) (L := []) rfl (by decide) (Nat.le_of_ble_eq_true rfl) rfl (fun q hq => by cases hq) ?_
  unfold f_X5_areCharacters at h
  show KW l xX5_areCharacters D (kT cI cB cJ cZ) ws z (kQi D (kT cI cB cJ cZ) o [] ws z) 0 [(0, .long a0), (2, .int a2)] [] []
  refine k_iconst (v := 0) dX5_areCharacters_0 (by decide) ?_
  refine k_istore_n (i := 3) (lv' := fun x => [(3, .int x), (0, .long a0), (2, .int a2)]) dX5_areCharacters_1 rfl (Nat.le_of_ble_eq_true rfl) (fun _ => rfl) h (fun x3_1 h => ?_)
  refine k_sub [1, 2, 0] rfl ?_
  refine wlp_X5_areCharacters_2 (cI := cI) (cB := cB) (cJ := cJ) (cZ := cZ) (ad := ad) E ?_ FU _ _ _ h
  · intro  h
    refine k_iconst (v := 1) dX5_areCharacters_43 (by decide) ?_
    obtain ⟨hz, h⟩ := zc_some h
    obtain rfl := Option.some.inj h
    exact k_zret rfl hz dX5_areCharacters_44
abbrev rmX5_isDigit : Room := { frames := 0, cells := 0, slots := 0, locals := 0 }
abbrev xX5_isDigit : KX := (rmX5_isDigit, cX5_isDigit, 1, some .boolean, RX5, wsX5_isDigit)
theorem hySX5_isDigit : yX5_isDigit.cls ≠ "java/lang/invoke/MethodHandle" ∧ yX5_isDigit.cls ≠ "java/lang/invoke/VarHandle" ∧ (parseMethodDescriptor yX5_isDigit.desc).map (fun d => d.parameters.length) = some 1 := by decide +kernel
set_option maxHeartbeats 4000000 in
set_option maxRecDepth 100000 in
theorem wjn_X5_isDigit_17 {l : Launch} {D : va_G} {cI cB cJ cZ : ClassId} {ad : Nat → Nat} {ws : va_W} {z : Nat}  (E : True) {o : Int32}   : ∀ (s0 : Int32), jn_X5_isDigit_17  s0 = some o → KW l xX5_isDigit D (kT cI cB cJ cZ) ws z (kQi D (kT cI cB cJ cZ) o [] ws z) 17 [] [.int s0] [] := by
  intro s0 h
  unfold jn_X5_isDigit_17 at h
  obtain ⟨hz, h⟩ := zc_some h
  obtain rfl := Option.some.inj h
  exact k_zret rfl hz dX5_isDigit_17
set_option maxHeartbeats 4000000 in
set_option maxRecDepth 100000 in
theorem wjn_X5_isDigit_16 {l : Launch} {D : va_G} {cI cB cJ cZ : ClassId} {ad : Nat → Nat} {ws : va_W} {z : Nat}  (E : True) {o : Int32}   : jn_X5_isDigit_16  = some o → KW l xX5_isDigit D (kT cI cB cJ cZ) ws z (kQi D (kT cI cB cJ cZ) o [] ws z) 16 [] [] [] := by
  intro h
  unfold jn_X5_isDigit_16 at h
  refine k_iconst (v := 0) dX5_isDigit_16 (by decide) ?_
  refine k_sub [] rfl ?_
  exact wjn_X5_isDigit_17 (cI := cI) (cB := cB) (cJ := cJ) (cZ := cZ) (ad := ad) E  _ h
set_option maxHeartbeats 4000000 in
set_option maxRecDepth 100000 in
/-- KindParser.isDigit -/
theorem c_X5_isDigit {l : Launch} {D : va_G} {cI cB cJ cZ : ClassId} {ad : Nat → Nat} (ws : va_W) (z : Nat)  (E : True)  {a0 : Int32} {o : Int32} (h : f_X5_isDigit a0 = some o) : Met l yX5_isDigit wsX5_isDigit rmX5_isDigit (kPc D (kT cI cB cJ cZ) [.int a0] ws z) (kQi D (kT cI cB cJ cZ) o [] ws z) 0 0 (va_A ws z) := by
  refine KW.met (rm := rmX5_isDigit) (lv := [(0, .int a0)]) (L := []) rfl (by decide) (Nat.le_of_ble_eq_true rfl) rfl (fun q hq => by cases hq) ?_
  unfold f_X5_isDigit at h
  show KW l xX5_isDigit D (kT cI cB cJ cZ) ws z (kQi D (kT cI cB cJ cZ) o [] ws z) 0 [(0, .int a0)] [] []
  refine k_iload_n dX5_isDigit_0 0 rfl rfl ?_
  refine k_bipush (v := 48) dX5_isDigit_1 (by decide) ?_
  refine k_icmp_lt 16 dX5_isDigit_3 (by decide) h (fun h => ?_) (fun h => ?_)
  · skip
    refine k_sub [] rfl ?_
    exact wjn_X5_isDigit_16 (cI := cI) (cB := cB) (cJ := cJ) (cZ := cZ) (ad := ad) E   h
  · skip
    refine k_iload_n dX5_isDigit_6 0 rfl rfl ?_
    refine k_bipush (v := 57) dX5_isDigit_7 (by decide) ?_
    refine k_icmp_gt 16 dX5_isDigit_9 (by decide) h (fun h => ?_) (fun h => ?_)
    · skip
      refine k_sub [] rfl ?_
      exact wjn_X5_isDigit_16 (cI := cI) (cB := cB) (cJ := cJ) (cZ := cZ) (ad := ad) E   h
    · skip
      refine k_iconst (v := 1) dX5_isDigit_12 (by decide) ?_
      refine k_goto 17 dX5_isDigit_13 (by decide) ?_
      refine k_sub [] rfl ?_
      exact wjn_X5_isDigit_17 (cI := cI) (cB := cB) (cJ := cJ) (cZ := cZ) (ad := ad) E  _ h
