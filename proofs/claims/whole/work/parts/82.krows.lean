/-! rows for methods that throw, for the law's helpers and for the law -/
theorem W_mono {p : Program} {l : Launch} {e : Env} {R : Room} {s : State} {m : MethodId} {args : Array Value} {below : List Frame} {meth : Method} {c : Code} {H : Heap} {locs : List Loc} {cells slots : Nat} {Q Q' : State → Prop} {g : JFrame} (h : ∀ t, Q t → Q' t) (k : W p l e R s m args below meth c H locs cells slots Q g) : W p l e R s m args below meth c H locs cells slots Q' g := fun T hT X => by
  obtain ⟨t, a, b⟩ := k T hT X
  exact ⟨t, a, h t b⟩
theorem W_triv {p : Program} {l : Launch} {e : Env} {R : Room} {s : State} {m : MethodId} {args : Array Value} {below : List Frame} {meth : Method} {c : Code} {H : Heap} {locs : List Loc} {cells slots : Nat} {Q : State → Prop} {g : JFrame} (h : ∀ t, Q t) : W p l e R s m args below meth c H locs cells slots Q g := fun T _ _ => ⟨_, Steps.refl _, h _⟩
abbrev kNms : List String := ["java/lang/RuntimeException", "java/lang/Exception"]
def kExN (k : Int32) : Option String := if k = 1 then some "java/lang/IllegalArgumentException" else if k = 2 then some "java/lang/IllegalStateException" else if k = 3 then some "java/lang/UnsupportedOperationException" else if k = 4 then some "java/lang/IndexOutOfBoundsException" else none
def kStr : List (Nat × String) := [(166, "no such character"), (155, "no such part or what"), (159, "the width is not 1 to 100"), (157, "there is no tree"), (115, "kind 9 is not grounded"), (122, "more than 16 tokens"), (131, "too many parts, or a node too deep"), (78, "no such head, symbols or hints"), (88, "there are 20 rules"), (143, "no such tree, token or what"), (102, "not 1 to 8 characters"), (104, "more than 80 characters")]
def kExc : List String := ["java/lang/IllegalArgumentException", "java/lang/IllegalStateException", "java/lang/UnsupportedOperationException", "java/lang/IndexOutOfBoundsException"]
def kNoc : List (String × String) := [("java/lang/IllegalStateException", "java/lang/IllegalArgumentException"), ("java/lang/IllegalStateException", "java/lang/UnsupportedOperationException")]
def kDec : List MethodName := [⟨"java/lang/RuntimeException", "<init>", "(Ljava/lang/String;)V"⟩, ⟨"java/lang/Exception", "<init>", "(Ljava/lang/String;)V"⟩, ⟨"java/lang/Throwable", "<init>", "(Ljava/lang/String;)V"⟩]
/-- what a throw needs of the start -/
def kEF (A : Nat → Prop) (s : State) : Prop :=
  vx_Zq Bundle.tN "UNASSIGNED_STACK" Bundle.steD A s s.heap ∧ vx_Zq Bundle.tN "SUPPRESSED_SENTINEL" Bundle.listD A s s.heap ∧ (∀ q ∈ kStr, ∃ sa, vk_R RX5 q.1 q.2 sa s) ∧ (∀ x ∈ kExc, va_Nw (.castable x x) s) ∧ (∀ q ∈ kNoc, va_Nc q.1 q.2 s) ∧ (∀ x ∈ kDec, va_Nw (.declares x) s)
theorem kEF.move {A B : Nat → Prop} {s U : State} {H : Heap} (h : kEF A s) (hU : U.heap = H) (hW : s.WarmedH U.vm) (hk : ∀ a : Nat, a < s.heap.size → ¬ A a → H[a]? = s.heap[a]?) (hAB : ∀ q, B q → A q) : kEF B U := by
  obtain ⟨h1, h2, h3, h4, h5, h6⟩ := h
  refine ⟨?_, ?_, fun q hq => ?_, fun x hx => va_Nw.warmC hW (h4 x hx), fun q hq => va_Nc.moved hW.alike (h5 q hq), fun x hx => va_Nw.warmD hW (h6 x hx)⟩
  · rw [hU]; exact ((h1.kept hk).moved hW.alike).narrow hAB
  · rw [hU]; exact ((h2.kept hk).moved hW.alike).narrow hAB
  · obtain ⟨sa, h⟩ := h3 q hq
    exact ⟨sa, vk_R.warm hW h⟩
theorem kEF.calling {A : Nat → Prop} {a : Array Value} {U : State} {g : JFrame} {mk : MethodId} (h : kEF A U) : kEF A (U.calling g mk a) := by
  obtain ⟨h1, h2, h3, h4, h5, h6⟩ := h
  refine ⟨vx_Zq.moved (u := U) (U := U.calling g mk a) (Vm.Alike.refl U.vm) h1, vx_Zq.moved (u := U) (U := U.calling g mk a) (Vm.Alike.refl U.vm) h2, fun q hq => ?_, fun x hx => va_Nw.same rfl rfl (h4 x hx), fun q hq => va_Nc.moved (u := U) (U := U.calling g mk a) (Vm.Alike.refl U.vm) (h5 q hq), fun x hx => va_Nw.same rfl rfl (h6 x hx)⟩
  obtain ⟨sa, h⟩ := h3 q hq
  exact ⟨sa, vk_R.same rfl h⟩
/-- of the code of the method that runs -/
def kTb (s : State) (ok : Code → Prop) : Prop := ∀ (m : MethodId) (a : Array Value) (b : List Frame) (meth : Method) (c : Code), s.frames = .invoking m a :: b → s.vm.method? m = some meth → meth.code = some c → ok c
theorem kTb.of {s : State} {ok : Code → Prop} {m : MethodId} {a : Array Value} {b : List Frame} {meth : Method} {c : Code} (h1 : s.frames = .invoking m a :: b) (h2 : s.vm.method? m = some meth) (h3 : meth.code = some c) (h : ok c) : kTb s ok := by
  intro m' a' b' meth' c' e1 e2 e3
  rw [h1] at e1
  cases e1
  rw [h2] at e2
  cases e2
  rw [h3] at e3
  cases e3
  exact h
def kPx (D : va_G) (tys : List (ClassId × FieldType)) (av : List Value) (ws : va_W) (sz : Nat) : Array Value → State → Prop := fun a U => kPc D tys av ws sz a U ∧ kEF (va_A ws sz) U
theorem kPx_blind {D : va_G} {tys : List (ClassId × FieldType)} {av : List Value} {ws : va_W} {sz : Nat} : FrameBlind (kPx D tys av ws sz) := fun a U g mk q => ⟨kPc_blind a U g mk q.1, q.2.calling⟩
def kQ0 (D : va_G) (tys : List (ClassId × FieldType)) (k r : Int32) (Lc : KL) (ws : va_W) (sz : Nat) := va_Qi (fun (v : Int32) (u : va_W) => (k = 0 ∧ v = r) ∧ kl_on ws Lc u ∧ kl_sm ws u) (kB D tys) (va_A ws sz)
def kX0 (D : va_G) (tys : List (ClassId × FieldType)) (k : Int32) (Lc : KL) (ws : va_W) (sz : Nat) : String → State → State → Prop := vx_X (fun (u : va_W) => kl_on ws Lc u ∧ kl_sm ws u) (fun E u t => kExN k = some E ∧ kB D tys u t) (va_A ws sz)
/-- the end of a method that may throw -/
def kQx (D : va_G) (tys : List (ClassId × FieldType)) (k r : Int32) (Lc : KL) (ws : va_W) (sz : Nat) : List Frame → Array Value → State → State → Prop := fun below args s t =>
  kEF (va_A ws sz) s ∧ kTb s (fun c => ∀ x ∈ c.exceptionTable.toList, False) → vx_MQ below (kQ0 D tys k r Lc ws sz) (kX0 D tys k Lc ws sz) args s 1 6 (va_A ws sz) t
theorem KG.metX {l : Launch} {D : va_G} {tys : List (ClassId × FieldType)} {ws : va_W} {sz : Nat} {kc r : Int32} {Lc : KL} {y : MethodName} {words words' : List Cond} {rm : Room} {cc : ByteArray} {maxL : Nat} {ret : Option FieldType} {av : List Value} {lv : List (Nat × Value)} {L : KL}
    (hw : words = Cond.code y cc maxL ret :: words') (hy : plainName y.cls = true) (hlen : (lg_sl av).length ≤ maxL) (hlv : lv_args 0 av = lv) (hL : ∀ q ∈ L, ws[q.1]? = some q.2)
    (k : KG l (rm, cc, maxL, ret, y.cls, words) D tys ws sz (kQx D tys kc r Lc ws sz) 0 0 0 lv [] L) : vx_Met l y words rm (kPx D tys av ws sz) (kQ0 D tys kc r Lc ws sz) (kX0 D tys kc Lc ws sz) 1 6 (va_A ws sz) := by
  refine vx_ofW (cc := cc) (maxL := maxL) (ret := ret) hy hw ?_
  intro p e s m args below meth c s₁ B hml ht hv
  obtain ⟨⟨rfl, hsz, hP, hK, hD0, hN⟩, hE⟩ := hv
  have hts := atoms_spec (ws := words) B.pre
  have hown : s.vm.findClass y.cls = some m.cls := findClass_of_methodNamed B.named
  have hl := lv_entry av (n := maxL) hlen
  rw [lg_entry_eq]
  rw [hlv] at hl
  exact W_mono (fun t h => h ⟨hE, kTb.of B.frames B.method (Stand.of_body B).code ht⟩) (k p e s m _ below meth c s.heap [] _ ws ⟨B.exec, B.bytes, hml, B.returns, hown, hts, B.notSynchronized, hK, hsz, hN⟩ hl hP hD0.self va_S.rf (kl_on.init hL) kl_sm.rf)
section KXrows
variable {l : Launch} {X : KX} {D : va_G} {tys : List (ClassId × FieldType)} {ws : va_W} {sz : Nat} {Qc : List Frame → Array Value → State → State → Prop} {nc ns : Nat} {pc : Nat} {lv : List (Nat × Value)} {st : List Value} {L : KL}
theorem k_xret {v : Int32} (hr : X.2.2.2.1 = some .int) (hd : decode X.2.1 pc = .ok (.ireturn, 1)) : KG l X D tys ws sz (kQx D tys 0 v L ws sz) 0 0 pc lv [.int v] L :=
  fun p e s m args below meth c H locs ls w C hl hP hD hS ho hs => W_mono (fun t h _ => h) (vx_ret (W.widen (k := 1) (n := 6) (Nat.zero_le _) (Nat.zero_le _) (W.iret C.1 C.2.1 (C.2.2.2.1.trans hr) (fun t ht hW => ⟨⟨v, w, rfl, ⟨⟨rfl, rfl⟩, ho, hs⟩, by rw [ht]; exact hP, va_K.moved hW.alike C.2.2.2.2.2.2.2.1⟩, hS.F ht⟩) hS.2.2 hd C.2.2.2.2.2.2.1)))
theorem k_thrS (hl : l.stackTraces = false) {cls text : String} {ik is ic : Nat} {kc r : Int32} (hown : X.2.2.2.2.1 = RX5) (hk : Cond.classLink RX5 ik cls ∈ X.2.2.2.2.2) (hini : Cond.initialized cls ∈ X.2.2.2.2.2) (hat : ∀ w ∈ (vx_atS RX5 ic cls kNms).filter goodWord, w ∈ X.2.2.2.2.2)
    (hbad : ∀ w ∈ (vx_atS RX5 ic cls kNms).filter (fun w => !goodWord w), w ∈ Cond.castable cls cls :: kDec.map Cond.declares) (hot : ∀ w ∈ Cond.classLink RX5 ik cls :: Cond.initialized cls :: vx_atS RX5 ic cls kNms, vx_ot w = true) (hfit : Bundle.fit cls = true) (hcl : cls ∈ kExc) (hs0 : (is, text) ∈ kStr) (hkc : kExN kc = some cls)
    (hR : 5 < X.1.frames ∧ (st.map fun v => v.category).sum + 82 ≤ X.1.locals ∧ 1 ≤ X.1.cells ∧ 6 ≤ X.1.slots) (d0 : decode X.2.1 pc = .ok (.new ik, 3)) (d3 : decode X.2.1 (pc + 3) = .ok (.dup, 1)) (d4 : decode X.2.1 (pc + 4) = .ok (.ldc is, 2)) (d6 : decode X.2.1 (pc + 6) = .ok (.invokespecial ic, 3)) (d9 : decode X.2.1 (pc + 9) = .ok (.athrow, 1)) :
    KG l X D tys ws sz (kQx D tys kc r L ws sz) 0 0 pc lv st L := by
  intro p e s m args below meth c H locs ls w C hl2 hP hD hS ho hs
  by_cases hE : kEF (va_A ws sz) s ∧ kTb s (fun c => ∀ x ∈ c.exceptionTable.toList, False)
  · intro T hT Y
    have hout : ∀ x ∈ c.exceptionTable.toList, covers x (pc + 9) = false := fun x hx => (hE.2 m args below meth c Y.frames Y.method Y.code x hx).elim
    obtain ⟨sa, hsa⟩ := hE.1.2.2.1 _ hs0
    refine W_mono (fun t h _ => h) (vx_throwS (A := va_A ws sz) (names := kNms) (sa := sa) (own := RX5) C.1 C.2.1 hl (hown ▸ C.2.2.2.2.1) hfit (by decide) (C.2.2.2.2.2.1 _ hk) (C.2.2.2.2.2.1 _ hini) hsa
      (vx_hat (B := Cond.castable cls cls :: kDec.map Cond.declares) (fun w h => C.2.2.2.2.2.1 _ (hat w h)) hbad (vx_c (va_Nw.use rfl (hE.1.2.2.2.1 cls hcl)) (fun w h => by
        obtain ⟨x, hx, rfl⟩ := List.mem_map.mp h
        exact va_Nw.use rfl (hE.1.2.2.2.2.2 x hx)))) hot hE.1.1 hE.1.2.1 hS (hl2.1.trans C.2.2.1.symm) d0 d3 d4 d6 d9 hout hR.1 hR.2.1 (by omega) (by omega) C.2.2.2.2.2.2.1
      (fun t hal hz hq => ⟨w, ⟨ho, hs⟩, ⟨hkc, fun k q hk => ?_, va_K.moved hal C.2.2.2.2.2.2.2.1⟩, by have := hS.1; omega, fun q h1 h2 => (hq q (by have := hS.1; omega)).trans (hS.2.1 q h1 h2)⟩) hS.2.2 (Nat.le_refl _) (Nat.le_refl _)) T hT Y
    exact hP.kept (fun k x hx => hq x.1 ((hP k x hx).lt)) k q hk
  · exact W_triv (fun t h => absurd h hE)
theorem k_tabIn {dflt lo hi : Int} {offs : Array Int} {len : Nat} {x : Int32} {off : Int} (tgt : Nat) (hd : decode X.2.1 pc = .ok (.tableswitch dflt lo hi offs, len)) (h1 : ¬ x.toInt < lo) (h2 : ¬ hi < x.toInt) (hof : offs[(x.toInt - lo).toNat]? = some off) (ht : (pc : Int) + off = (tgt : Int)) (k : KG l X D tys ws sz Qc nc ns tgt lv st L) : KG l X D tys ws sz Qc nc ns pc lv (.int x :: st) L :=
  fun p e s m args below meth c H locs ls w C hl hP hD hS ho hs => lv_tableIn C.1 C.2.1 hd h1 h2 hof ht (k p e s m args below meth c H locs ls w C hl hP hD hS ho hs)
theorem k_tabOut {dflt lo hi : Int} {offs : Array Int} {len : Nat} {x : Int32} (tgt : Nat) (hd : decode X.2.1 pc = .ok (.tableswitch dflt lo hi offs, len)) (h : x.toInt < lo ∨ hi < x.toInt) (ht : (pc : Int) + dflt = (tgt : Int)) (k : KG l X D tys ws sz Qc nc ns tgt lv st L) : KG l X D tys ws sz Qc nc ns pc lv (.int x :: st) L :=
  fun p e s m args below meth c H locs ls w C hl hP hD hS ho hs => lv_tableOut C.1 C.2.1 hd h ht (k p e s m args below meth c H locs ls w C hl hP hD hS ho hs)
theorem tab_out {x : Int32} {n : Nat} (hn : n < 1000) (h : ∀ k, k ≤ n → x ≠ nI k) : x.toInt < 0 ∨ (n : Int) < x.toInt := by
  by_cases h1 : x.toInt < 0
  · exact Or.inl h1
  · by_cases h2 : (n : Int) < x.toInt
    · exact Or.inr h2
    · exfalso
      refine h x.toInt.toNat (by omega) ?_
      apply Int32.toInt_inj.mp
      rw [nI_toInt (by omega)]
      omega
/-- the end of a helper of the law -/
def kQh (D : va_G) (tys : List (ClassId × FieldType)) (hh : List (Nat × Nat × Nat × Nat)) (r : Int32) (Lc : KL) (ws : va_W) (sz : Nat) : List Frame → Array Value → State → State → Prop := fun below args s t =>
  kEF (va_A ws sz) s ∧ kTb s (fun c => c.exceptionTable.toList = tableOf hh) → MQ below (kQi D tys r Lc ws sz) args s 1 6 (va_A ws sz) t
theorem KG.metH {D : va_G} {tys : List (ClassId × FieldType)} {ws : va_W} {sz : Nat} {r : Int32} {Lc : KL} {y : MethodName} {words words' : List Cond} {rm : Room} {cc : ByteArray} {maxL : Nat} {ret : Option FieldType} {hh : List (Nat × Nat × Nat × Nat)} {av : List Value} {lv : List (Nat × Value)} {L : KL}
    (hw : words = Cond.codeWith y cc maxL ret hh :: words') (hy : plainName y.cls = true) (hlen : (lg_sl av).length ≤ maxL) (hlv : lv_args 0 av = lv) (hL : ∀ q ∈ L, ws[q.1]? = some q.2)
    (k : KG l (rm, cc, maxL, ret, y.cls, words) D tys ws sz (kQh D tys hh r Lc ws sz) 0 0 0 lv [] L) : Met l y words rm (kPx D tys av ws sz) (kQi D tys r Lc ws sz) 1 6 (va_A ws sz) := by
  refine va_MetW (cc := cc) (maxL := maxL) (ret := ret) (hh := hh) hy hw ?_
  intro p e s m args below meth c s₁ B hml hv
  obtain ⟨⟨rfl, hsz, hP, hK, hD0, hN⟩, hE⟩ := hv
  have hts := atoms_spec (ws := words) B.pre
  have hown : s.vm.findClass y.cls = some m.cls := findClass_of_methodNamed B.named
  have htb := vx_table (x := y) B (hts (Cond.codeWith y cc maxL ret hh) (by rw [hw]; exact List.mem_cons_self))
  have hl := lv_entry av (n := maxL) hlen
  rw [lg_entry_eq]
  rw [hlv] at hl
  exact W_mono (fun t h => h ⟨hE, kTb.of B.frames B.method (Stand.of_body B).code htb⟩) (k p e s m _ below meth c s.heap [] _ ws ⟨B.exec, B.bytes, hml, B.returns, hown, hts, B.notSynchronized, hK, hsz, hN⟩ hl hP hD0.self va_S.rf (kl_on.init hL) kl_sm.rf)
theorem k_hret {hh : List (Nat × Nat × Nat × Nat)} {v : Int32} (hn : nc ≤ 1 ∧ ns ≤ 6) (hr : X.2.2.2.1 = some .int) (hd : decode X.2.1 pc = .ok (.ireturn, 1)) : KG l X D tys ws sz (kQh D tys hh v L ws sz) nc ns pc lv [.int v] L :=
  fun p e s m args below meth c H locs ls w C hl hP hD hS ho hs => W_mono (fun t h _ => h) (W.widen (k := 1) (n := 6) hn.1 hn.2 (W.iret C.1 C.2.1 (C.2.2.2.1.trans hr) (fun t ht hW => ⟨⟨v, w, rfl, ⟨rfl, ho, hs⟩, by rw [ht]; exact hP, va_K.moved hW.alike C.2.2.2.2.2.2.2.1⟩, hS.F ht⟩) hS.2.2 hd C.2.2.2.2.2.2.1))
/-- a call of a method that returns -/
theorem k_callX0 {hh : List (Nat × Nat × Nat × Nat)} {rh : Int32} {Lh : KL} {y : MethodName} {bytes : ByteArray} {maxL n index : Nat} {rt : Option FieldType} {wc wc' : List Cond} {rm : Room} {As stk : List Value} {Lc L' : KL} {r kc : Int32} {b ci N : Nat} {Cn : String} {T : u_T} {fs : List Value} (hkc : kc = 0) (hG : GoodIn X.2.2.2.2.2 (wsV X.2.2.2.2.1 index Cn y wc)) (hw : wc = Cond.code y bytes maxL rt :: wc') (hrc : rm.cells = 1) (hrs : rm.slots = 6) (hdy : y.cls = Cn ∧ y.cls ≠ "java/lang/invoke/MethodHandle" ∧ y.cls ≠ "java/lang/invoke/VarHandle" ∧ (parseMethodDescriptor y.desc).map (fun d => d.parameters.length) = some n) (hR : rm.frames + 1 ≤ X.1.frames ∧ 8 + (maxL + 11) + rm.locals ≤ X.1.locals) (hcs : 1 ≤ X.1.cells ∧ 6 ≤ X.1.slots) (hn : As.length = n) (hst : stk = As.reverse ++ .ref b :: st) (hroom : (st.map fun v => v.category).sum ≤ 8) (q : Nat) (hk : kl_rd ws L q = some (b, .inr (ci, fs))) (hc : vwCl[ci]? = some (Cn, T, N)) (hd : decode X.2.1 pc = .ok (.invokevirtual index, 3))
    (hM : ∀ (w : va_W) (z : Nat), kl_on ws L w → vx_Met l y wc rm (kPx D tys (.ref b :: As) w z) (kQ0 D tys kc r Lc w z) (kX0 D tys kc Lc w z) 1 6 (va_A w z)) (hkeys : Lc.all (fun q => (kl_look L q.1).isSome) = true) (hL : kl_ovr L Lc = L') (k : KG l X D tys ws sz (kQh D tys hh rh Lh ws sz) 1 6 (pc + 3) lv (.int r :: st) L') : KG l X D tys ws sz (kQh D tys hh rh Lh ws sz) 0 0 pc lv stk L := by
  intro p e s m args below meth c H locs ls w C hl hP hD hS ho hs
  by_cases hE : kEF (va_A ws sz) s ∧ kTb s (fun c => c.exceptionTable.toList = tableOf hh)
  · have hfr := k_free (A := va_A ws sz) C.2.2.2.2.2.2.2.2.1 hD hS
    refine vx_calli (vx_runV (As := As) (rest := st) ⟨C.1, C.2.1, C.2.2.1, C.2.2.2.2.1, C.2.2.2.2.2.1⟩ (hM w H.size ho) (cwV n C.2.2.2.2.2.1 hG hw hrc hrs hdy hR) ⟨kPx_blind, va_recv C.2.2.2.2.2.2.2.1 hP hc ((ho q).trans hk), fun U hU hW => ⟨⟨rfl, by rw [hU], by rw [hU]; exact hP, va_K.moved hW.alike C.2.2.2.2.2.2.2.1, hD.weaken (fun _ _ _ _ => trivial), C.2.2.2.2.2.2.2.2.2.warm hW⟩, hE.1.move hU hW hS.2.1 hfr⟩⟩ rfl hn hl.1 hst (lv_room hroom) hd ⟨by rw [Nat.zero_add]; exact hcs.1, by rw [Nat.zero_add]; exact hcs.2⟩) hS (fun q _ h => hfr q h) hfr (fun q _ h => hfr q h) (fun E ce q9 u t H1 locs1 ht hvm hw hB hz1 hk1 hS hce hcv hcl => ?_) (fun r' u t H1 locs1 ht hvm hw hB hz1 hk1 hS => ?_)
    · have := hB.1
      rw [hkc, show kExN 0 = none by decide] at this
      cases this
    · obtain ⟨hP1, hK1⟩ := hB
      rw [ht] at hP1
      obtain ⟨⟨_, rfl⟩, ho1, hs1⟩ := hw
      exact k p e s m args below meth c H1 locs1 ls u C hl hP1 (hs1.D hD) hS (hL ▸ ho.ovr ho1 (kl_keys hkeys)) (hs.tr hs1)
  · exact W_triv (fun t h => absurd h hE)
/-- a call of a method that throws what the i-th row of the table takes -/
theorem k_callX1 {hh : List (Nat × Nat × Nat × Nat)} {rh : Int32} {Lh : KL} {y : MethodName} {bytes : ByteArray} {maxL n index : Nat} {rt : Option FieldType} {wc wc' : List Cond} {rm : Room} {As stk : List Value} {Lc L' : KL} {r kc : Int32} {b ci N : Nat} {Cn : String} {T : u_T} {fs : List Value} (cls : String) (hcl0 : cls ∈ kExc) (hkc : kExN kc = some cls) (hkc0 : kc ≠ 0) (pre : List ExceptionTableEntry) (x : ExceptionTableEntry) (suf : List ExceptionTableEntry) (hsplit : tableOf hh = pre ++ x :: suf) (hpass : ∀ z ∈ pre, covers z pc = false ∨ (z.catchType ≠ 0 ∧ ∃ nm : String, Cond.classLink X.2.2.2.2.1 z.catchType nm ∈ X.2.2.2.2.2 ∧ (cls, nm) ∈ kNoc)) (hx : covers x pc = true) (h0 : x.catchType ≠ 0) (hlk : Cond.classLink X.2.2.2.2.1 x.catchType cls ∈ X.2.2.2.2.2)
    (hG : GoodIn X.2.2.2.2.2 (wsV X.2.2.2.2.1 index Cn y wc)) (hw : wc = Cond.code y bytes maxL rt :: wc') (hrc : rm.cells = 1) (hrs : rm.slots = 6) (hdy : y.cls = Cn ∧ y.cls ≠ "java/lang/invoke/MethodHandle" ∧ y.cls ≠ "java/lang/invoke/VarHandle" ∧ (parseMethodDescriptor y.desc).map (fun d => d.parameters.length) = some n) (hR : rm.frames + 1 ≤ X.1.frames ∧ 8 + (maxL + 11) + rm.locals ≤ X.1.locals) (hcs : 1 ≤ X.1.cells ∧ 6 ≤ X.1.slots) (hn : As.length = n) (hst : stk = As.reverse ++ .ref b :: st) (hroom : (st.map fun v => v.category).sum ≤ 8) (q : Nat) (hk : kl_rd ws L q = some (b, .inr (ci, fs))) (hc : vwCl[ci]? = some (Cn, T, N)) (hd : decode X.2.1 pc = .ok (.invokevirtual index, 3))
    (hM : ∀ (w : va_W) (z : Nat), kl_on ws L w → vx_Met l y wc rm (kPx D tys (.ref b :: As) w z) (kQ0 D tys kc r Lc w z) (kX0 D tys kc Lc w z) 1 6 (va_A w z)) (hkeys : Lc.all (fun q => (kl_look L q.1).isSome) = true) (hL : kl_ovr L Lc = L') (k : ∀ q9 : Nat, KG l X D tys ws sz (kQh D tys hh rh Lh ws sz) 1 6 x.handlerPc lv [.ref q9] L') : KG l X D tys ws sz (kQh D tys hh rh Lh ws sz) 0 0 pc lv stk L := by
  intro p e s m args below meth c H locs ls w C hl hP hD hS ho hs
  by_cases hE : kEF (va_A ws sz) s ∧ kTb s (fun c => c.exceptionTable.toList = tableOf hh)
  · have hfr := k_free (A := va_A ws sz) C.2.2.2.2.2.2.2.2.1 hD hS
    intro T hT Y
    have htb : c.exceptionTable.toList = pre ++ x :: suf := (hE.2 m args below meth c Y.frames Y.method Y.code).trans hsplit
    refine vx_calli (vx_runV (As := As) (rest := st) ⟨C.1, C.2.1, C.2.2.1, C.2.2.2.2.1, C.2.2.2.2.2.1⟩ (hM w H.size ho) (cwV n C.2.2.2.2.2.1 hG hw hrc hrs hdy hR) ⟨kPx_blind, va_recv C.2.2.2.2.2.2.2.1 hP hc ((ho q).trans hk), fun U hU hW => ⟨⟨rfl, by rw [hU], by rw [hU]; exact hP, va_K.moved hW.alike C.2.2.2.2.2.2.2.1, hD.weaken (fun _ _ _ _ => trivial), C.2.2.2.2.2.2.2.2.2.warm hW⟩, hE.1.move hU hW hS.2.1 hfr⟩⟩ rfl hn hl.1 hst (lv_room hroom) hd ⟨by rw [Nat.zero_add]; exact hcs.1, by rw [Nat.zero_add]; exact hcs.2⟩) hS (fun q _ h => hfr q h) hfr (fun q _ h => hfr q h) (fun E ce q9 u t H1 locs1 ht hvm hw hB hz1 hk1 hS hce hcv hcl => ?_) (fun r' u t H1 locs1 ht hvm hw hB hz1 hk1 hS => ?_) T hT Y
    · obtain ⟨hE9, hP1, hK1⟩ := hB
      have hEe : E = cls := Option.some.inj (hE9.symm.trans hkc)
      subst hEe
      rw [ht] at hP1
      obtain ⟨ho1, hs1⟩ := hw
      refine vx_catch (name := E) C.2.2.2.2.1 pre x suf htb (fun z hz => ?_) hx h0 (C.2.2.2.2.2.1 _ hlk) (va_Nw.use rfl (hE.1.2.2.2.1 E hcl0)) hce hcv hcl (k q9 p e s m args below meth c H1 locs1 ls u C hl hP1 (hs1.D hD) hS (hL ▸ ho.ovr ho1 (kl_keys hkeys)) (hs.tr hs1))
      rcases hpass z hz with h | ⟨h1, nm, h2, h3⟩
      · exact Or.inl h
      · exact Or.inr ⟨h1, nm, C.2.2.2.2.2.1 _ h2, hE.1.2.2.2.2.1 _ h3⟩
    · exact absurd hw.1.1 hkc0
  · exact W_triv (fun t h => absurd h hE)
end KXrows
