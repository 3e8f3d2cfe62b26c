/-! the judgement KW and its rows -/
abbrev KX : Type := Room × ByteArray × Nat × Option FieldType × String × List Cond
abbrev KL : Type := List (Nat × (Nat × va_E))
def kl_look : KL → Nat → Option (Nat × va_E)
  | [], _ => none
  | q :: L, k => if q.1 = k then some q.2 else kl_look L k
def kl_rd (ws : va_W) (L : KL) (k : Nat) : Option (Nat × va_E) := match kl_look L k with
  | some c => some c
  | none => ws[k]?
def kl_on (ws : va_W) (L : KL) (w : va_W) : Prop := ∀ k : Nat, w[k]? = kl_rd ws L k
def kl_sm (ws w : va_W) : Prop := ∀ k : Nat, (w[k]?).map (fun q => q.1) = (ws[k]?).map (fun q => q.1)
def kl_put (L : KL) (k : Nat) (c : Nat × va_E) : KL := L.map (fun q => if q.1 = k then (k, c) else q)
def kl_ovr (L Lc : KL) : KL := L.map (fun q => match kl_look Lc q.1 with
  | some c => (q.1, c)
  | none => q)
theorem kl_sm.rf {ws : va_W} : kl_sm ws ws := fun _ => rfl
theorem kl_sm.tr {a b c : va_W} (h1 : kl_sm a b) (h2 : kl_sm b c) : kl_sm a c := fun k => (h2 k).trans (h1 k)
theorem kl_look_put {L : KL} {k : Nat} {c : Nat × va_E} (h : (kl_look L k).isSome = true) (j : Nat) : kl_look (kl_put L k c) j = if j = k then some c else kl_look L j := by
  induction L with
  | nil => simp [kl_look] at h
  | cons q L ih =>
    by_cases hq : q.1 = k
    · by_cases hj : j = k
      · subst hj
        simp [kl_put, kl_look, hq]
      · have hkj : ¬ k = j := fun e => hj e.symm
        have hqj : ¬ q.1 = j := fun e => hj (e.symm.trans hq)
        simp only [kl_put, List.map_cons, hq, if_true, kl_look, hkj, if_false, hj]
        by_cases hs : (kl_look L k).isSome = true
        · have := ih hs
          simp only [hj, if_false] at this
          exact this
        · have : ∀ (M : KL), ¬ (kl_look M k).isSome = true → kl_look (M.map (fun q => if q.1 = k then (k, c) else q)) j = kl_look M j := by
            intro M
            induction M with
            | nil => intro _; rfl
            | cons r M ihM =>
              intro hM
              have hr : ¬ r.1 = k := fun e => hM (by simp [kl_look, e])
              have hM2 : ¬ (kl_look M k).isSome = true := fun e => hM (by simp [kl_look, hr, e])
              simp only [List.map_cons, hr, if_false, kl_look]
              rw [ihM hM2]
          exact this L hs
    · have h2 : (kl_look L k).isSome = true := by simpa [kl_look, hq] using h
      have := ih h2
      by_cases hj : j = k
      · subst hj
        simp only [if_true] at this ⊢
        simp only [kl_put, List.map_cons, hq, if_false, kl_look]
        exact this
      · simp only [hj, if_false] at this ⊢
        simp only [kl_put, List.map_cons, hq, if_false, kl_look]
        by_cases hqj : q.1 = j
        · simp [hqj]
        · simp only [hqj, if_false]
          exact this
theorem kl_look_ovr {L Lc : KL} (j : Nat) : kl_look (kl_ovr L Lc) j = (kl_look L j).map (fun c => (kl_look Lc j).getD c) := by
  induction L with
  | nil => rfl
  | cons q L ih =>
    by_cases hj : q.1 = j
    · subst hj
      cases h : kl_look Lc q.1 with
      | none => simp [kl_ovr, kl_look, h]
      | some c => simp [kl_ovr, kl_look, h]
    · cases h : kl_look Lc q.1 with
      | none => simpa [kl_ovr, kl_look, h, hj] using ih
      | some c => simpa [kl_ovr, kl_look, h, hj] using ih
theorem kl_on.ovr {ws w u : va_W} {L Lc : KL} (h1 : kl_on ws L w) (h2 : kl_on w Lc u) (hk : ∀ j, (kl_look Lc j).isSome = true → (kl_look L j).isSome = true) : kl_on ws (kl_ovr L Lc) u := by
  intro k
  rw [h2 k]
  unfold kl_rd
  rw [kl_look_ovr]
  cases hc : kl_look Lc k with
  | some c =>
    have := hk k (by rw [hc]; rfl)
    cases hL : kl_look L k with
    | none => rw [hL] at this; cases this
    | some c0 => simp
  | none =>
    rw [show w[k]? = kl_rd ws L k from h1 k]
    unfold kl_rd
    cases hL : kl_look L k with
    | none => simp
    | some c0 => simp
theorem kl_keys {L Lc : KL} (h : Lc.all (fun q => (kl_look L q.1).isSome) = true) : ∀ j, (kl_look Lc j).isSome = true → (kl_look L j).isSome = true := by
  intro j hj
  induction Lc with
  | nil => simp [kl_look] at hj
  | cons q Lc ih =>
    simp only [List.all_cons, Bool.and_eq_true] at h
    by_cases hq : q.1 = j
    · rw [← hq]; exact h.1
    · exact ih h.2 (by simpa [kl_look, hq] using hj)
theorem kl_on.init {ws : va_W} {L : KL} (h : ∀ q ∈ L, ws[q.1]? = some q.2) : kl_on ws L ws := by
  intro k
  unfold kl_rd
  cases hc : kl_look L k with
  | none => rfl
  | some c =>
    have : ∀ M : KL, (∀ q ∈ M, ws[q.1]? = some q.2) → ∀ c, kl_look M k = some c → ws[k]? = some c := by
      intro M
      induction M with
      | nil => intro _ c h; simp [kl_look] at h
      | cons q M ih =>
        intro hM c hc
        by_cases hq : q.1 = k
        · have e : q.2 = c := by simpa [kl_look, hq] using hc
          rw [← hq, ← e]
          exact hM q List.mem_cons_self
        · exact ih (fun r hr => hM r (List.mem_cons_of_mem _ hr)) c (by simpa [kl_look, hq] using hc)
    exact this L h c hc
theorem kl_set_on {ws w : va_W} {L : KL} {k a : Nat} {e1 e2 : va_E} (h : kl_on ws L w) (hs : (kl_look L k).isSome = true) (hk : kl_rd ws L k = some (a, e1)) : kl_on ws (kl_put L k (a, e2)) (w.set k (a, e2)) := by
  intro j
  have hw : w[k]? = some (a, e1) := (h k).trans hk
  have hlt : k < w.length := (List.getElem?_eq_some_iff.mp hw).1
  unfold kl_rd
  rw [kl_look_put hs]
  by_cases hj : j = k
  · subst hj
    simp [hlt]
  · have hkj : ¬ k = j := fun e => hj e.symm
    simp only [hj, if_false]
    rw [List.getElem?_set_ne hkj]
    exact h j
theorem kl_set_sm {ws w : va_W} {k a : Nat} {e1 e2 : va_E} (h : kl_sm ws w) (hw : w[k]? = some (a, e1)) : kl_sm ws (w.set k (a, e2)) := by
  intro j
  by_cases hj : j = k
  · subst hj
    have hlt : j < w.length := (List.getElem?_eq_some_iff.mp hw).1
    rw [← h j, hw]
    simp [hlt]
  · have hkj : ¬ k = j := fun e => hj e.symm
    rw [List.getElem?_set_ne hkj]
    exact h j
theorem kl_sm.D {ws w : va_W} {A : Nat → Prop} (h : kl_sm ws w) (hD : va_D A ws) : va_D A w := by
  have h2 : ∀ (k : Nat) (q : Nat × va_E), w[k]? = some q → ∃ q', ws[k]? = some q' ∧ q'.1 = q.1 := by
    intro k q hq
    have := h k
    rw [hq] at this
    cases hc : ws[k]? with
    | none => rw [hc] at this; cases this
    | some q' => rw [hc] at this; exact ⟨q', rfl, (Option.some.inj this).symm⟩
  refine ⟨fun i j p q hp hq e => ?_, fun k q hq => ?_⟩
  · obtain ⟨p', hp', ep⟩ := h2 i p hp
    obtain ⟨q', hq', eq⟩ := h2 j q hq
    exact hD.1 i j p' q' hp' hq' (ep.trans (e.trans eq.symm))
  · obtain ⟨q', hq', eq⟩ := h2 k q hq
    rw [← eq]
    exact hD.2 k q' hq'

abbrev kT (cI cB cJ cZ : ClassId) : List (ClassId × FieldType) := [(cI, .int), (cB, .byte), (cJ, .long), (cZ, .boolean)]
def nestF : List (String × Nat × String × String × String × String) := [("KindParser", 127, "KindParser$Cut", "size", "I", "KindParser"), ("KindParser", 137, "KindParser$Tree", "skipped", "I", "KindParser"), ("KindParser", 140, "KindParser$Tree", "size", "I", "KindParser"), ("KindParser", 165, "KindParser$Page", "size", "I", "KindParser"), ("KindParser", 83, "KindParser$Grammar", "size", "I", "KindParser"), ("KindParser$Chart", 36, "KindParser$Cut", "size", "I", "KindParser"), ("KindParser$Chart", 70, "KindParser$Grammar", "size", "I", "KindParser"), ("KindParser$Chart", 77, "KindParser$Grammar", "lengths", "[I", "KindParser"), ("KindParser$Chart", 94, "KindParser$Grammar", "heads", "[I", "KindParser"), ("KindParser$Page", 113, "KindParser$Cut", "starts", "[I", "KindParser"), ("KindParser$Page", 116, "KindParser$Cut", "lengths", "[I", "KindParser"), ("KindParser$Page", 122, "KindParser$Cut", "firstComments", "[I", "KindParser"), ("KindParser$Page", 125, "KindParser$Cut", "commentStarts", "[I", "KindParser"), ("KindParser$Page", 128, "KindParser$Cut", "commentEnds", "[I", "KindParser"), ("KindParser$Page", 131, "KindParser$Cut", "size", "I", "KindParser"), ("KindParser$Page", 132, "KindParser$Tree", "skipped", "I", "KindParser"), ("KindParser$Page", 135, "KindParser$Cut", "text", "[B", "KindParser"), ("KindParser$Page", 48, "KindParser$Tree", "size", "I", "KindParser"), ("KindParser$Page", 86, "KindParser$Tree", "hints", "[I", "KindParser"), ("KindParser$Page", 98, "KindParser$Grammar", "ins", "[Z", "KindParser"), ("KindParser$Tree", 97, "KindParser$Grammar", "lengths", "[I", "KindParser")]
def nestM : List (String × Nat × MethodName × String) := [("KindParser", 11, ⟨"KindParser$Grammar", "<init>", "()V"⟩, "KindParser"), ("KindParser", 26, ⟨"KindParser$Cut", "<init>", "()V"⟩, "KindParser"), ("KindParser$Cut", 72, ⟨"KindParser", "isDigit", "(I)Z"⟩, "KindParser"), ("KindParser$Grammar", 43, ⟨"KindParser", "isKind", "(I)Z"⟩, "KindParser"), ("KindParser$Tree", 82, ⟨"KindParser", "isKind", "(I)Z"⟩, "KindParser")]
def kN (U : State) : Prop := (∀ q ∈ nestF, va_Nw (.fieldLinkNest q.1 q.2.1 q.2.2.1 q.2.2.2.1 q.2.2.2.2.1 q.2.2.2.2.2) U) ∧ ∀ q ∈ nestM, va_Nw (.methodLinkNest q.1 q.2.1 q.2.2.1 q.2.2.2) U
theorem kN.warm {s U : State} (hW : s.WarmedH U.vm) (h : kN s) : kN U := ⟨fun q hq => va_Nw.warmF hW (h.1 q hq), fun q hq => va_Nw.warmM hW (h.2 q hq)⟩
theorem kN.same {s U : State} (hW : s.vm = U.vm) (h : kN s) : kN U := ⟨fun q hq => va_Nw.same rfl hW (h.1 q hq), fun q hq => va_Nw.same rfl hW (h.2 q hq)⟩
/-- what a method of the system finds: its arguments, the world ws, the classes, the nest's links -/
def kPc (D : va_G) (tys : List (ClassId × FieldType)) (av : List Value) (ws : va_W) (sz : Nat) : Array Value → State → Prop := va_Pc av (fun U => U.heap.size = sz ∧ va_P D vwCl ws U.heap ∧ va_K D vwCl tys U ∧ va_D (fun _ => True) ws ∧ kN U)
def kB (D : va_G) (tys : List (ClassId × FieldType)) : va_W → State → Prop := fun u t => va_P D vwCl u t.heap ∧ va_K D vwCl tys t
def kQi (D : va_G) (tys : List (ClassId × FieldType)) (r : Int32) (Lc : KL) (ws : va_W) (sz : Nat) := va_Qi (fun (v : Int32) (u : va_W) => v = r ∧ kl_on ws Lc u ∧ kl_sm ws u) (kB D tys) (va_A ws sz)
def kQl (D : va_G) (tys : List (ClassId × FieldType)) (r : Int64) (Lc : KL) (ws : va_W) (sz : Nat) := va_Ql (fun (v : Int64) (u : va_W) => v = r ∧ kl_on ws Lc u ∧ kl_sm ws u) (kB D tys) (va_A ws sz)
def kQv (D : va_G) (tys : List (ClassId × FieldType)) (Lc : KL) (ws : va_W) (sz : Nat) := va_Qv (fun (u : va_W) => kl_on ws Lc u ∧ kl_sm ws u) (kB D tys) (va_A ws sz)
theorem kPc_blind {D : va_G} {tys : List (ClassId × FieldType)} {av : List Value} {ws : va_W} {sz : Nat} : FrameBlind (kPc D tys av ws sz) := fun a U g mk q => by
  obtain ⟨q0, q1, qP, qK, qD, qN⟩ := q
  exact ⟨q0, q1, qP, va_K.moved (u := U) (U := U.calling g mk a) (Vm.Alike.refl U.vm) qK, qD, qN.same (U := U.calling g mk a) rfl⟩
def KC (p : Program) (X : KX) (s : State) (m : MethodId) (args : Array Value) (meth : Method) (c : Code) (D : va_G) (tys : List (ClassId × FieldType)) (sz : Nat) : Prop :=
  p.tables.exec = Jvm.exec ∧ c.code = X.2.1 ∧ c.maxLocals = X.2.2.1 ∧ meth.sig.returnType = X.2.2.2.1 ∧ s.vm.findClass X.2.2.2.2.1 = some m.cls ∧ (∀ w ∈ X.2.2.2.2.2, w.before args s = true) ∧ meth.locks = false ∧ va_K D vwCl tys s ∧ s.heap.size = sz ∧ kN s
def KG (l : Launch) (X : KX) (D : va_G) (tys : List (ClassId × FieldType)) (ws : va_W) (sz : Nat) (Qg : List Frame → Array Value → State → State → Prop) (nc ns : Nat) (pc : Nat) (lv : List (Nat × Value)) (st : List Value) (L : KL) : Prop :=
  ∀ (p : Program) (e : Env) (s : State) (m : MethodId) (args : Array Value) (below : List Frame) (meth : Method) (c : Code) (H : Heap) (locs : List Loc) (ls : Array Slot) (w : va_W), KC p X s m args meth c D tys sz → lv_has ls X.2.2.1 lv → va_P D vwCl w H → va_D (va_A ws sz) w → va_S (va_A ws sz) s.heap H locs → kl_on ws L w → kl_sm ws w → W p l e X.1 s m args below meth c H locs nc ns (Qg below args s) (F0 m pc ls st)
/-- a method that returns, and makes nothing -/
abbrev KW (l : Launch) (X : KX) (D : va_G) (tys : List (ClassId × FieldType)) (ws : va_W) (sz : Nat) (Qc : Array Value → State → Outcome → State → Prop) (pc : Nat) (lv : List (Nat × Value)) (st : List Value) (L : KL) : Prop :=
  KG l X D tys ws sz (fun below args s => MQ below Qc args s 0 0 (va_A ws sz)) 0 0 pc lv st L
/-- a contract out of the walk from its entry -/
theorem KW.met {l : Launch} {D : va_G} {tys : List (ClassId × FieldType)} {ws : va_W} {sz : Nat} {Qc : Array Value → State → Outcome → State → Prop} {y : MethodName} {words words' : List Cond} {rm : Room} {cc : ByteArray} {maxL : Nat} {ret : Option FieldType} {av : List Value} {lv : List (Nat × Value)} {L : KL}
    (hw : words = Cond.code y cc maxL ret :: words') (hy : plainName y.cls = true) (hlen : (lg_sl av).length ≤ maxL) (hlv : lv_args 0 av = lv) (hL : ∀ q ∈ L, ws[q.1]? = some q.2)
    (k : KW l (rm, cc, maxL, ret, y.cls, words) D tys ws sz Qc 0 lv [] L) : Met l y words rm (kPc D tys av ws sz) Qc 0 0 (va_A ws sz) := by
  refine Met.ofW (cc := cc) (maxL := maxL) (ret := ret) hy hw ?_
  intro p e s m args below meth c s₁ B hml hv
  obtain ⟨rfl, hsz, hP, hK, hD0, hN⟩ := hv
  have hts := atoms_spec (ws := words) B.pre
  have hown : s.vm.findClass y.cls = some m.cls := findClass_of_methodNamed B.named
  have hl := lv_entry av (n := maxL) hlen
  rw [lg_entry_eq]
  rw [hlv] at hl
  exact k p e s m _ below meth c s.heap [] _ ws ⟨B.exec, B.bytes, hml, B.returns, hown, hts, B.notSynchronized, hK, hsz, hN⟩ hl hP hD0.self va_S.rf (kl_on.init hL) kl_sm.rf
section KWrows
variable {l : Launch} {X : KX} {D : va_G} {tys : List (ClassId × FieldType)} {ws : va_W} {sz : Nat} {Qc : List Frame → Array Value → State → State → Prop} {nc ns : Nat} {pc : Nat} {lv : List (Nat × Value)} {st : List Value} {L : KL}
theorem KW.eq {pc' : Nat} {lv' : List (Nat × Value)} {st' : List Value} {L' : KL} (h1 : pc' = pc) (h2 : lv' = lv) (h3 : st' = st) (h4 : L' = L) (k : KG l X D tys ws sz Qc nc ns pc' lv' st' L') : KG l X D tys ws sz Qc nc ns pc lv st L := h1 ▸ h2 ▸ h3 ▸ h4 ▸ k
theorem k_sub {lv' : List (Nat × Value)} (ks : List Nat) (hl : lv_pick lv ks = lv') (k : KG l X D tys ws sz Qc nc ns pc lv' st L) : KG l X D tys ws sz Qc nc ns pc lv st L :=
  fun p e s m args below meth c H locs ls w C h hP hD hS ho hs => k p e s m args below meth c H locs ls w C (lv_sub h ks hl) hP hD hS ho hs

theorem k_iconst {n : Int} {v : Int32} (hd : decode X.2.1 pc = .ok (.iconst n, 1)) (hv : Int32.ofInt n = v) (k : KG l X D tys ws sz Qc nc ns (pc + 1) lv (.int v :: st) L) : KG l X D tys ws sz Qc nc ns pc lv (st) L :=
  fun p e s m args below meth c H locs ls w C hl hP hD hS ho hs => lv_iconst C.1 C.2.1 hd hv (k p e s m args below meth c H locs ls w C hl hP hD hS ho hs)
theorem k_bipush {n : Int} {v : Int32} (hd : decode X.2.1 pc = .ok (.bipush n, 2)) (hv : (Int8.ofInt n).toInt32 = v) (k : KG l X D tys ws sz Qc nc ns (pc + 2) lv (.int v :: st) L) : KG l X D tys ws sz Qc nc ns pc lv (st) L :=
  fun p e s m args below meth c H locs ls w C hl hP hD hS ho hs => lv_bipush C.1 C.2.1 hd hv (k p e s m args below meth c H locs ls w C hl hP hD hS ho hs)
theorem k_sipush {n : Int} {v : Int32} (hd : decode X.2.1 pc = .ok (.sipush n, 3)) (hv : (Int16.ofInt n).toInt32 = v) (k : KG l X D tys ws sz Qc nc ns (pc + 3) lv (.int v :: st) L) : KG l X D tys ws sz Qc nc ns pc lv (st) L :=
  fun p e s m args below meth c H locs ls w C hl hP hD hS ho hs => lv_sipush C.1 C.2.1 hd hv (k p e s m args below meth c H locs ls w C hl hP hD hS ho hs)
theorem k_lconst {n : Fin 2} {v : Int64} (hd : decode X.2.1 pc = .ok (.lconst n, 1)) (hv : Int64.ofNat (n : Nat) = v) (k : KG l X D tys ws sz Qc nc ns (pc + 1) lv (.long v :: st) L) : KG l X D tys ws sz Qc nc ns pc lv (st) L :=
  fun p e s m args below meth c H locs ls w C hl hP hD hS ho hs => lv_lconst C.1 C.2.1 hd hv (k p e s m args below meth c H locs ls w C hl hP hD hS ho hs)
theorem k_iload_n {n : Fin 4} {i : Nat} {x : Int32} (hd : decode X.2.1 pc = .ok (.iload_n n, 1)) (j : Nat) (hi : (n : Nat) = i) (hj : lv[j]? = some (i, .int x)) (k : KG l X D tys ws sz Qc nc ns (pc + 1) lv (.int x :: st) L) : KG l X D tys ws sz Qc nc ns pc lv (st) L :=
  fun p e s m args below meth c H locs ls w C hl hP hD hS ho hs => lv_iload_n C.1 C.2.1 hd hi (lv_at hl j hj) (k p e s m args below meth c H locs ls w C hl hP hD hS ho hs)
theorem k_iload {i : Nat} {x : Int32} (hd : decode X.2.1 pc = .ok (.iload i, 2)) (j : Nat) (hj : lv[j]? = some (i, .int x)) (k : KG l X D tys ws sz Qc nc ns (pc + 2) lv (.int x :: st) L) : KG l X D tys ws sz Qc nc ns pc lv (st) L :=
  fun p e s m args below meth c H locs ls w C hl hP hD hS ho hs => lv_iload C.1 C.2.1 hd (lv_at hl j hj) (k p e s m args below meth c H locs ls w C hl hP hD hS ho hs)
theorem k_lload_n {n : Fin 4} {i : Nat} {x : Int64} (hd : decode X.2.1 pc = .ok (.lload_n n, 1)) (j : Nat) (hi : (n : Nat) = i) (hj : lv[j]? = some (i, .long x)) (k : KG l X D tys ws sz Qc nc ns (pc + 1) lv (.long x :: st) L) : KG l X D tys ws sz Qc nc ns pc lv (st) L :=
  fun p e s m args below meth c H locs ls w C hl hP hD hS ho hs => lv_lload_n C.1 C.2.1 hd hi (lv_at hl j hj) (k p e s m args below meth c H locs ls w C hl hP hD hS ho hs)
theorem k_lload {i : Nat} {x : Int64} (hd : decode X.2.1 pc = .ok (.lload i, 2)) (j : Nat) (hj : lv[j]? = some (i, .long x)) (k : KG l X D tys ws sz Qc nc ns (pc + 2) lv (.long x :: st) L) : KG l X D tys ws sz Qc nc ns pc lv (st) L :=
  fun p e s m args below meth c H locs ls w C hl hP hD hS ho hs => lv_lload C.1 C.2.1 hd (lv_at hl j hj) (k p e s m args below meth c H locs ls w C hl hP hD hS ho hs)
theorem k_aload_n {n : Fin 4} {i : Nat} {x : Nat} (hd : decode X.2.1 pc = .ok (.aload_n n, 1)) (j : Nat) (hi : (n : Nat) = i) (hj : lv[j]? = some (i, .ref x)) (k : KG l X D tys ws sz Qc nc ns (pc + 1) lv (.ref x :: st) L) : KG l X D tys ws sz Qc nc ns pc lv (st) L :=
  fun p e s m args below meth c H locs ls w C hl hP hD hS ho hs => lv_aload_n C.1 C.2.1 hd hi (lv_at hl j hj) (k p e s m args below meth c H locs ls w C hl hP hD hS ho hs)
theorem k_aload {i : Nat} {x : Nat} (hd : decode X.2.1 pc = .ok (.aload i, 2)) (j : Nat) (hj : lv[j]? = some (i, .ref x)) (k : KG l X D tys ws sz Qc nc ns (pc + 2) lv (.ref x :: st) L) : KG l X D tys ws sz Qc nc ns pc lv (st) L :=
  fun p e s m args below meth c H locs ls w C hl hP hD hS ho hs => lv_aload C.1 C.2.1 hd (lv_at hl j hj) (k p e s m args below meth c H locs ls w C hl hP hD hS ho hs)
theorem k_iadd {x y : Int32} (hd : decode X.2.1 pc = .ok (.iadd, 1))  (k : KG l X D tys ws sz Qc nc ns (pc + 1) lv (.int (x + y) :: st) L) : KG l X D tys ws sz Qc nc ns pc lv (.int y :: .int x :: st) L :=
  fun p e s m args below meth c H locs ls w C hl hP hD hS ho hs => lv_iadd C.1 C.2.1 hd  (k p e s m args below meth c H locs ls w C hl hP hD hS ho hs)
theorem k_isub {x y : Int32} (hd : decode X.2.1 pc = .ok (.isub, 1))  (k : KG l X D tys ws sz Qc nc ns (pc + 1) lv (.int (x - y) :: st) L) : KG l X D tys ws sz Qc nc ns pc lv (.int y :: .int x :: st) L :=
  fun p e s m args below meth c H locs ls w C hl hP hD hS ho hs => lv_isub C.1 C.2.1 hd  (k p e s m args below meth c H locs ls w C hl hP hD hS ho hs)
theorem k_imul {x y : Int32} (hd : decode X.2.1 pc = .ok (.imul, 1))  (k : KG l X D tys ws sz Qc nc ns (pc + 1) lv (.int (x * y) :: st) L) : KG l X D tys ws sz Qc nc ns pc lv (.int y :: .int x :: st) L :=
  fun p e s m args below meth c H locs ls w C hl hP hD hS ho hs => lv_imul C.1 C.2.1 hd  (k p e s m args below meth c H locs ls w C hl hP hD hS ho hs)
theorem k_iand {x y : Int32} (hd : decode X.2.1 pc = .ok (.iand, 1))  (k : KG l X D tys ws sz Qc nc ns (pc + 1) lv (.int (x &&& y) :: st) L) : KG l X D tys ws sz Qc nc ns pc lv (.int y :: .int x :: st) L :=
  fun p e s m args below meth c H locs ls w C hl hP hD hS ho hs => lv_iand C.1 C.2.1 hd  (k p e s m args below meth c H locs ls w C hl hP hD hS ho hs)
theorem k_ior {x y : Int32} (hd : decode X.2.1 pc = .ok (.ior, 1))  (k : KG l X D tys ws sz Qc nc ns (pc + 1) lv (.int (x ||| y) :: st) L) : KG l X D tys ws sz Qc nc ns pc lv (.int y :: .int x :: st) L :=
  fun p e s m args below meth c H locs ls w C hl hP hD hS ho hs => lv_ior C.1 C.2.1 hd  (k p e s m args below meth c H locs ls w C hl hP hD hS ho hs)
theorem k_ishl {x y : Int32} (hd : decode X.2.1 pc = .ok (.ishl, 1))  (k : KG l X D tys ws sz Qc nc ns (pc + 1) lv (.int (x <<< (y &&& 31)) :: st) L) : KG l X D tys ws sz Qc nc ns pc lv (.int y :: .int x :: st) L :=
  fun p e s m args below meth c H locs ls w C hl hP hD hS ho hs => lv_ishl C.1 C.2.1 hd  (k p e s m args below meth c H locs ls w C hl hP hD hS ho hs)
theorem k_ishr {x y : Int32} (hd : decode X.2.1 pc = .ok (.ishr, 1))  (k : KG l X D tys ws sz Qc nc ns (pc + 1) lv (.int (x >>> (y &&& 31)) :: st) L) : KG l X D tys ws sz Qc nc ns pc lv (.int y :: .int x :: st) L :=
  fun p e s m args below meth c H locs ls w C hl hP hD hS ho hs => lv_ishr C.1 C.2.1 hd  (k p e s m args below meth c H locs ls w C hl hP hD hS ho hs)
theorem k_ladd {x y : Int64} (hd : decode X.2.1 pc = .ok (.ladd, 1))  (k : KG l X D tys ws sz Qc nc ns (pc + 1) lv (.long (x + y) :: st) L) : KG l X D tys ws sz Qc nc ns pc lv (.long y :: .long x :: st) L :=
  fun p e s m args below meth c H locs ls w C hl hP hD hS ho hs => lv_ladd C.1 C.2.1 hd  (k p e s m args below meth c H locs ls w C hl hP hD hS ho hs)
theorem k_lsub {x y : Int64} (hd : decode X.2.1 pc = .ok (.lsub, 1))  (k : KG l X D tys ws sz Qc nc ns (pc + 1) lv (.long (x - y) :: st) L) : KG l X D tys ws sz Qc nc ns pc lv (.long y :: .long x :: st) L :=
  fun p e s m args below meth c H locs ls w C hl hP hD hS ho hs => lv_lsub C.1 C.2.1 hd  (k p e s m args below meth c H locs ls w C hl hP hD hS ho hs)
theorem k_lmul {x y : Int64} (hd : decode X.2.1 pc = .ok (.lmul, 1))  (k : KG l X D tys ws sz Qc nc ns (pc + 1) lv (.long (x * y) :: st) L) : KG l X D tys ws sz Qc nc ns pc lv (.long y :: .long x :: st) L :=
  fun p e s m args below meth c H locs ls w C hl hP hD hS ho hs => lv_lmul C.1 C.2.1 hd  (k p e s m args below meth c H locs ls w C hl hP hD hS ho hs)
theorem k_land {x y : Int64} (hd : decode X.2.1 pc = .ok (.land, 1))  (k : KG l X D tys ws sz Qc nc ns (pc + 1) lv (.long (x &&& y) :: st) L) : KG l X D tys ws sz Qc nc ns pc lv (.long y :: .long x :: st) L :=
  fun p e s m args below meth c H locs ls w C hl hP hD hS ho hs => lv_land C.1 C.2.1 hd  (k p e s m args below meth c H locs ls w C hl hP hD hS ho hs)
theorem k_lor {x y : Int64} (hd : decode X.2.1 pc = .ok (.lor, 1))  (k : KG l X D tys ws sz Qc nc ns (pc + 1) lv (.long (x ||| y) :: st) L) : KG l X D tys ws sz Qc nc ns pc lv (.long y :: .long x :: st) L :=
  fun p e s m args below meth c H locs ls w C hl hP hD hS ho hs => lv_lor C.1 C.2.1 hd  (k p e s m args below meth c H locs ls w C hl hP hD hS ho hs)
theorem k_idiv {x y : Int32} (hd : decode X.2.1 pc = .ok (.idiv, 1)) (hne : ¬ y = 0) (k : KG l X D tys ws sz Qc nc ns (pc + 1) lv (.int (x / y) :: st) L) : KG l X D tys ws sz Qc nc ns pc lv (.int y :: .int x :: st) L :=
  fun p e s m args below meth c H locs ls w C hl hP hD hS ho hs => lv_idiv C.1 C.2.1 hd hne (k p e s m args below meth c H locs ls w C hl hP hD hS ho hs)
theorem k_irem {x y : Int32} (hd : decode X.2.1 pc = .ok (.irem, 1)) (hne : ¬ y = 0) (k : KG l X D tys ws sz Qc nc ns (pc + 1) lv (.int (x - x / y * y) :: st) L) : KG l X D tys ws sz Qc nc ns pc lv (.int y :: .int x :: st) L :=
  fun p e s m args below meth c H locs ls w C hl hP hD hS ho hs => lv_irem C.1 C.2.1 hd hne (k p e s m args below meth c H locs ls w C hl hP hD hS ho hs)
theorem k_i2l {x : Int32} (hd : decode X.2.1 pc = .ok (.i2l, 1))  (k : KG l X D tys ws sz Qc nc ns (pc + 1) lv (.long x.toInt64 :: st) L) : KG l X D tys ws sz Qc nc ns pc lv (.int x :: st) L :=
  fun p e s m args below meth c H locs ls w C hl hP hD hS ho hs => lv_i2l C.1 C.2.1 hd rfl (k p e s m args below meth c H locs ls w C hl hP hD hS ho hs)
theorem k_l2i {x : Int64} (hd : decode X.2.1 pc = .ok (.l2i, 1))  (k : KG l X D tys ws sz Qc nc ns (pc + 1) lv (.int x.toInt32 :: st) L) : KG l X D tys ws sz Qc nc ns pc lv (.long x :: st) L :=
  fun p e s m args below meth c H locs ls w C hl hP hD hS ho hs => lv_l2i C.1 C.2.1 hd rfl (k p e s m args below meth c H locs ls w C hl hP hD hS ho hs)
theorem k_i2b {x : Int32} (hd : decode X.2.1 pc = .ok (.i2b, 1))  (k : KG l X D tys ws sz Qc nc ns (pc + 1) lv (.int x.toInt8.toInt32 :: st) L) : KG l X D tys ws sz Qc nc ns pc lv (.int x :: st) L :=
  fun p e s m args below meth c H locs ls w C hl hP hD hS ho hs => lv_i2b C.1 C.2.1 hd rfl (k p e s m args below meth c H locs ls w C hl hP hD hS ho hs)
theorem k_lushr {x : Int64} {y : Int32} (hd : decode X.2.1 pc = .ok (.lushr, 1))  (k : KG l X D tys ws sz Qc nc ns (pc + 1) lv (.long (x.toUInt64 >>> (y.toInt64.toUInt64 &&& Int64.toUInt64 63)).toInt64 :: st) L) : KG l X D tys ws sz Qc nc ns pc lv (.int y :: .long x :: st) L :=
  fun p e s m args below meth c H locs ls w C hl hP hD hS ho hs => lv_lushr C.1 C.2.1 hd rfl (k p e s m args below meth c H locs ls w C hl hP hD hS ho hs)
theorem k_lshl {x : Int64} {y : Int32} (hd : decode X.2.1 pc = .ok (.lshl, 1))  (k : KG l X D tys ws sz Qc nc ns (pc + 1) lv (.long (x <<< (y.toInt64 &&& 63)) :: st) L) : KG l X D tys ws sz Qc nc ns pc lv (.int y :: .long x :: st) L :=
  fun p e s m args below meth c H locs ls w C hl hP hD hS ho hs => lv_lshl C.1 C.2.1 hd rfl (k p e s m args below meth c H locs ls w C hl hP hD hS ho hs)
theorem k_lshr {x : Int64} {y : Int32} (hd : decode X.2.1 pc = .ok (.lshr, 1))  (k : KG l X D tys ws sz Qc nc ns (pc + 1) lv (.long (x >>> (y.toInt64 &&& 63)) :: st) L) : KG l X D tys ws sz Qc nc ns pc lv (.int y :: .long x :: st) L :=
  fun p e s m args below meth c H locs ls w C hl hP hD hS ho hs => lv_lshr C.1 C.2.1 hd rfl (k p e s m args below meth c H locs ls w C hl hP hD hS ho hs)
theorem k_lcmp {x y : Int64} (hd : decode X.2.1 pc = .ok (.lcmp, 1))  (k : KG l X D tys ws sz Qc nc ns (pc + 1) lv (.int (lg_cmp x y) :: st) L) : KG l X D tys ws sz Qc nc ns pc lv (.long y :: .long x :: st) L :=
  fun p e s m args below meth c H locs ls w C hl hP hD hS ho hs => W.lcmp C.1 C.2.1 hd  (k p e s m args below meth c H locs ls w C hl hP hD hS ho hs)
theorem k_dup {v : Value} (hd : decode X.2.1 pc = .ok (.dup, 1)) (hv : v.category = 1) (k : KG l X D tys ws sz Qc nc ns (pc + 1) lv (v :: v :: st) L) : KG l X D tys ws sz Qc nc ns pc lv (v :: st) L :=
  fun p e s m args below meth c H locs ls w C hl hP hD hS ho hs => lv_dup C.1 C.2.1 hd hv (k p e s m args below meth c H locs ls w C hl hP hD hS ho hs)
theorem k_pop {v : Value} (hd : decode X.2.1 pc = .ok (.pop, 1)) (hv : v.category = 1) (k : KG l X D tys ws sz Qc nc ns (pc + 1) lv (st) L) : KG l X D tys ws sz Qc nc ns pc lv (v :: st) L :=
  fun p e s m args below meth c H locs ls w C hl hP hD hS ho hs => lv_pop C.1 C.2.1 hd hv (k p e s m args below meth c H locs ls w C hl hP hD hS ho hs)
theorem k_dup2 {va vb : Value} (hd : decode X.2.1 pc = .ok (.dup2, 1)) (hva : va.category = 1) (hvb : vb.category = 1) (k : KG l X D tys ws sz Qc nc ns (pc + 1) lv (va :: vb :: va :: vb :: st) L) : KG l X D tys ws sz Qc nc ns pc lv (va :: vb :: st) L :=
  fun p e s m args below meth c H locs ls w C hl hP hD hS ho hs => lv_dup2_11 C.1 C.2.1 hd hva hvb (k p e s m args below meth c H locs ls w C hl hP hD hS ho hs)
theorem k_dup_x1 {va vb : Value} (hd : decode X.2.1 pc = .ok (.dup_x1, 1)) (hva : va.category = 1) (hvb : vb.category = 1) (k : KG l X D tys ws sz Qc nc ns (pc + 1) lv (va :: vb :: va :: st) L) : KG l X D tys ws sz Qc nc ns pc lv (va :: vb :: st) L :=
  fun p e s m args below meth c H locs ls w C hl hP hD hS ho hs => lv_dup_x1 C.1 C.2.1 hd hva hvb (k p e s m args below meth c H locs ls w C hl hP hD hS ho hs)
theorem k_ldc {index : Nat} {v : Int32} (hd : decode X.2.1 pc = .ok (.ldc index, 2)) (hc : Cond.constant X.2.2.2.2.1 index v ∈ X.2.2.2.2.2) (k : KG l X D tys ws sz Qc nc ns (pc + 2) lv (.int v :: st) L) : KG l X D tys ws sz Qc nc ns pc lv (st) L :=
  fun p e s m args below meth c H locs ls w C hl hP hD hS ho hs => lv_ldc C.1 C.2.1 C.2.2.2.2.1 (C.2.2.2.2.2.1 _ hc) hd (k p e s m args below meth c H locs ls w C hl hP hD hS ho hs)
theorem k_ldc2 {index : Nat} {v : Int64} (hd : decode X.2.1 pc = .ok (.ldc2_w index, 3)) (hc : Cond.constantLong X.2.2.2.2.1 index v ∈ X.2.2.2.2.2) (k : KG l X D tys ws sz Qc nc ns (pc + 3) lv (.long v :: st) L) : KG l X D tys ws sz Qc nc ns pc lv (st) L :=
  fun p e s m args below meth c H locs ls w C hl hP hD hS ho hs => lv_ldc2 C.1 C.2.1 C.2.2.2.2.1 (C.2.2.2.2.2.1 _ hc) hd (k p e s m args below meth c H locs ls w C hl hP hD hS ho hs)
theorem k_istore_n {n : Fin 4} {i : Nat} {x : Int32} {β : Type} {f : Int32 → Option β} {r : β} {lv' : Int32 → List (Nat × Value)} (hd : decode X.2.1 pc = .ok (.istore_n n, 1)) (hi : (n : Nat) = i) (hn : i < X.2.2.1) (hl' : ∀ x, (i, Value.int x) :: lv.filter (fun q => !(q.1 == i) && !(q.1 + 1 == i && q.2.category == 2)) = lv' x) (h : nm x f = some r) (k : ∀ x : Int32, f x = some r → KG l X D tys ws sz Qc nc ns (pc + 1) (lv' x) st L) : KG l X D tys ws sz Qc nc ns pc lv (.int x :: st) L :=
  fun p e s m args below meth c H locs ls w C hl hP hD hS ho hs => lv_istore_n C.1 C.2.1 hd hi hl hn (hl' x) (fun ls hl => k x h p e s m args below meth c H locs ls w C hl hP hD hS ho hs)
theorem k_istore {i : Nat} {x : Int32} {β : Type} {f : Int32 → Option β} {r : β} {lv' : Int32 → List (Nat × Value)} (hd : decode X.2.1 pc = .ok (.istore i, 2)) (hn : i < X.2.2.1) (hl' : ∀ x, (i, Value.int x) :: lv.filter (fun q => !(q.1 == i) && !(q.1 + 1 == i && q.2.category == 2)) = lv' x) (h : nm x f = some r) (k : ∀ x : Int32, f x = some r → KG l X D tys ws sz Qc nc ns (pc + 2) (lv' x) st L) : KG l X D tys ws sz Qc nc ns pc lv (.int x :: st) L :=
  fun p e s m args below meth c H locs ls w C hl hP hD hS ho hs => lv_istore C.1 C.2.1 hd hl hn (hl' x) (fun ls hl => k x h p e s m args below meth c H locs ls w C hl hP hD hS ho hs)
theorem k_lstore_n {n : Fin 4} {i : Nat} {x : Int64} {β : Type} {f : Int64 → Option β} {r : β} {lv' : Int64 → List (Nat × Value)} (hd : decode X.2.1 pc = .ok (.lstore_n n, 1)) (hi : (n : Nat) = i) (hn : i + 1 < X.2.2.1) (hl' : ∀ x, (i, Value.long x) :: lv.filter (fun q => !(q.1 == i) && (!(q.1 == i + 1) && !(q.1 + 1 == i && q.2.category == 2))) = lv' x) (h : nm x f = some r) (k : ∀ x : Int64, f x = some r → KG l X D tys ws sz Qc nc ns (pc + 1) (lv' x) st L) : KG l X D tys ws sz Qc nc ns pc lv (.long x :: st) L :=
  fun p e s m args below meth c H locs ls w C hl hP hD hS ho hs => lv_lstore_n C.1 C.2.1 hd hi hl hn (hl' x) (fun ls hl => k x h p e s m args below meth c H locs ls w C hl hP hD hS ho hs)
theorem k_lstore {i : Nat} {x : Int64} {β : Type} {f : Int64 → Option β} {r : β} {lv' : Int64 → List (Nat × Value)} (hd : decode X.2.1 pc = .ok (.lstore i, 2)) (hn : i + 1 < X.2.2.1) (hl' : ∀ x, (i, Value.long x) :: lv.filter (fun q => !(q.1 == i) && (!(q.1 == i + 1) && !(q.1 + 1 == i && q.2.category == 2))) = lv' x) (h : nm x f = some r) (k : ∀ x : Int64, f x = some r → KG l X D tys ws sz Qc nc ns (pc + 2) (lv' x) st L) : KG l X D tys ws sz Qc nc ns pc lv (.long x :: st) L :=
  fun p e s m args below meth c H locs ls w C hl hP hD hS ho hs => lv_lstore C.1 C.2.1 hd hl hn (hl' x) (fun ls hl => k x h p e s m args below meth c H locs ls w C hl hP hD hS ho hs)
theorem k_astore_n {n : Fin 4} {i x : Nat} {lv' : List (Nat × Value)} (hd : decode X.2.1 pc = .ok (.astore_n n, 1)) (hi : (n : Nat) = i) (hn : i < X.2.2.1) (hl' : (i, Value.ref x) :: lv.filter (fun q => !(q.1 == i) && !(q.1 + 1 == i && q.2.category == 2)) = lv') (k : KG l X D tys ws sz Qc nc ns (pc + 1) lv' st L) : KG l X D tys ws sz Qc nc ns pc lv (.ref x :: st) L :=
  fun p e s m args below meth c H locs ls w C hl hP hD hS ho hs => lv_astore_n C.1 C.2.1 hd hi hl hn hl' (fun ls hl => k p e s m args below meth c H locs ls w C hl hP hD hS ho hs)
theorem k_astore {i x : Nat} {lv' : List (Nat × Value)} (hd : decode X.2.1 pc = .ok (.astore i, 2)) (hn : i < X.2.2.1) (hl' : (i, Value.ref x) :: lv.filter (fun q => !(q.1 == i) && !(q.1 + 1 == i && q.2.category == 2)) = lv') (k : KG l X D tys ws sz Qc nc ns (pc + 2) lv' st L) : KG l X D tys ws sz Qc nc ns pc lv (.ref x :: st) L :=
  fun p e s m args below meth c H locs ls w C hl hP hD hS ho hs => lv_astore C.1 C.2.1 hd hl hn hl' (fun ls hl => k p e s m args below meth c H locs ls w C hl hP hD hS ho hs)
theorem k_iinc {i : Nat} {n : Int} {x : Int32} {β : Type} {f : Int32 → Option β} {r : β} {lv' : Int32 → List (Nat × Value)} (hd : decode X.2.1 pc = .ok (.iinc i n, 3)) (j : Nat) (hj : lv[j]? = some (i, .int x)) (hn : i < X.2.2.1) (hl' : ∀ x, (i, Value.int x) :: lv.filter (fun q => !(q.1 == i) && !(q.1 + 1 == i && q.2.category == 2)) = lv' x) (h : nm (x + Int32.ofInt n) f = some r) (k : ∀ x : Int32, f x = some r → KG l X D tys ws sz Qc nc ns (pc + 3) (lv' x) st L) : KG l X D tys ws sz Qc nc ns pc lv st L :=
  fun p e s m args below meth c H locs ls w C hl hP hD hS ho hs => lv_iinc (k := j) C.1 C.2.1 hd hl hj rfl hn (hl' _) (fun ls hl => k _ h p e s m args below meth c H locs ls w C hl hP hD hS ho hs)
theorem k_topi {x : Int32} {β : Type} {f : Int32 → Option β} {r : β} (h : nm x f = some r) (k : ∀ x : Int32, f x = some r → KG l X D tys ws sz Qc nc ns pc lv (.int x :: st) L) : KG l X D tys ws sz Qc nc ns pc lv (.int x :: st) L := k x h
theorem k_topl {x : Int64} {β : Type} {f : Int64 → Option β} {r : β} (h : nm x f = some r) (k : ∀ x : Int64, f x = some r → KG l X D tys ws sz Qc nc ns pc lv (.long x :: st) L) : KG l X D tys ws sz Qc nc ns pc lv (.long x :: st) L := k x h
theorem k_icmp_eq {x y : Int32} {off : Int} {β : Type} {A B : Option β} {r : β} (tgt : Nat) (hd : decode X.2.1 pc = .ok (.if_icmp .eq off, 3)) (ht : (pc : Int) + off = (tgt : Int)) (h : (if x = y then A else B) = some r) (k1 : A = some r → KG l X D tys ws sz Qc nc ns tgt lv st L) (k2 : B = some r → KG l X D tys ws sz Qc nc ns (pc + 3) lv st L) : KG l X D tys ws sz Qc nc ns pc lv (.int y :: .int x :: st) L :=
  fun p e s m args below meth c H locs ls w C hl hP hD hS ho hs => lv_icmp_eq (tgt := tgt) C.1 C.2.1 hd ht (fun hc => k1 (by rw [if_pos hc] at h; exact h) p e s m args below meth c H locs ls w C hl hP hD hS ho hs) (fun hc => k2 (by rw [if_neg hc] at h; exact h) p e s m args below meth c H locs ls w C hl hP hD hS ho hs)
theorem k_if_eq {x : Int32} {off : Int} {β : Type} {A B : Option β} {r : β} (tgt : Nat) (hd : decode X.2.1 pc = .ok (.ifCond .eq off, 3)) (ht : (pc : Int) + off = (tgt : Int)) (h : (if x = 0 then A else B) = some r) (k1 : A = some r → KG l X D tys ws sz Qc nc ns tgt lv st L) (k2 : B = some r → KG l X D tys ws sz Qc nc ns (pc + 3) lv st L) : KG l X D tys ws sz Qc nc ns pc lv (.int x :: st) L :=
  fun p e s m args below meth c H locs ls w C hl hP hD hS ho hs => lv_if_eq (tgt := tgt) C.1 C.2.1 hd ht (fun hc => k1 (by rw [if_pos hc] at h; exact h) p e s m args below meth c H locs ls w C hl hP hD hS ho hs) (fun hc => k2 (by rw [if_neg hc] at h; exact h) p e s m args below meth c H locs ls w C hl hP hD hS ho hs)
theorem k_icmp_ne {x y : Int32} {off : Int} {β : Type} {A B : Option β} {r : β} (tgt : Nat) (hd : decode X.2.1 pc = .ok (.if_icmp .ne off, 3)) (ht : (pc : Int) + off = (tgt : Int)) (h : (if x = y then A else B) = some r) (k1 : A = some r → KG l X D tys ws sz Qc nc ns (pc + 3) lv st L) (k2 : B = some r → KG l X D tys ws sz Qc nc ns tgt lv st L) : KG l X D tys ws sz Qc nc ns pc lv (.int y :: .int x :: st) L :=
  fun p e s m args below meth c H locs ls w C hl hP hD hS ho hs => lv_icmp_ne (tgt := tgt) C.1 C.2.1 hd ht (fun hc => k2 (by rw [if_neg hc] at h; exact h) p e s m args below meth c H locs ls w C hl hP hD hS ho hs) (fun hc => k1 (by rw [if_pos hc] at h; exact h) p e s m args below meth c H locs ls w C hl hP hD hS ho hs)
theorem k_if_ne {x : Int32} {off : Int} {β : Type} {A B : Option β} {r : β} (tgt : Nat) (hd : decode X.2.1 pc = .ok (.ifCond .ne off, 3)) (ht : (pc : Int) + off = (tgt : Int)) (h : (if x = 0 then A else B) = some r) (k1 : A = some r → KG l X D tys ws sz Qc nc ns (pc + 3) lv st L) (k2 : B = some r → KG l X D tys ws sz Qc nc ns tgt lv st L) : KG l X D tys ws sz Qc nc ns pc lv (.int x :: st) L :=
  fun p e s m args below meth c H locs ls w C hl hP hD hS ho hs => lv_if_ne (tgt := tgt) C.1 C.2.1 hd ht (fun hc => k2 (by rw [if_neg hc] at h; exact h) p e s m args below meth c H locs ls w C hl hP hD hS ho hs) (fun hc => k1 (by rw [if_pos hc] at h; exact h) p e s m args below meth c H locs ls w C hl hP hD hS ho hs)
theorem k_icmp_lt {x y : Int32} {off : Int} {β : Type} {A B : Option β} {r : β} (tgt : Nat) (hd : decode X.2.1 pc = .ok (.if_icmp .lt off, 3)) (ht : (pc : Int) + off = (tgt : Int)) (h : (if x < y then A else B) = some r) (k1 : A = some r → KG l X D tys ws sz Qc nc ns tgt lv st L) (k2 : B = some r → KG l X D tys ws sz Qc nc ns (pc + 3) lv st L) : KG l X D tys ws sz Qc nc ns pc lv (.int y :: .int x :: st) L :=
  fun p e s m args below meth c H locs ls w C hl hP hD hS ho hs => lv_icmp_lt (tgt := tgt) C.1 C.2.1 hd ht (fun hc => k1 (by rw [if_pos hc] at h; exact h) p e s m args below meth c H locs ls w C hl hP hD hS ho hs) (fun hc => k2 (by rw [if_neg hc] at h; exact h) p e s m args below meth c H locs ls w C hl hP hD hS ho hs)
theorem k_if_lt {x : Int32} {off : Int} {β : Type} {A B : Option β} {r : β} (tgt : Nat) (hd : decode X.2.1 pc = .ok (.ifCond .lt off, 3)) (ht : (pc : Int) + off = (tgt : Int)) (h : (if x < 0 then A else B) = some r) (k1 : A = some r → KG l X D tys ws sz Qc nc ns tgt lv st L) (k2 : B = some r → KG l X D tys ws sz Qc nc ns (pc + 3) lv st L) : KG l X D tys ws sz Qc nc ns pc lv (.int x :: st) L :=
  fun p e s m args below meth c H locs ls w C hl hP hD hS ho hs => lv_if_lt (tgt := tgt) C.1 C.2.1 hd ht (fun hc => k1 (by rw [if_pos hc] at h; exact h) p e s m args below meth c H locs ls w C hl hP hD hS ho hs) (fun hc => k2 (by rw [if_neg hc] at h; exact h) p e s m args below meth c H locs ls w C hl hP hD hS ho hs)
theorem k_icmp_ge {x y : Int32} {off : Int} {β : Type} {A B : Option β} {r : β} (tgt : Nat) (hd : decode X.2.1 pc = .ok (.if_icmp .ge off, 3)) (ht : (pc : Int) + off = (tgt : Int)) (h : (if y ≤ x then A else B) = some r) (k1 : A = some r → KG l X D tys ws sz Qc nc ns tgt lv st L) (k2 : B = some r → KG l X D tys ws sz Qc nc ns (pc + 3) lv st L) : KG l X D tys ws sz Qc nc ns pc lv (.int y :: .int x :: st) L :=
  fun p e s m args below meth c H locs ls w C hl hP hD hS ho hs => lv_icmp_ge (tgt := tgt) C.1 C.2.1 hd ht (fun hc => k1 (by rw [if_pos hc] at h; exact h) p e s m args below meth c H locs ls w C hl hP hD hS ho hs) (fun hc => k2 (by rw [if_neg hc] at h; exact h) p e s m args below meth c H locs ls w C hl hP hD hS ho hs)
theorem k_if_ge {x : Int32} {off : Int} {β : Type} {A B : Option β} {r : β} (tgt : Nat) (hd : decode X.2.1 pc = .ok (.ifCond .ge off, 3)) (ht : (pc : Int) + off = (tgt : Int)) (h : (if 0 ≤ x then A else B) = some r) (k1 : A = some r → KG l X D tys ws sz Qc nc ns tgt lv st L) (k2 : B = some r → KG l X D tys ws sz Qc nc ns (pc + 3) lv st L) : KG l X D tys ws sz Qc nc ns pc lv (.int x :: st) L :=
  fun p e s m args below meth c H locs ls w C hl hP hD hS ho hs => lv_if_ge (tgt := tgt) C.1 C.2.1 hd ht (fun hc => k1 (by rw [if_pos hc] at h; exact h) p e s m args below meth c H locs ls w C hl hP hD hS ho hs) (fun hc => k2 (by rw [if_neg hc] at h; exact h) p e s m args below meth c H locs ls w C hl hP hD hS ho hs)
theorem k_icmp_gt {x y : Int32} {off : Int} {β : Type} {A B : Option β} {r : β} (tgt : Nat) (hd : decode X.2.1 pc = .ok (.if_icmp .gt off, 3)) (ht : (pc : Int) + off = (tgt : Int)) (h : (if y < x then A else B) = some r) (k1 : A = some r → KG l X D tys ws sz Qc nc ns tgt lv st L) (k2 : B = some r → KG l X D tys ws sz Qc nc ns (pc + 3) lv st L) : KG l X D tys ws sz Qc nc ns pc lv (.int y :: .int x :: st) L :=
  fun p e s m args below meth c H locs ls w C hl hP hD hS ho hs => lv_icmp_gt (tgt := tgt) C.1 C.2.1 hd ht (fun hc => k1 (by rw [if_pos hc] at h; exact h) p e s m args below meth c H locs ls w C hl hP hD hS ho hs) (fun hc => k2 (by rw [if_neg hc] at h; exact h) p e s m args below meth c H locs ls w C hl hP hD hS ho hs)
theorem k_if_gt {x : Int32} {off : Int} {β : Type} {A B : Option β} {r : β} (tgt : Nat) (hd : decode X.2.1 pc = .ok (.ifCond .gt off, 3)) (ht : (pc : Int) + off = (tgt : Int)) (h : (if 0 < x then A else B) = some r) (k1 : A = some r → KG l X D tys ws sz Qc nc ns tgt lv st L) (k2 : B = some r → KG l X D tys ws sz Qc nc ns (pc + 3) lv st L) : KG l X D tys ws sz Qc nc ns pc lv (.int x :: st) L :=
  fun p e s m args below meth c H locs ls w C hl hP hD hS ho hs => lv_if_gt (tgt := tgt) C.1 C.2.1 hd ht (fun hc => k1 (by rw [if_pos hc] at h; exact h) p e s m args below meth c H locs ls w C hl hP hD hS ho hs) (fun hc => k2 (by rw [if_neg hc] at h; exact h) p e s m args below meth c H locs ls w C hl hP hD hS ho hs)
theorem k_icmp_le {x y : Int32} {off : Int} {β : Type} {A B : Option β} {r : β} (tgt : Nat) (hd : decode X.2.1 pc = .ok (.if_icmp .le off, 3)) (ht : (pc : Int) + off = (tgt : Int)) (h : (if x ≤ y then A else B) = some r) (k1 : A = some r → KG l X D tys ws sz Qc nc ns tgt lv st L) (k2 : B = some r → KG l X D tys ws sz Qc nc ns (pc + 3) lv st L) : KG l X D tys ws sz Qc nc ns pc lv (.int y :: .int x :: st) L :=
  fun p e s m args below meth c H locs ls w C hl hP hD hS ho hs => lv_icmp_le (tgt := tgt) C.1 C.2.1 hd ht (fun hc => k1 (by rw [if_pos hc] at h; exact h) p e s m args below meth c H locs ls w C hl hP hD hS ho hs) (fun hc => k2 (by rw [if_neg hc] at h; exact h) p e s m args below meth c H locs ls w C hl hP hD hS ho hs)
theorem k_if_le {x : Int32} {off : Int} {β : Type} {A B : Option β} {r : β} (tgt : Nat) (hd : decode X.2.1 pc = .ok (.ifCond .le off, 3)) (ht : (pc : Int) + off = (tgt : Int)) (h : (if x ≤ 0 then A else B) = some r) (k1 : A = some r → KG l X D tys ws sz Qc nc ns tgt lv st L) (k2 : B = some r → KG l X D tys ws sz Qc nc ns (pc + 3) lv st L) : KG l X D tys ws sz Qc nc ns pc lv (.int x :: st) L :=
  fun p e s m args below meth c H locs ls w C hl hP hD hS ho hs => lv_if_le (tgt := tgt) C.1 C.2.1 hd ht (fun hc => k1 (by rw [if_pos hc] at h; exact h) p e s m args below meth c H locs ls w C hl hP hD hS ho hs) (fun hc => k2 (by rw [if_neg hc] at h; exact h) p e s m args below meth c H locs ls w C hl hP hD hS ho hs)
theorem k_goto {off : Int} (tgt : Nat) (hd : decode X.2.1 pc = .ok (.goto off, 3)) (ht : (pc : Int) + off = (tgt : Int)) (k : KG l X D tys ws sz Qc nc ns tgt lv st L) : KG l X D tys ws sz Qc nc ns pc lv st L :=
  fun p e s m args below meth c H locs ls w C hl hP hD hS ho hs => lv_goto (tgt := tgt) C.1 C.2.1 hd ht (k p e s m args below meth c H locs ls w C hl hP hD hS ho hs)
theorem k_iald {a n : Nat} {cA : ClassId} {f : Nat → Int32} {i : Int32} {β : Type} {g : Int32 → Option β} {r : β} (q t : Nat) (hk : kl_rd ws L q = some (a, .inl (cA, n, .inl f))) (ht : tys[t]? = some (cA, .int)) (hd : decode X.2.1 pc = .ok (.iaload, 1)) (h : (rd f n i).bind g = some r) (k : ∀ v : Int32, g v = some r → KG l X D tys ws sz Qc nc ns (pc + 1) lv (.int v :: st) L) : KG l X D tys ws sz Qc nc ns pc lv (.int i :: .ref a :: st) L :=
  fun p e s m args below meth c H locs ls w C hl hP hD hS ho hs => va_iald C.1 C.2.1 C.2.2.2.2.2.2.2.1 hP q t ((ho q).trans hk) ht (rd_some h).1 hd (k _ (rd_some h).2 p e s m args below meth c H locs ls w C hl hP hD hS ho hs)
theorem k_bald {a n : Nat} {cA : ClassId} {f : Nat → Int32} {i : Int32} {β : Type} {g : Int32 → Option β} {r : β} (q t : Nat) (hk : kl_rd ws L q = some (a, .inl (cA, n, .inl f))) (ht : tys[t]? = some (cA, .byte)) (hd : decode X.2.1 pc = .ok (.baload, 1)) (h : (rd f n i).bind g = some r) (k : ∀ v : Int32, g v = some r → KG l X D tys ws sz Qc nc ns (pc + 1) lv (.int v :: st) L) : KG l X D tys ws sz Qc nc ns pc lv (.int i :: .ref a :: st) L :=
  fun p e s m args below meth c H locs ls w C hl hP hD hS ho hs => va_bald C.1 C.2.1 C.2.2.2.2.2.2.2.1 hP q t ((ho q).trans hk) ht (rd_some h).1 hd (k _ (rd_some h).2 p e s m args below meth c H locs ls w C hl hP hD hS ho hs)
theorem k_zald {a n : Nat} {cA : ClassId} {f : Nat → Int32} {i : Int32} {β : Type} {g : Int32 → Option β} {r : β} (q t : Nat) (hk : kl_rd ws L q = some (a, .inl (cA, n, .inl f))) (ht : tys[t]? = some (cA, .boolean)) (hd : decode X.2.1 pc = .ok (.baload, 1)) (h : (rd f n i).bind g = some r) (k : ∀ v : Int32, g v = some r → KG l X D tys ws sz Qc nc ns (pc + 1) lv (.int v :: st) L) : KG l X D tys ws sz Qc nc ns pc lv (.int i :: .ref a :: st) L :=
  fun p e s m args below meth c H locs ls w C hl hP hD hS ho hs => va_zald C.1 C.2.1 C.2.2.2.2.2.2.2.1 hP q t ((ho q).trans hk) ht (rd_some h).1 hd (k _ (rd_some h).2 p e s m args below meth c H locs ls w C hl hP hD hS ho hs)
theorem k_lald {a n : Nat} {cA : ClassId} {f : Nat → Int64} {i : Int32} {β : Type} {g : Int64 → Option β} {r : β} (q t : Nat) (hk : kl_rd ws L q = some (a, .inl (cA, n, .inr (.inl f)))) (ht : tys[t]? = some (cA, .long)) (hd : decode X.2.1 pc = .ok (.laload, 1)) (h : (rd f n i).bind g = some r) (k : ∀ v : Int64, g v = some r → KG l X D tys ws sz Qc nc ns (pc + 1) lv (.long v :: st) L) : KG l X D tys ws sz Qc nc ns pc lv (.int i :: .ref a :: st) L :=
  fun p e s m args below meth c H locs ls w C hl hP hD hS ho hs => va_lald C.1 C.2.1 C.2.2.2.2.2.2.2.1 hP q t ((ho q).trans hk) ht (rd_some h).1 hd (k _ (rd_some h).2 p e s m args below meth c H locs ls w C hl hP hD hS ho hs)
theorem k_iast {a n : Nat} {cA : ClassId} {f : Nat → Int32} {i : Int32} {x : Int32} {β : Type} {g : (Nat → Int32) → Option β} {r : β} {L' : (Nat → Int32) → KL} (q t : Nat) (hk : kl_rd ws L q = some (a, .inl (cA, n, .inl f))) (hq : (kl_look L q).isSome = true) (ht : tys[t]? = some (cA, .int)) (hd : decode X.2.1 pc = .ok (.iastore, 1)) (h : (wrI f n i x).bind g = some r) (hL : ∀ f, kl_put L q (a, .inl (cA, n, .inl f)) = L' f) (k : ∀ f : Nat → Int32, g f = some r → KG l X D tys ws sz Qc nc ns (pc + 1) lv st (L' f)) : KG l X D tys ws sz Qc nc ns pc lv (.int x :: .int i :: .ref a :: st) L :=
  fun p e s m args below meth c H locs ls w C hl hP hD hS ho hs => va_iast C.1 C.2.1 C.2.2.2.2.2.2.2.1 hP hD hS q t ((ho q).trans hk) ht (wrI_some h).1 hd (fun H locs hP hD hS => k _ (wrI_some h).2 p e s m args below meth c H locs ls (w.set q (a, .inl (cA, n, .inl _))) C hl hP hD hS (hL _ ▸ kl_set_on ho hq hk) (kl_set_sm hs ((ho q).trans hk)))
theorem k_bast {a n : Nat} {cA : ClassId} {f : Nat → Int32} {i : Int32} {x : Int32} {β : Type} {g : (Nat → Int32) → Option β} {r : β} {L' : (Nat → Int32) → KL} (q t : Nat) (hk : kl_rd ws L q = some (a, .inl (cA, n, .inl f))) (hq : (kl_look L q).isSome = true) (ht : tys[t]? = some (cA, .byte)) (hd : decode X.2.1 pc = .ok (.bastore, 1)) (h : (wrI f n i (vp_nar .byte x)).bind g = some r) (hL : ∀ f, kl_put L q (a, .inl (cA, n, .inl f)) = L' f) (k : ∀ f : Nat → Int32, g f = some r → KG l X D tys ws sz Qc nc ns (pc + 1) lv st (L' f)) : KG l X D tys ws sz Qc nc ns pc lv (.int x :: .int i :: .ref a :: st) L :=
  fun p e s m args below meth c H locs ls w C hl hP hD hS ho hs => va_bast C.1 C.2.1 C.2.2.2.2.2.2.2.1 hP hD hS q t ((ho q).trans hk) ht (wrI_some h).1 hd (fun H locs hP hD hS => k _ (wrI_some h).2 p e s m args below meth c H locs ls (w.set q (a, .inl (cA, n, .inl _))) C hl hP hD hS (hL _ ▸ kl_set_on ho hq hk) (kl_set_sm hs ((ho q).trans hk)))
theorem k_zast {a n : Nat} {cA : ClassId} {f : Nat → Int32} {i : Int32} {x : Int32} {β : Type} {g : (Nat → Int32) → Option β} {r : β} {L' : (Nat → Int32) → KL} (q t : Nat) (hk : kl_rd ws L q = some (a, .inl (cA, n, .inl f))) (hq : (kl_look L q).isSome = true) (ht : tys[t]? = some (cA, .boolean)) (hd : decode X.2.1 pc = .ok (.bastore, 1)) (h : (wrI f n i (vp_nar .boolean x)).bind g = some r) (hL : ∀ f, kl_put L q (a, .inl (cA, n, .inl f)) = L' f) (k : ∀ f : Nat → Int32, g f = some r → KG l X D tys ws sz Qc nc ns (pc + 1) lv st (L' f)) : KG l X D tys ws sz Qc nc ns pc lv (.int x :: .int i :: .ref a :: st) L :=
  fun p e s m args below meth c H locs ls w C hl hP hD hS ho hs => va_zast C.1 C.2.1 C.2.2.2.2.2.2.2.1 hP hD hS q t ((ho q).trans hk) ht (wrI_some h).1 hd (fun H locs hP hD hS => k _ (wrI_some h).2 p e s m args below meth c H locs ls (w.set q (a, .inl (cA, n, .inl _))) C hl hP hD hS (hL _ ▸ kl_set_on ho hq hk) (kl_set_sm hs ((ho q).trans hk)))
theorem k_last {a n : Nat} {cA : ClassId} {f : Nat → Int64} {i : Int32} {x : Int64} {β : Type} {g : (Nat → Int64) → Option β} {r : β} {L' : (Nat → Int64) → KL} (q t : Nat) (hk : kl_rd ws L q = some (a, .inl (cA, n, .inr (.inl f)))) (hq : (kl_look L q).isSome = true) (ht : tys[t]? = some (cA, .long)) (hd : decode X.2.1 pc = .ok (.lastore, 1)) (h : (wrL f n i x).bind g = some r) (hL : ∀ f, kl_put L q (a, .inl (cA, n, .inr (.inl f))) = L' f) (k : ∀ f : Nat → Int64, g f = some r → KG l X D tys ws sz Qc nc ns (pc + 1) lv st (L' f)) : KG l X D tys ws sz Qc nc ns pc lv (.long x :: .int i :: .ref a :: st) L :=
  fun p e s m args below meth c H locs ls w C hl hP hD hS ho hs => va_last C.1 C.2.1 C.2.2.2.2.2.2.2.1 hP hD hS q t ((ho q).trans hk) ht (wrL_some h).1 hd (fun H locs hP hD hS => k _ (wrL_some h).2 p e s m args below meth c H locs ls (w.set q (a, .inl (cA, n, .inr (.inl _)))) C hl hP hD hS (hL _ ▸ kl_set_on ho hq hk) (kl_set_sm hs ((ho q).trans hk)))
theorem k_alen {a : Nat} {cA : ClassId} {x : vp_A} {v : Int32} {ty : FieldType} (q t : Nat) (hk : kl_rd ws L q = some (a, .inl (cA, x))) (ht : tys[t]? = some (cA, ty)) (hv : Int32.ofNat x.1 = v) (hd : decode X.2.1 pc = .ok (.arraylength, 1)) (k : KG l X D tys ws sz Qc nc ns (pc + 1) lv (.int v :: st) L) : KG l X D tys ws sz Qc nc ns pc lv (.ref a :: st) L :=
  fun p e s m args below meth c H locs ls w C hl hP hD hS ho hs => va_alen C.1 C.2.1 C.2.2.2.2.2.2.2.1 hP q t ((ho q).trans hk) ht hv hd (k p e s m args below meth c H locs ls w C hl hP hD hS ho hs)
theorem k_get {a ci N index : Nat} {Cn : String} {T : u_T} {fs : List Value} {v : Value} (q j : Nat) (hk : kl_rd ws L q = some (a, .inr (ci, fs))) (hc : vwCl[ci]? = some (Cn, T, N)) (hin : ∀ w ∈ u_ws Cn T N, w ∈ X.2.2.2.2.2) (hj : j < N) (hlink : Cond.fieldLink X.2.2.2.2.1 index (T j).1 (T j).2.1 (T j).2.2.1 ∈ X.2.2.2.2.2) (hv : fs[j]? = some v) (hd : decode X.2.1 pc = .ok (.getfield index, 3)) (k : KG l X D tys ws sz Qc nc ns (pc + 3) lv (v :: st) L) : KG l X D tys ws sz Qc nc ns pc lv (.ref a :: st) L :=
  fun p e s m args below meth c H locs ls w C hl hP hD hS ho hs => va_get C.1 C.2.1 C.2.2.2.2.2.1 hin C.2.2.2.2.1 C.2.2.2.2.2.2.2.1 hP q ((ho q).trans hk) hc j hj (C.2.2.2.2.2.1 _ hlink) (fun _ h => h) hv hd (k p e s m args below meth c H locs ls w C hl hP hD hS ho hs)
theorem k_getN {a ci N index : Nat} {Cn : String} {T : u_T} {fs : List Value} {v : Value} (q j : Nat) (hk : kl_rd ws L q = some (a, .inr (ci, fs))) (hc : vwCl[ci]? = some (Cn, T, N)) (hin : ∀ w ∈ u_ws Cn T N, w ∈ X.2.2.2.2.2) (hj : j < N) {host : String} (hlink : (X.2.2.2.2.1, index, (T j).1, (T j).2.1, (T j).2.2.1, host) ∈ nestF) (hv : fs[j]? = some v) (hd : decode X.2.1 pc = .ok (.getfield index, 3)) (k : KG l X D tys ws sz Qc nc ns (pc + 3) lv (v :: st) L) : KG l X D tys ws sz Qc nc ns pc lv (.ref a :: st) L :=
  fun p e s m args below meth c H locs ls w C hl hP hD hS ho hs => va_getN C.1 C.2.1 C.2.2.2.2.2.1 hin C.2.2.2.2.1 C.2.2.2.2.2.2.2.1 hP q ((ho q).trans hk) hc j hj (va_Nw.use rfl (C.2.2.2.2.2.2.2.2.2.1 _ hlink)) (fun _ h => h) hv hd (k p e s m args below meth c H locs ls w C hl hP hD hS ho hs)
theorem k_put {a ci N index : Nat} {Cn : String} {T : u_T} {fs : List Value} {v : Value} (q j : Nat) (hk : kl_rd ws L q = some (a, .inr (ci, fs))) (hc : vwCl[ci]? = some (Cn, T, N)) (hin : ∀ w ∈ u_ws Cn T N, w ∈ X.2.2.2.2.2) (hj : j < N) {ty : FieldType} {L' : KL} (ty0 : Nat → FieldType) (hty : ∀ k, k < N → parseFieldDescriptor (T k).2.2.1 = some (ty0 k)) (hnm : ∀ a, a < N → ∀ b, b < N → a ≠ b → (T a).2.1 ≠ (T b).2.1) (hq : (kl_look L q).isSome = true) (hlink : Cond.fieldLink X.2.2.2.2.1 index (T j).1 (T j).2.1 (T j).2.2.1 ∈ X.2.2.2.2.2) (hfin : (T j).2.2.2 = false) (hdd : parseFieldDescriptor (T j).2.2.1 = some ty) (hn : narrow ty v = v) (hfit : fits ty v = true) (hlen : j < fs.length) (hd : decode X.2.1 pc = .ok (.putfield index, 3)) (hL : kl_put L q (a, .inr (ci, fs.set j v)) = L') (k : KG l X D tys ws sz Qc nc ns (pc + 3) lv st L') : KG l X D tys ws sz Qc nc ns pc lv (v :: .ref a :: st) L :=
  fun p e s m args below meth c H locs ls w C hl hP hD hS ho hs => va_put C.1 C.2.1 C.2.2.2.2.2.1 hin ty0 hty hnm C.2.2.2.2.1 C.2.2.2.2.2.2.2.1 hP hD hS q ((ho q).trans hk) hc j hj (C.2.2.2.2.2.1 _ hlink) (fun _ h => h) hfin hdd hn hfit hlen hd (fun H locs hP hD hS => k p e s m args below meth c H locs ls (w.set q (a, .inr (ci, fs.set j v))) C hl hP hD hS (hL ▸ kl_set_on ho hq hk) (kl_set_sm hs ((ho q).trans hk)))
theorem k_iret {v : Int32} (hr : X.2.2.2.1 = some .int) (hd : decode X.2.1 pc = .ok (.ireturn, 1)) : KW l X D tys ws sz (kQi D tys v L ws sz) pc lv [.int v] L :=
  fun p e s m args below meth c H locs ls w C hl hP hD hS ho hs => W.iret C.1 C.2.1 (C.2.2.2.1.trans hr) (fun t ht hW => ⟨⟨v, w, rfl, ⟨rfl, ho, hs⟩, by rw [ht]; exact hP, va_K.moved hW.alike C.2.2.2.2.2.2.2.1⟩, hS.F ht⟩) hS.2.2 hd C.2.2.2.2.2.2.1
theorem k_lret {v : Int64} (hr : X.2.2.2.1 = some .long) (hd : decode X.2.1 pc = .ok (.lreturn, 1)) : KW l X D tys ws sz (kQl D tys v L ws sz) pc lv [.long v] L :=
  fun p e s m args below meth c H locs ls w C hl hP hD hS ho hs => W.lret C.1 C.2.1 (C.2.2.2.1.trans hr) (fun t ht hW => ⟨⟨v, w, rfl, ⟨rfl, ho, hs⟩, by rw [ht]; exact hP, va_K.moved hW.alike C.2.2.2.2.2.2.2.1⟩, hS.F ht⟩) hS.2.2 hd C.2.2.2.2.2.2.1
theorem k_zret {v : Int32} {ty : FieldType} (hr : X.2.2.2.1 = some ty) (hn : narrow ty (.int v) = .int v) (hd : decode X.2.1 pc = .ok (.ireturn, 1)) : KW l X D tys ws sz (kQi D tys v L ws sz) pc lv [.int v] L :=
  fun p e s m args below meth c H locs ls w C hl hP hD hS ho hs => W.zret C.1 C.2.1 (C.2.2.2.1.trans hr) hn (fun t ht hW => ⟨⟨v, w, rfl, ⟨rfl, ho, hs⟩, by rw [ht]; exact hP, va_K.moved hW.alike C.2.2.2.2.2.2.2.1⟩, hS.F ht⟩) hS.2.2 hd C.2.2.2.2.2.2.1
theorem k_vret (hr : X.2.2.2.1 = none) (hd : decode X.2.1 pc = .ok (.return_, 1)) : KW l X D tys ws sz (kQv D tys L ws sz) pc lv [] L :=
  fun p e s m args below meth c H locs ls w C hl hP hD hS ho hs => W.vret C.1 C.2.1 (C.2.2.2.1.trans hr) (fun t ht hW => ⟨⟨w, rfl, ⟨ho, hs⟩, by rw [ht]; exact hP, va_K.moved hW.alike C.2.2.2.2.2.2.2.1⟩, hS.F ht⟩) hS.2.2 hd C.2.2.2.2.2.2.1
theorem k_free {A : Nat → Prop} {ws w : va_W} {sz : Nat} {H0 H : Heap} {locs : List Loc} (hz : H0.size = sz) (hD : va_D (va_A ws sz) w) (hS : va_S (va_A ws sz) H0 H locs) : ∀ q, va_A w H.size q → va_A ws sz q := by
  intro q hq
  rcases hq with ⟨k, e, hk⟩ | h
  · exact hD.2 k (q, e) hk
  · exact Or.inr (by have := hS.1; omega)
theorem k_calliV {y : MethodName} {bytes : ByteArray} {maxL n index : Nat} {rt : Option FieldType} {wc wc' : List Cond} {rm : Room} {As stk : List Value} {Lc L' : KL} {r : Int32} {b ci N : Nat} {Cn : String} {T : u_T} {fs : List Value} (hG : GoodIn X.2.2.2.2.2 (wsV X.2.2.2.2.1 index Cn y wc)) (hw : wc = Cond.code y bytes maxL rt :: wc') (hrc : rm.cells = 0) (hrs : rm.slots = 0) (hdy : y.cls = Cn ∧ y.cls ≠ "java/lang/invoke/MethodHandle" ∧ y.cls ≠ "java/lang/invoke/VarHandle" ∧ (parseMethodDescriptor y.desc).map (fun d => d.parameters.length) = some n) (hR : rm.frames + 1 ≤ X.1.frames ∧ 8 + (maxL + 11) + rm.locals ≤ X.1.locals) (hn : As.length = n) (hst : stk = As.reverse ++ .ref b :: st) (hroom : (st.map fun v => v.category).sum ≤ 8) (q : Nat) (hk : kl_rd ws L q = some (b, .inr (ci, fs))) (hc : vwCl[ci]? = some (Cn, T, N)) (hd : decode X.2.1 pc = .ok (.invokevirtual index, 3)) (hM : ∀ (w : va_W) (z : Nat), kl_on ws L w → Met l y wc rm (kPc D tys (.ref b :: As) w z) (kQi D tys r Lc w z) 0 0 (va_A w z)) (hkeys : Lc.all (fun q => (kl_look L q.1).isSome) = true) (hL : kl_ovr L Lc = L') (k : KG l X D tys ws sz Qc 0 0 (pc + 3) lv (.int r :: st) L') : KG l X D tys ws sz Qc 0 0 pc lv stk L := by
  intro p e s m args below meth c H locs ls w C hl hP hD hS ho hs
  have hfr := k_free (A := va_A ws sz) C.2.2.2.2.2.2.2.2.1 hD hS
  refine va_calli (va_runV (As := As) (rest := st) ⟨C.1, C.2.1, C.2.2.1, C.2.2.2.2.1, C.2.2.2.2.2.1⟩ (hM w H.size ho) (cwV n C.2.2.2.2.2.1 hG hw hrc hrs hdy hR) ⟨kPc_blind, va_recv C.2.2.2.2.2.2.2.1 hP hc ((ho q).trans hk), fun U hU hW => ⟨rfl, by rw [hU], by rw [hU]; exact hP, va_K.moved hW.alike C.2.2.2.2.2.2.2.1, hD.weaken (fun _ _ _ _ => trivial), C.2.2.2.2.2.2.2.2.2.warm hW⟩⟩ rfl hn hl.1 hst (lv_room hroom) hd ⟨Nat.zero_le _, Nat.zero_le _⟩) hS (fun q _ h => hfr q h) hfr (fun r' u t H1 locs1 ht hvm hw hB hz1 hk1 hS => ?_)
  obtain ⟨hP1, hK1⟩ := hB
  rw [ht] at hP1
  obtain ⟨rfl, ho1, hs1⟩ := hw
  exact k p e s m args below meth c H1 locs1 ls u C hl hP1 (hs1.D hD) hS (hL ▸ ho.ovr ho1 (kl_keys hkeys)) (hs.tr hs1)
theorem k_calliS {y : MethodName} {bytes : ByteArray} {maxL n index : Nat} {rt : Option FieldType} {wc wc' : List Cond} {rm : Room} {As stk : List Value} {Lc L' : KL} {r : Int32} (hG : GoodIn X.2.2.2.2.2 (va_wsS X.2.2.2.2.1 index y wc)) (hw : wc = Cond.code y bytes maxL rt :: wc') (hrc : rm.cells = 0) (hrs : rm.slots = 0) (hdy : y.cls ≠ "java/lang/invoke/MethodHandle" ∧ y.cls ≠ "java/lang/invoke/VarHandle" ∧ (parseMethodDescriptor y.desc).map (fun d => d.parameters.length) = some n) (hR : rm.frames + 1 ≤ X.1.frames ∧ 8 + (maxL + 11) + rm.locals ≤ X.1.locals) (hn : As.length = n) (hst : stk = As.reverse ++ st) (hroom : (st.map fun v => v.category).sum ≤ 8) (hd : decode X.2.1 pc = .ok (.invokestatic index, 3)) (hM : ∀ (w : va_W) (z : Nat), kl_on ws L w → Met l y wc rm (kPc D tys As w z) (kQi D tys r Lc w z) 0 0 (va_A w z)) (hkeys : Lc.all (fun q => (kl_look L q.1).isSome) = true) (hL : kl_ovr L Lc = L') (k : KG l X D tys ws sz Qc 0 0 (pc + 3) lv (.int r :: st) L') : KG l X D tys ws sz Qc 0 0 pc lv stk L := by
  intro p e s m args below meth c H locs ls w C hl hP hD hS ho hs
  have hfr := k_free (A := va_A ws sz) C.2.2.2.2.2.2.2.2.1 hD hS
  refine va_calli (va_runS (As := As) (rest := st) ⟨C.1, C.2.1, C.2.2.1, C.2.2.2.2.1, C.2.2.2.2.2.1⟩ (hM w H.size ho) (va_cwS n C.2.2.2.2.2.1 hG hw hrc hrs hdy hR) ⟨kPc_blind, fun U hU hW => ⟨rfl, by rw [hU], by rw [hU]; exact hP, va_K.moved hW.alike C.2.2.2.2.2.2.2.1, hD.weaken (fun _ _ _ _ => trivial), C.2.2.2.2.2.2.2.2.2.warm hW⟩⟩ rfl hn hl.1 hst (lv_room hroom) hd ⟨Nat.zero_le _, Nat.zero_le _⟩) hS (fun q _ h => hfr q h) hfr (fun r' u t H1 locs1 ht hvm hw hB hz1 hk1 hS => ?_)
  obtain ⟨hP1, hK1⟩ := hB
  rw [ht] at hP1
  obtain ⟨rfl, ho1, hs1⟩ := hw
  exact k p e s m args below meth c H1 locs1 ls u C hl hP1 (hs1.D hD) hS (hL ▸ ho.ovr ho1 (kl_keys hkeys)) (hs.tr hs1)
theorem k_calllV {y : MethodName} {bytes : ByteArray} {maxL n index : Nat} {rt : Option FieldType} {wc wc' : List Cond} {rm : Room} {As stk : List Value} {Lc L' : KL} {r : Int64} {b ci N : Nat} {Cn : String} {T : u_T} {fs : List Value} (hG : GoodIn X.2.2.2.2.2 (wsV X.2.2.2.2.1 index Cn y wc)) (hw : wc = Cond.code y bytes maxL rt :: wc') (hrc : rm.cells = 0) (hrs : rm.slots = 0) (hdy : y.cls = Cn ∧ y.cls ≠ "java/lang/invoke/MethodHandle" ∧ y.cls ≠ "java/lang/invoke/VarHandle" ∧ (parseMethodDescriptor y.desc).map (fun d => d.parameters.length) = some n) (hR : rm.frames + 1 ≤ X.1.frames ∧ 8 + (maxL + 11) + rm.locals ≤ X.1.locals) (hn : As.length = n) (hst : stk = As.reverse ++ .ref b :: st) (hroom : (st.map fun v => v.category).sum ≤ 8) (q : Nat) (hk : kl_rd ws L q = some (b, .inr (ci, fs))) (hc : vwCl[ci]? = some (Cn, T, N)) (hd : decode X.2.1 pc = .ok (.invokevirtual index, 3)) (hM : ∀ (w : va_W) (z : Nat), kl_on ws L w → Met l y wc rm (kPc D tys (.ref b :: As) w z) (kQl D tys r Lc w z) 0 0 (va_A w z)) (hkeys : Lc.all (fun q => (kl_look L q.1).isSome) = true) (hL : kl_ovr L Lc = L') (k : KG l X D tys ws sz Qc 0 0 (pc + 3) lv (.long r :: st) L') : KG l X D tys ws sz Qc 0 0 pc lv stk L := by
  intro p e s m args below meth c H locs ls w C hl hP hD hS ho hs
  have hfr := k_free (A := va_A ws sz) C.2.2.2.2.2.2.2.2.1 hD hS
  refine va_calll (va_runV (As := As) (rest := st) ⟨C.1, C.2.1, C.2.2.1, C.2.2.2.2.1, C.2.2.2.2.2.1⟩ (hM w H.size ho) (cwV n C.2.2.2.2.2.1 hG hw hrc hrs hdy hR) ⟨kPc_blind, va_recv C.2.2.2.2.2.2.2.1 hP hc ((ho q).trans hk), fun U hU hW => ⟨rfl, by rw [hU], by rw [hU]; exact hP, va_K.moved hW.alike C.2.2.2.2.2.2.2.1, hD.weaken (fun _ _ _ _ => trivial), C.2.2.2.2.2.2.2.2.2.warm hW⟩⟩ rfl hn hl.1 hst (lv_room hroom) hd ⟨Nat.zero_le _, Nat.zero_le _⟩) hS (fun q _ h => hfr q h) hfr (fun r' u t H1 locs1 ht hvm hw hB hz1 hk1 hS => ?_)
  obtain ⟨hP1, hK1⟩ := hB
  rw [ht] at hP1
  obtain ⟨rfl, ho1, hs1⟩ := hw
  exact k p e s m args below meth c H1 locs1 ls u C hl hP1 (hs1.D hD) hS (hL ▸ ho.ovr ho1 (kl_keys hkeys)) (hs.tr hs1)
theorem k_calllS {y : MethodName} {bytes : ByteArray} {maxL n index : Nat} {rt : Option FieldType} {wc wc' : List Cond} {rm : Room} {As stk : List Value} {Lc L' : KL} {r : Int64} (hG : GoodIn X.2.2.2.2.2 (va_wsS X.2.2.2.2.1 index y wc)) (hw : wc = Cond.code y bytes maxL rt :: wc') (hrc : rm.cells = 0) (hrs : rm.slots = 0) (hdy : y.cls ≠ "java/lang/invoke/MethodHandle" ∧ y.cls ≠ "java/lang/invoke/VarHandle" ∧ (parseMethodDescriptor y.desc).map (fun d => d.parameters.length) = some n) (hR : rm.frames + 1 ≤ X.1.frames ∧ 8 + (maxL + 11) + rm.locals ≤ X.1.locals) (hn : As.length = n) (hst : stk = As.reverse ++ st) (hroom : (st.map fun v => v.category).sum ≤ 8) (hd : decode X.2.1 pc = .ok (.invokestatic index, 3)) (hM : ∀ (w : va_W) (z : Nat), kl_on ws L w → Met l y wc rm (kPc D tys As w z) (kQl D tys r Lc w z) 0 0 (va_A w z)) (hkeys : Lc.all (fun q => (kl_look L q.1).isSome) = true) (hL : kl_ovr L Lc = L') (k : KG l X D tys ws sz Qc 0 0 (pc + 3) lv (.long r :: st) L') : KG l X D tys ws sz Qc 0 0 pc lv stk L := by
  intro p e s m args below meth c H locs ls w C hl hP hD hS ho hs
  have hfr := k_free (A := va_A ws sz) C.2.2.2.2.2.2.2.2.1 hD hS
  refine va_calll (va_runS (As := As) (rest := st) ⟨C.1, C.2.1, C.2.2.1, C.2.2.2.2.1, C.2.2.2.2.2.1⟩ (hM w H.size ho) (va_cwS n C.2.2.2.2.2.1 hG hw hrc hrs hdy hR) ⟨kPc_blind, fun U hU hW => ⟨rfl, by rw [hU], by rw [hU]; exact hP, va_K.moved hW.alike C.2.2.2.2.2.2.2.1, hD.weaken (fun _ _ _ _ => trivial), C.2.2.2.2.2.2.2.2.2.warm hW⟩⟩ rfl hn hl.1 hst (lv_room hroom) hd ⟨Nat.zero_le _, Nat.zero_le _⟩) hS (fun q _ h => hfr q h) hfr (fun r' u t H1 locs1 ht hvm hw hB hz1 hk1 hS => ?_)
  obtain ⟨hP1, hK1⟩ := hB
  rw [ht] at hP1
  obtain ⟨rfl, ho1, hs1⟩ := hw
  exact k p e s m args below meth c H1 locs1 ls u C hl hP1 (hs1.D hD) hS (hL ▸ ho.ovr ho1 (kl_keys hkeys)) (hs.tr hs1)
theorem k_callvV {y : MethodName} {bytes : ByteArray} {maxL n index : Nat} {rt : Option FieldType} {wc wc' : List Cond} {rm : Room} {As stk : List Value} {Lc L' : KL} {b ci N : Nat} {Cn : String} {T : u_T} {fs : List Value} (hG : GoodIn X.2.2.2.2.2 (wsV X.2.2.2.2.1 index Cn y wc)) (hw : wc = Cond.code y bytes maxL rt :: wc') (hrc : rm.cells = 0) (hrs : rm.slots = 0) (hdy : y.cls = Cn ∧ y.cls ≠ "java/lang/invoke/MethodHandle" ∧ y.cls ≠ "java/lang/invoke/VarHandle" ∧ (parseMethodDescriptor y.desc).map (fun d => d.parameters.length) = some n) (hR : rm.frames + 1 ≤ X.1.frames ∧ 8 + (maxL + 11) + rm.locals ≤ X.1.locals) (hn : As.length = n) (hst : stk = As.reverse ++ .ref b :: st) (hroom : (st.map fun v => v.category).sum ≤ 8) (q : Nat) (hk : kl_rd ws L q = some (b, .inr (ci, fs))) (hc : vwCl[ci]? = some (Cn, T, N)) (hd : decode X.2.1 pc = .ok (.invokevirtual index, 3)) (hM : ∀ (w : va_W) (z : Nat), kl_on ws L w → Met l y wc rm (kPc D tys (.ref b :: As) w z) (kQv D tys Lc w z) 0 0 (va_A w z)) (hkeys : Lc.all (fun q => (kl_look L q.1).isSome) = true) (hL : kl_ovr L Lc = L') (k : KG l X D tys ws sz Qc 0 0 (pc + 3) lv (st) L') : KG l X D tys ws sz Qc 0 0 pc lv stk L := by
  intro p e s m args below meth c H locs ls w C hl hP hD hS ho hs
  have hfr := k_free (A := va_A ws sz) C.2.2.2.2.2.2.2.2.1 hD hS
  refine va_callv (va_runV (As := As) (rest := st) ⟨C.1, C.2.1, C.2.2.1, C.2.2.2.2.1, C.2.2.2.2.2.1⟩ (hM w H.size ho) (cwV n C.2.2.2.2.2.1 hG hw hrc hrs hdy hR) ⟨kPc_blind, va_recv C.2.2.2.2.2.2.2.1 hP hc ((ho q).trans hk), fun U hU hW => ⟨rfl, by rw [hU], by rw [hU]; exact hP, va_K.moved hW.alike C.2.2.2.2.2.2.2.1, hD.weaken (fun _ _ _ _ => trivial), C.2.2.2.2.2.2.2.2.2.warm hW⟩⟩ rfl hn hl.1 hst (lv_room hroom) hd ⟨Nat.zero_le _, Nat.zero_le _⟩) hS (fun q _ h => hfr q h) hfr (fun u t H1 locs1 ht hvm hw hB hz1 hk1 hS => ?_)
  obtain ⟨hP1, hK1⟩ := hB
  rw [ht] at hP1
  obtain ⟨ho1, hs1⟩ := hw
  exact k p e s m args below meth c H1 locs1 ls u C hl hP1 (hs1.D hD) hS (hL ▸ ho.ovr ho1 (kl_keys hkeys)) (hs.tr hs1)
theorem k_callvS {y : MethodName} {bytes : ByteArray} {maxL n index : Nat} {rt : Option FieldType} {wc wc' : List Cond} {rm : Room} {As stk : List Value} {Lc L' : KL} (hG : GoodIn X.2.2.2.2.2 (va_wsS X.2.2.2.2.1 index y wc)) (hw : wc = Cond.code y bytes maxL rt :: wc') (hrc : rm.cells = 0) (hrs : rm.slots = 0) (hdy : y.cls ≠ "java/lang/invoke/MethodHandle" ∧ y.cls ≠ "java/lang/invoke/VarHandle" ∧ (parseMethodDescriptor y.desc).map (fun d => d.parameters.length) = some n) (hR : rm.frames + 1 ≤ X.1.frames ∧ 8 + (maxL + 11) + rm.locals ≤ X.1.locals) (hn : As.length = n) (hst : stk = As.reverse ++ st) (hroom : (st.map fun v => v.category).sum ≤ 8) (hd : decode X.2.1 pc = .ok (.invokestatic index, 3)) (hM : ∀ (w : va_W) (z : Nat), kl_on ws L w → Met l y wc rm (kPc D tys As w z) (kQv D tys Lc w z) 0 0 (va_A w z)) (hkeys : Lc.all (fun q => (kl_look L q.1).isSome) = true) (hL : kl_ovr L Lc = L') (k : KG l X D tys ws sz Qc 0 0 (pc + 3) lv (st) L') : KG l X D tys ws sz Qc 0 0 pc lv stk L := by
  intro p e s m args below meth c H locs ls w C hl hP hD hS ho hs
  have hfr := k_free (A := va_A ws sz) C.2.2.2.2.2.2.2.2.1 hD hS
  refine va_callv (va_runS (As := As) (rest := st) ⟨C.1, C.2.1, C.2.2.1, C.2.2.2.2.1, C.2.2.2.2.2.1⟩ (hM w H.size ho) (va_cwS n C.2.2.2.2.2.1 hG hw hrc hrs hdy hR) ⟨kPc_blind, fun U hU hW => ⟨rfl, by rw [hU], by rw [hU]; exact hP, va_K.moved hW.alike C.2.2.2.2.2.2.2.1, hD.weaken (fun _ _ _ _ => trivial), C.2.2.2.2.2.2.2.2.2.warm hW⟩⟩ rfl hn hl.1 hst (lv_room hroom) hd ⟨Nat.zero_le _, Nat.zero_le _⟩) hS (fun q _ h => hfr q h) hfr (fun u t H1 locs1 ht hvm hw hB hz1 hk1 hS => ?_)
  obtain ⟨hP1, hK1⟩ := hB
  rw [ht] at hP1
  obtain ⟨ho1, hs1⟩ := hw
  exact k p e s m args below meth c H1 locs1 ls u C hl hP1 (hs1.D hD) hS (hL ▸ ho.ovr ho1 (kl_keys hkeys)) (hs.tr hs1)
theorem k_calliSN {y : MethodName} {bytes : ByteArray} {maxL n index : Nat} {rt : Option FieldType} {wc wc' : List Cond} {rm : Room} {As stk : List Value} {Lc L' : KL} {r : Int32} {host : String} (hG : GoodIn X.2.2.2.2.2 wc) (hlk : (X.2.2.2.2.1, index, y, host) ∈ nestM) (hini : Cond.initialized y.cls ∈ X.2.2.2.2.2) (hsta : Cond.static y ∈ X.2.2.2.2.2) (hw : wc = Cond.code y bytes maxL rt :: wc') (hrc : rm.cells = 0) (hrs : rm.slots = 0) (hdy : y.cls ≠ "java/lang/invoke/MethodHandle" ∧ y.cls ≠ "java/lang/invoke/VarHandle" ∧ (parseMethodDescriptor y.desc).map (fun d => d.parameters.length) = some n) (hR : rm.frames + 1 ≤ X.1.frames ∧ 8 + (maxL + 11) + rm.locals ≤ X.1.locals) (hn : As.length = n) (hst : stk = As.reverse ++ st) (hroom : (st.map fun v => v.category).sum ≤ 8) (hd : decode X.2.1 pc = .ok (.invokestatic index, 3)) (hM : ∀ (w : va_W) (z : Nat), kl_on ws L w → Met l y wc rm (kPc D tys As w z) (kQi D tys r Lc w z) 0 0 (va_A w z)) (hkeys : Lc.all (fun q => (kl_look L q.1).isSome) = true) (hL : kl_ovr L Lc = L') (k : KG l X D tys ws sz Qc 0 0 (pc + 3) lv (.int r :: st) L') : KG l X D tys ws sz Qc 0 0 pc lv stk L := by
  intro p e s m args below meth c H locs ls w C hl hP hD hS ho hs
  have hfr := k_free (A := va_A ws sz) C.2.2.2.2.2.2.2.2.1 hD hS
  refine va_calli (va_runSN (As := As) (rest := st) ⟨C.1, C.2.1, C.2.2.1, C.2.2.2.2.1, C.2.2.2.2.2.1⟩ (hM w H.size ho) (⟨va_cnB n C.2.2.2.2.2.1 hG hw hrc hrs (C.2.2.2.2.2.2.2.2.2.2 _ hlk) (C.2.2.2.2.2.1 _ hini) hdy hR, C.2.2.2.2.2.1 _ hsta, trivial⟩) ⟨kPc_blind, fun U hU hW => ⟨rfl, by rw [hU], by rw [hU]; exact hP, va_K.moved hW.alike C.2.2.2.2.2.2.2.1, hD.weaken (fun _ _ _ _ => trivial), C.2.2.2.2.2.2.2.2.2.warm hW⟩⟩ rfl hn hl.1 hst (lv_room hroom) hd ⟨Nat.zero_le _, Nat.zero_le _⟩) hS (fun q _ h => hfr q h) hfr (fun r' u t H1 locs1 ht hvm hw hB hz1 hk1 hS => ?_)
  obtain ⟨hP1, hK1⟩ := hB
  rw [ht] at hP1
  obtain ⟨rfl, ho1, hs1⟩ := hw
  exact k p e s m args below meth c H1 locs1 ls u C hl hP1 (hs1.D hD) hS (hL ▸ ho.ovr ho1 (kl_keys hkeys)) (hs.tr hs1)
theorem k_mmin {index : Nat} {x y : Int32} (hlink : Cond.methodLink X.2.2.2.2.1 index Lib.Math.min.name ∈ X.2.2.2.2.2) (hstat : Cond.static Lib.Math.min.name ∈ X.2.2.2.2.2) (hini : Cond.initialized "java/lang/Math" ∈ X.2.2.2.2.2) (hcode : Cond.code Lib.Math.min.name Lib.Math.min.code 2 (some .int) ∈ X.2.2.2.2.2) (hf : 1 ≤ X.1.frames) (hlo : (st.map fun v => v.category).sum + 13 ≤ X.1.locals) (hd : decode X.2.1 pc = .ok (.invokestatic index, 3)) (k : KG l X D tys ws sz Qc 0 0 (pc + 3) lv (.int (if y < x then y else x) :: st) L) : KG l X D tys ws sz Qc 0 0 pc lv (.int y :: .int x :: st) L :=
  fun p e s m args below meth c H locs ls w C hl hP hD hS ho hs => va_mmin C.1 C.2.1 (C.2.2.1.trans hl.1.symm) C.2.2.2.2.1 (C.2.2.2.2.2.1 _ hlink) (C.2.2.2.2.2.1 _ hstat) (C.2.2.2.2.2.1 _ hini) (C.2.2.2.2.2.1 _ hcode) hf hlo (Nat.zero_le _) (Nat.zero_le _) hd (k p e s m args below meth c H locs ls w C hl hP hD hS ho hs)
theorem k_mmax {index : Nat} {x y : Int32} (hlink : Cond.methodLink X.2.2.2.2.1 index Lib.Math.max.name ∈ X.2.2.2.2.2) (hstat : Cond.static Lib.Math.max.name ∈ X.2.2.2.2.2) (hini : Cond.initialized "java/lang/Math" ∈ X.2.2.2.2.2) (hcode : Cond.code Lib.Math.max.name Lib.Math.max.code 2 (some .int) ∈ X.2.2.2.2.2) (hf : 1 ≤ X.1.frames) (hlo : (st.map fun v => v.category).sum + 13 ≤ X.1.locals) (hd : decode X.2.1 pc = .ok (.invokestatic index, 3)) (k : KG l X D tys ws sz Qc 0 0 (pc + 3) lv (.int (if x < y then y else x) :: st) L) : KG l X D tys ws sz Qc 0 0 pc lv (.int y :: .int x :: st) L :=
  fun p e s m args below meth c H locs ls w C hl hP hD hS ho hs => va_mmax C.1 C.2.1 (C.2.2.1.trans hl.1.symm) C.2.2.2.2.1 (C.2.2.2.2.2.1 _ hlink) (C.2.2.2.2.2.1 _ hstat) (C.2.2.2.2.2.1 _ hini) (C.2.2.2.2.2.1 _ hcode) hf hlo (Nat.zero_le _) (Nat.zero_le _) hd (k p e s m args below meth c H locs ls w C hl hP hD hS ho hs)
theorem k_mminL {index : Nat} {x y : Int64} (hlink : Cond.methodLink X.2.2.2.2.1 index Lib.MathLoose.min_long.x ∈ X.2.2.2.2.2) (hstat : Cond.static Lib.MathLoose.min_long.x ∈ X.2.2.2.2.2) (hini : Cond.initialized "java/lang/Math" ∈ X.2.2.2.2.2) (hcode : Cond.code Lib.MathLoose.min_long.x Lib.MathLoose.min_long.code 4 (some .long) ∈ X.2.2.2.2.2) (hf : 1 ≤ X.1.frames) (hlo : (st.map fun v => v.category).sum + 15 ≤ X.1.locals) (hd : decode X.2.1 pc = .ok (.invokestatic index, 3)) (k : KG l X D tys ws sz Qc 0 0 (pc + 3) lv (.long (if y < x then y else x) :: st) L) : KG l X D tys ws sz Qc 0 0 pc lv (.long y :: .long x :: st) L :=
  fun p e s m args below meth c H locs ls w C hl hP hD hS ho hs => va_mmin_long C.1 C.2.1 (C.2.2.1.trans hl.1.symm) C.2.2.2.2.1 (C.2.2.2.2.2.1 _ hlink) (C.2.2.2.2.2.1 _ hstat) (C.2.2.2.2.2.1 _ hini) (C.2.2.2.2.2.1 _ hcode) hf hlo (Nat.zero_le _) (Nat.zero_le _) hd (k p e s m args below meth c H locs ls w C hl hP hD hS ho hs)
theorem k_copyb {index a0 a n0 n1 : Nat} {cA : ClassId} {f g : Nat → Int32} {sp dp n : Int32} {β : Type} {gk : (Nat → Int32) → Option β} {r : β} {L' : (Nat → Int32) → KL} (q0 q1 t : Nat) (hk0 : kl_rd ws L q0 = some (a0, .inl (cA, n0, .inl f))) (hk1 : kl_rd ws L q1 = some (a, .inl (cA, n1, .inl g))) (hq : (kl_look L q1).isSome = true) (ht : tys[t]? = some (cA, .byte)) (hlink : Cond.methodLink X.2.2.2.2.1 index arraycopyName ∈ X.2.2.2.2.2) (hnat : Cond.native arraycopyName ∈ X.2.2.2.2.2) (hstat : Cond.static arraycopyName ∈ X.2.2.2.2.2) (hini : Cond.initialized "java/lang/System" ∈ X.2.2.2.2.2) (hf : 1 ≤ X.1.frames) (hlo : (st.map fun v => v.category).sum + (nativeFrameWords "java/lang/System" "arraycopy" 5 + 11) ≤ X.1.locals) (hd : decode X.2.1 pc = .ok (.invokestatic index, 3)) (h : (cpB f g n0 n1 sp dp n).bind gk = some r) (hL : ∀ f, kl_put L q1 (a, .inl (cA, n1, .inl f)) = L' f) (k : ∀ f : Nat → Int32, gk f = some r → KG l X D tys ws sz Qc nc ns (pc + 3) lv st (L' f)) : KG l X D tys ws sz Qc nc ns pc lv (.int n :: .int dp :: .ref a :: .int sp :: .ref a0 :: st) L :=
  fun p e s m args below meth c H locs ls w C hl hP hD hS ho hs => va_copyi C.1 C.2.1 (C.2.2.1.trans hl.1.symm) C.2.2.2.2.1 (C.2.2.2.2.2.1 _ hlink) (C.2.2.2.2.2.1 _ hnat) (C.2.2.2.2.2.1 _ hstat) (C.2.2.2.2.2.1 _ hini) C.2.2.2.2.2.2.2.1 hP hD hS q0 q1 t t ((ho q0).trans hk0) ((ho q1).trans hk1) ht ht rfl (cpB_some h).1.1 (cpB_some h).1.2.1 (cpB_some h).1.2.2.1 (cpB_some h).1.2.2.2.1 (cpB_some h).1.2.2.2.2 (cpB_some h).2.1 hf hlo hd (fun H locs hP hD hS => k _ (cpB_some h).2.2 p e s m args below meth c H locs ls (w.set q1 (a, .inl (cA, n1, .inl _))) C hl hP hD hS (hL _ ▸ kl_set_on ho hq hk1) (kl_set_sm hs ((ho q1).trans hk1)))
end KWrows
