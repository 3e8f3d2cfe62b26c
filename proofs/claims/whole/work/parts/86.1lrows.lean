/-! rows for the law -/
theorem vaA0 {ws : va_W} {sz : Nat} (hws : va_D (va_A [] sz) ws) : ∀ q, va_A ws sz q → va_A [] sz q := by
  intro q h
  rcases h with ⟨k, e, h⟩ | h
  · exact hws.2 k (q, e) h
  · exact Or.inr h
theorem vaA_ge {sz q : Nat} (h : va_A [] sz q) : sz ≤ q := by
  rcases h with ⟨k, e, h⟩ | h
  · cases h
  · exact h
/-- what the law's walk knows of its start -/
def kLW (b n : Nat) (xs : Nat → Int32) (sz : Nat) (args : Array Value) (s : State) : Prop := kEF (va_A [] sz) s ∧ va_X b n xs s s.heap ∧ b < s.heap.size ∧ args = #[Value.ref b]
def lQ (b n : Nat) (xs : Nat → Int32) (sz : Nat) : List Frame → Array Value → State → State → Prop := fun below args s t => kLW b n xs sz args s → lw_Z below args s t
section LROWS
variable {l : Launch} {X : KX} {D : va_G} {tys : List (ClassId × FieldType)} {ws : va_W} {sz : Nat} {Qc : List Frame → Array Value → State → State → Prop} {nc ns : Nat} {pc : Nat} {lv : List (Nat × Value)} {st : List Value} {L : KL} {b n : Nat} {xs : Nat → Int32}
theorem KG.widen {nc' ns' : Nat} (h1 : nc ≤ nc') (h2 : ns ≤ ns') (k : KG l X D tys ws sz Qc nc' ns' pc lv st L) : KG l X D tys ws sz Qc nc ns pc lv st L :=
  fun p e s m args below meth c H locs ls w C hl hP hD hS ho hs => W.widen h1 h2 (k p e s m args below meth c H locs ls w C hl hP hD hS ho hs)
theorem kb_eq1 {x : Int32} {off : Int} (tgt : Nat) (hd : decode X.2.1 pc = .ok (.ifCond .eq off, 3)) (ht : (pc : Int) + off = (tgt : Int)) (hx : x = 0) (k : KG l X D tys ws sz Qc nc ns tgt lv st L) : KG l X D tys ws sz Qc nc ns pc lv (.int x :: st) L :=
  k_if_eq (A := some ()) (B := none) (r := ()) tgt hd ht (if_pos hx) (fun _ => k) (fun h => nomatch h)
theorem kb_eq0 {x : Int32} {off : Int} (tgt : Nat) (hd : decode X.2.1 pc = .ok (.ifCond .eq off, 3)) (ht : (pc : Int) + off = (tgt : Int)) (hx : ¬ x = 0) (k : KG l X D tys ws sz Qc nc ns (pc + 3) lv st L) : KG l X D tys ws sz Qc nc ns pc lv (.int x :: st) L :=
  k_if_eq (A := none) (B := some ()) (r := ()) tgt hd ht (if_neg hx) (fun h => nomatch h) (fun _ => k)
theorem kb_ne1 {x : Int32} {off : Int} (tgt : Nat) (hd : decode X.2.1 pc = .ok (.ifCond .ne off, 3)) (ht : (pc : Int) + off = (tgt : Int)) (hx : ¬ x = 0) (k : KG l X D tys ws sz Qc nc ns tgt lv st L) : KG l X D tys ws sz Qc nc ns pc lv (.int x :: st) L :=
  k_if_ne (A := none) (B := some ()) (r := ()) tgt hd ht (if_neg hx) (fun h => nomatch h) (fun _ => k)
theorem kb_ne0 {x : Int32} {off : Int} (tgt : Nat) (hd : decode X.2.1 pc = .ok (.ifCond .ne off, 3)) (ht : (pc : Int) + off = (tgt : Int)) (hx : x = 0) (k : KG l X D tys ws sz Qc nc ns (pc + 3) lv st L) : KG l X D tys ws sz Qc nc ns pc lv (.int x :: st) L :=
  k_if_ne (A := some ()) (B := none) (r := ()) tgt hd ht (if_pos hx) (fun _ => k) (fun h => nomatch h)
theorem kb_ieq {x y : Int32} {off : Int} (tgt : Nat) (hd : decode X.2.1 pc = .ok (.if_icmp .eq off, 3)) (ht : (pc : Int) + off = (tgt : Int)) (hx : x = y) (k : KG l X D tys ws sz Qc nc ns tgt lv st L) : KG l X D tys ws sz Qc nc ns pc lv (.int y :: .int x :: st) L :=
  k_icmp_eq (A := some ()) (B := none) (r := ()) tgt hd ht (if_pos hx) (fun _ => k) (fun h => nomatch h)
theorem kb_igt {x y : Int32} {off : Int} (tgt : Nat) (hd : decode X.2.1 pc = .ok (.if_icmp .gt off, 3)) (ht : (pc : Int) + off = (tgt : Int)) (k1 : y < x → KG l X D tys ws sz Qc nc ns tgt lv st L) (k2 : ¬ y < x → KG l X D tys ws sz Qc nc ns (pc + 3) lv st L) : KG l X D tys ws sz Qc nc ns pc lv (.int y :: .int x :: st) L := by
  by_cases h : y < x
  · exact k_icmp_gt (A := some ()) (B := none) (r := ()) tgt hd ht (if_pos h) (fun _ => k1 h) (fun h => nomatch h)
  · exact k_icmp_gt (A := none) (B := some ()) (r := ()) tgt hd ht (if_neg h) (fun h => nomatch h) (fun _ => k2 h)
theorem kb_istore {i : Nat} {x : Int32} {lv' : List (Nat × Value)} (hd : decode X.2.1 pc = .ok (.istore i, 2)) (hn : i < X.2.2.1) (hl' : (i, Value.int x) :: lv.filter (fun q => !(q.1 == i) && !(q.1 + 1 == i && q.2.category == 2)) = lv') (k : KG l X D tys ws sz Qc nc ns (pc + 2) lv' st L) : KG l X D tys ws sz Qc nc ns pc lv (.int x :: st) L :=
  k_istore (f := some) (r := x) (lv' := fun x => (i, Value.int x) :: lv.filter (fun q => !(q.1 == i) && !(q.1 + 1 == i && q.2.category == 2))) hd hn (fun _ => rfl) rfl (fun y h => by
    cases h
    show KG l X D tys ws sz Qc nc ns (pc + 2) ((i, Value.int x) :: lv.filter (fun q => !(q.1 == i) && !(q.1 + 1 == i && q.2.category == 2))) st L
    rw [hl']
    exact k)
theorem kb_iinc {i : Nat} {v : Int} {x y : Int32} {lv' : List (Nat × Value)} (hd : decode X.2.1 pc = .ok (.iinc i v, 3)) (j : Nat) (hj : lv[j]? = some (i, .int x)) (hn : i < X.2.2.1) (hy : x + Int32.ofInt v = y) (hl' : (i, Value.int y) :: lv.filter (fun q => !(q.1 == i) && !(q.1 + 1 == i && q.2.category == 2)) = lv') (k : KG l X D tys ws sz Qc nc ns (pc + 3) lv' st L) : KG l X D tys ws sz Qc nc ns pc lv st L :=
  k_iinc (f := some) (r := x + Int32.ofInt v) (lv' := fun x => (i, Value.int x) :: lv.filter (fun q => !(q.1 == i) && !(q.1 + 1 == i && q.2.category == 2))) hd j hj hn (fun _ => rfl) rfl (fun z h => by
    cases h
    show KG l X D tys ws sz Qc nc ns (pc + 3) ((i, Value.int (x + Int32.ofInt v)) :: lv.filter (fun q => !(q.1 == i) && !(q.1 + 1 == i && q.2.category == 2))) st L
    rw [hy, hl']
    exact k)
theorem kb_lald {a : Nat} {cA : ClassId} {f : Nat → Int64} (q t : Nat) (hk : kl_rd ws L q = some (a, .inl (cA, 1, .inr (.inl f)))) (ht : tys[t]? = some (cA, .long)) (hd : decode X.2.1 pc = .ok (.laload, 1)) (k : KG l X D tys ws sz Qc nc ns (pc + 1) lv (.long (f 0) :: st) L) : KG l X D tys ws sz Qc nc ns pc lv (.int 0 :: .ref a :: st) L :=
  k_lald (g := some) (r := f 0) q t hk ht hd (by rw [show (0 : Int32) = nI 0 from rfl, rd_nI (by decide) (by decide)]; rfl) (fun v h => by
    cases h
    exact k)
theorem kg_sld {i : Int32} (j : Nat) (hj : i.toNatClampNeg = j ∧ vp_in i n) (hws : va_D (va_A [] sz) ws) (hd : decode X.2.1 pc = .ok (.iaload, 1)) (k : KG l X D tys ws sz (lQ b n xs sz) nc ns (pc + 1) lv (.int (xs j) :: st) L) : KG l X D tys ws sz (lQ b n xs sz) nc ns pc lv (.int i :: .ref b :: st) L := by
  intro p e s m args below meth c H locs ls w C hl hP hD hS ho hs
  by_cases hE : kLW b n xs sz args s
  · refine va_sld C.1 C.2.1 hE.2.1 hE.2.2.1 (fun h => ?_) hS hj.2 hd ?_
    · have h1 := vaA_ge (vaA0 hws b h)
      have h2 := hE.2.2.1
      rw [C.2.2.2.2.2.2.2.2.1] at h2
      omega
    · rw [hj.1]
      exact k p e s m args below meth c H locs ls w C hl hP hD hS ho hs
  · exact W_triv (fun t h => absurd h hE)
theorem kg_slen (hws : va_D (va_A [] sz) ws) (hd : decode X.2.1 pc = .ok (.arraylength, 1)) (k : KG l X D tys ws sz (lQ b n xs sz) nc ns (pc + 1) lv (.int (Int32.ofNat n) :: st) L) : KG l X D tys ws sz (lQ b n xs sz) nc ns pc lv (.ref b :: st) L := by
  intro p e s m args below meth c H locs ls w C hl hP hD hS ho hs
  by_cases hE : kLW b n xs sz args s
  · refine va_slen C.1 C.2.1 hE.2.1 hE.2.2.1 (fun h => ?_) hS hd (k p e s m args below meth c H locs ls w C hl hP hD hS ho hs)
    have h1 := vaA_ge (vaA0 hws b h)
    have h2 := hE.2.2.1
    rw [C.2.2.2.2.2.2.2.2.1] at h2
    omega
  · exact W_triv (fun t h => absurd h hE)
theorem kg_calliV {y : MethodName} {bytes : ByteArray} {maxL nn index : Nat} {rt : Option FieldType} {wc wc' : List Cond} {rm : Room} {As stk : List Value} {Lc L' : KL} {r : Int32} {b9 ci N : Nat} {Cn : String} {T : u_T} {fs : List Value} (hG : GoodIn X.2.2.2.2.2 (wsV X.2.2.2.2.1 index Cn y wc)) (hw : wc = Cond.code y bytes maxL rt :: wc') (hrc : rm.cells = 0) (hrs : rm.slots = 0) (hdy : y.cls = Cn ∧ y.cls ≠ "java/lang/invoke/MethodHandle" ∧ y.cls ≠ "java/lang/invoke/VarHandle" ∧ (parseMethodDescriptor y.desc).map (fun d => d.parameters.length) = some nn) (hR : rm.frames + 1 ≤ X.1.frames ∧ 8 + (maxL + 11) + rm.locals ≤ X.1.locals) (hcs : nc ≤ X.1.cells ∧ ns ≤ X.1.slots) (hn : As.length = nn) (hst : stk = As.reverse ++ .ref b9 :: st) (hroom : (st.map fun v => v.category).sum ≤ 8) (q : Nat) (hk : kl_rd ws L q = some (b9, .inr (ci, fs))) (hc : vwCl[ci]? = some (Cn, T, N)) (hd : decode X.2.1 pc = .ok (.invokevirtual index, 3)) (hM : ∀ (w : va_W) (z : Nat), kl_on ws L w → Met l y wc rm (kPc D tys (.ref b9 :: As) w z) (kQi D tys r Lc w z) 0 0 (va_A w z)) (hkeys : Lc.all (fun q => (kl_look L q.1).isSome) = true) (hL : kl_ovr L Lc = L') (k : KG l X D tys ws sz Qc nc ns (pc + 3) lv (.int r :: st) L') : KG l X D tys ws sz Qc nc ns pc lv stk L := by
  intro p e s m args below meth c H locs ls w C hl hP hD hS ho hs
  have hfr := k_free (A := va_A ws sz) C.2.2.2.2.2.2.2.2.1 hD hS
  refine va_calli (va_runV (As := As) (rest := st) ⟨C.1, C.2.1, C.2.2.1, C.2.2.2.2.1, C.2.2.2.2.2.1⟩ (hM w H.size ho) (cwV nn C.2.2.2.2.2.1 hG hw hrc hrs hdy hR) ⟨kPc_blind, va_recv C.2.2.2.2.2.2.2.1 hP hc ((ho q).trans hk), fun U hU hW => ⟨rfl, by rw [hU], by rw [hU]; exact hP, va_K.moved hW.alike C.2.2.2.2.2.2.2.1, hD.weaken (fun _ _ _ _ => trivial), C.2.2.2.2.2.2.2.2.2.warm hW⟩⟩ rfl hn hl.1 hst (lv_room hroom) hd ⟨hcs.1, hcs.2⟩) hS (fun q _ h => hfr q h) hfr (fun r' u t H1 locs1 ht hvm hw hB hz1 hk1 hS => ?_)
  obtain ⟨hP1, hK1⟩ := hB
  rw [ht] at hP1
  obtain ⟨rfl, ho1, hs1⟩ := hw
  exact k p e s m args below meth c H1 locs1 ls u C hl hP1 (hs1.D hD) hS (hL ▸ ho.ovr ho1 (kl_keys hkeys)) (hs.tr hs1)
theorem kg_callH {y : MethodName} {bytes : ByteArray} {maxL nn index : Nat} {rt : Option FieldType} {hh : List (Nat × Nat × Nat × Nat)} {wc wc' : List Cond} {rm : Room} {As stk : List Value} {Lc L' : KL} {r : Int32} (hws : va_D (va_A [] sz) ws) (hG : GoodIn X.2.2.2.2.2 (va_wsS X.2.2.2.2.1 index y wc)) (hw : wc = Cond.codeWith y bytes maxL rt hh :: wc') (hrc : rm.cells = 1) (hrs : rm.slots = 6) (hdy : y.cls ≠ "java/lang/invoke/MethodHandle" ∧ y.cls ≠ "java/lang/invoke/VarHandle" ∧ (parseMethodDescriptor y.desc).map (fun d => d.parameters.length) = some nn) (hR : rm.frames + 1 ≤ X.1.frames ∧ 8 + (maxL + 11) + rm.locals ≤ X.1.locals) (hcs : nc + 1 ≤ X.1.cells ∧ ns + 6 ≤ X.1.slots) (hn : As.length = nn) (hst : stk = As.reverse ++ st) (hroom : (st.map fun v => v.category).sum ≤ 8) (hd : decode X.2.1 pc = .ok (.invokestatic index, 3)) (hM : ∀ (w : va_W) (z : Nat), kl_on ws L w → Met l y wc rm (kPx D tys As w z) (kQi D tys r Lc w z) 1 6 (va_A w z)) (hkeys : Lc.all (fun q => (kl_look L q.1).isSome) = true) (hL : kl_ovr L Lc = L') (k : KG l X D tys ws sz (lQ b n xs sz) (nc + 1) (ns + 6) (pc + 3) lv (.int r :: st) L') : KG l X D tys ws sz (lQ b n xs sz) nc ns pc lv stk L := by
  intro p e s m args below meth c H locs ls w C hl hP hD hS ho hs
  by_cases hE : kLW b n xs sz args s
  · have hfr := k_free (A := va_A ws sz) C.2.2.2.2.2.2.2.2.1 hD hS
    refine va_calli (vx_runSW (As := As) (rest := st) ⟨C.1, C.2.1, C.2.2.1, C.2.2.2.2.1, C.2.2.2.2.2.1⟩ (hM w H.size ho) (vx_cwSW nn C.2.2.2.2.2.1 hG hw hrc hrs hdy hR) ⟨kPx_blind, fun U hU hW => ⟨⟨rfl, by rw [hU], by rw [hU]; exact hP, va_K.moved hW.alike C.2.2.2.2.2.2.2.1, hD.weaken (fun _ _ _ _ => trivial), C.2.2.2.2.2.2.2.2.2.warm hW⟩, hE.1.move hU hW (fun a h1 h2 => hS.2.1 a h1 (fun h => h2 (vaA0 hws a h))) (fun q h => vaA0 hws q (hfr q h))⟩⟩ rfl hn hl.1 hst (lv_room hroom) hd ⟨hcs.1, hcs.2⟩) hS (fun q _ h => hfr q h) hfr (fun r' u t H1 locs1 ht hvm hw hB hz1 hk1 hS => ?_)
    obtain ⟨hP1, hK1⟩ := hB
    rw [ht] at hP1
    obtain ⟨rfl, ho1, hs1⟩ := hw
    exact k p e s m args below meth c H1 locs1 ls u C hl hP1 (hs1.D hD) hS (hL ▸ ho.ovr ho1 (kl_keys hkeys)) (hs.tr hs1)
  · exact W_triv (fun t h => absurd h hE)
theorem kg_lret {words : List Cond} {own : String} (hws : va_D (va_A [] sz) ws) (hn : nc ≤ 210 ∧ ns ≤ 27763) (hd : decode code pc = .ok (.ireturn, 1)) : KG l (room_1, code, 7, ret, own, words) D tys ws sz (lQ b n xs sz) nc ns pc lv [.int 1] L := by
  intro p e s m args below meth c H locs ls w C hl hP hD hS ho hs
  by_cases hE : kLW b n xs sz args s
  · obtain ⟨_, _, _, rfl⟩ := hE
    refine W_mono (fun t h _ => h) (va_forget (fun q hq => ?_) (W.widen (k := 210) (n := 27763) hn.1 hn.2 (lw_ret C.1 C.2.1 C.2.2.2.1 C.2.2.2.2.2.2.1 hd)))
    have := vaA_ge (vaA0 hws _ (hS.2.2 q hq))
    rw [C.2.2.2.2.2.2.2.2.1]
    exact this
  · exact W_triv (fun t h => absurd h hE)
end LROWS
