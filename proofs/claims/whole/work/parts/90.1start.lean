theorem arr_known {args : Array Value} {s : State} {ty : FieldType} (h : (Cond.arrayClass ty).before args s = true) : ∃ cA : ClassId, ArrOfT s cA ty ∧ s.vm.findClass ("[" ++ ty.toString) = some cA := by
  obtain ⟨c, k, comp, h1, h2, h3⟩ := Cond.arrayClass_spec h
  exact ⟨c, fun n z => ⟨fun k h => (by cases h), k, h2, comp, h3⟩, h1⟩
theorem nestF_in : ∀ q ∈ nestF, Cond.fieldLinkNest q.1 q.2.1 q.2.2.1 q.2.2.2.1 q.2.2.2.2.1 q.2.2.2.2.2 ∈ lw_tbl := by decide +kernel
theorem nestM_in : ∀ q ∈ nestM, Cond.methodLinkNest q.1 q.2.1 q.2.2.1 q.2.2.2 ∈ lw_tbl := by decide +kernel
theorem kStr_in : ∀ q ∈ kStr, Cond.stringRef RX5 q.1 q.2 ∈ lw_tbl := by decide +kernel
theorem kDec_in : ∀ x ∈ kDec, Cond.declares x ∈ lw_tbl := by decide +kernel
theorem kExc_in : ∀ x ∈ kExc, Cond.castable x x ∈ lw_tbl := by decide +kernel
set_option maxHeartbeats 8000000 in
set_option maxRecDepth 100000 in
theorem whole_start {p : Program} {e : Env} {s : State} {m : MethodId} {below : List Frame} {meth : Method} {c : Code} (l : Launch) (hl : l.stackTraces = false) {b L : Nat} {xs : Nat → Int32} (hL : L ≤ 320) (C0 : lw_At p s m meth c b L xs) : W p l e room_1 s m #[Value.ref b] below meth c s.heap [] 0 0 (lw_Z below #[Value.ref b] s) (entryFrame m ([Value.ref b] : List Value).toArray 7) := by
  obtain ⟨hx, hb, hr, hml, hown, hts, hX, hbl, hlocks, hgv⟩ := C0
  have hfl := flat_of_before _ hgv
  obtain ⟨d0, e0, k0⟩ := u_known (ws := lw_tbl) (C := RX0) (T := TX0) (N := 6) hts inX0 (hts (.instantiable RX0 6) (by decide +kernel))
  obtain ⟨d1, e1, k1⟩ := u_known (ws := lw_tbl) (C := RX1) (T := TX1) (N := 10) hts inX1 (hts (.instantiable RX1 10) (by decide +kernel))
  obtain ⟨d2, e2, k2⟩ := u_known (ws := lw_tbl) (C := RX2) (T := TX2) (N := 7) hts inX2 (hts (.instantiable RX2 7) (by decide +kernel))
  obtain ⟨d3, e3, k3⟩ := u_known (ws := lw_tbl) (C := RX3) (T := TX3) (N := 9) hts inX3 (hts (.instantiable RX3 9) (by decide +kernel))
  obtain ⟨d4, e4, k4⟩ := u_known (ws := lw_tbl) (C := RX4) (T := TX4) (N := 14) hts inX4 (hts (.instantiable RX4 14) (by decide +kernel))
  obtain ⟨d5, e5, k5⟩ := u_known (ws := lw_tbl) (C := RX5) (T := TX5) (N := 9) hts inX5 (hts (.instantiable RX5 9) (by decide +kernel))
  obtain ⟨d6, e6, k6⟩ := u_known (ws := lw_tbl) (C := RX6) (T := TX6) (N := 43) hts inX6 (hts (.instantiable RX6 43) (by decide +kernel))
  obtain ⟨cI, aI1, aI2⟩ := arr_known (hts (.arrayClass .int) (by decide +kernel))
  obtain ⟨cB, aB1, aB2⟩ := arr_known (hts (.arrayClass .byte) (by decide +kernel))
  obtain ⟨cJ, aJ1, aJ2⟩ := arr_known (hts (.arrayClass .long) (by decide +kernel))
  obtain ⟨cZ, aZ1, aZ2⟩ := arr_known (hts (.arrayClass .boolean) (by decide +kernel))
  obtain ⟨D, hD⟩ : ∃ D : va_G, D = (fun c => match c with | 0 => d0 | 1 => d1 | 2 => d2 | 3 => d3 | 4 => d4 | 5 => d5 | _ => d6, fun c => match c with | 0 => e0 | 1 => e1 | 2 => e2 | 3 => e3 | 4 => e4 | 5 => e5 | _ => e6) := ⟨_, rfl⟩
  have hK : va_K D vwCl (kT cI cB cJ cZ) s := by
    refine ⟨fun c q hq => ?_, fun k q hq => ?_⟩
    · have hc : c < 7 := (List.getElem?_eq_some_iff.mp hq).1
      rw [hD]
      rcases (show c = 0 ∨ c = 1 ∨ c = 2 ∨ c = 3 ∨ c = 4 ∨ c = 5 ∨ c = 6 by omega) with rfl | rfl | rfl | rfl | rfl | rfl | rfl
      · cases hq; exact k0
      · cases hq; exact k1
      · cases hq; exact k2
      · cases hq; exact k3
      · cases hq; exact k4
      · cases hq; exact k5
      · cases hq; exact k6
    · have hc : k < 4 := (List.getElem?_eq_some_iff.mp hq).1
      rcases (show k = 0 ∨ k = 1 ∨ k = 2 ∨ k = 3 by omega) with rfl | rfl | rfl | rfl
      · cases hq; exact ⟨aI1, aI2⟩
      · cases hq; exact ⟨aB1, aB2⟩
      · cases hq; exact ⟨aJ1, aJ2⟩
      · cases hq; exact ⟨aZ1, aZ2⟩
  have hN : kN s := ⟨fun q hq => va_Nw.of rfl (hts _ (nestF_in q hq)), fun q hq => va_Nw.of rfl (hts _ (nestM_in q hq))⟩
  have hA : ∀ a : Nat, a < s.heap.size → ¬ va_A [] s.heap.size a := fun a h1 h2 => by have := vaA_ge h2; omega
  have hE : kEF (va_A [] s.heap.size) s := by
    refine ⟨vx_Zqof (hts _ (by decide +kernel)) (hts _ (by decide +kernel)) (hfl _ (by decide +kernel)) hA, vx_Zqof (hts _ (by decide +kernel)) (hts _ (by decide +kernel)) (hfl _ (by decide +kernel)) hA, fun q hq => ?_, fun x hx => va_Nw.of rfl (hts _ (kExc_in x hx)), fun q hq => ?_, fun x hx => va_Nw.of rfl (hts _ (kDec_in x hx))⟩
    · have h1 := hts _ (kStr_in q hq)
      have h2 : (Cond.exactly (.string RX5 q.1) "java/lang/String").before #[Value.ref b] s = true := by
        simp only [kStr, List.mem_cons, List.not_mem_nil, or_false] at hq
        rcases hq with rfl | rfl | rfl | rfl | rfl | rfl | rfl | rfl | rfl | rfl | rfl | rfl <;> exact hfl _ (by decide +kernel)
      obtain ⟨a, _, _, _, h3, _⟩ := Cond.exactly_spec h2
      exact ⟨a, vk_R.of h1 h3⟩
    · simp only [kNoc, List.mem_cons, List.not_mem_nil, or_false] at hq
      rcases hq with rfl | rfl <;> exact va_Nc.of (hfl _ (by decide +kernel))
  have hl0 := lv_entry ([Value.ref b]) (n := 7) (Nat.le_of_ble_eq_true rfl)
  rw [lg_entry_eq]
  exact W_mono (fun t h => h ⟨hE, hX, hbl, rfl⟩) (law_start (D := D) (cI := cI) (cB := cB) (cJ := cJ) (cZ := cZ) (sz := s.heap.size) (b := b) (n := L) (xs := xs) (nme := meth.name) hl hL p e s m _ below meth c s.heap [] _ ⟨hx, hb, hml, hr, hown, fun w hw => hts w (wsL_law_in w hw), hlocks, hK, rfl, hN⟩ rfl hl0 (fun k q hk => by simp at hk) ⟨fun i j p q hp => by simp at hp, fun k q hk => by simp at hk⟩ va_S.rf)
