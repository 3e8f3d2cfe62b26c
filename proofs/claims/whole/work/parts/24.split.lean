/-! the class's trace and split -/
/-- where the parts of a rule's best node for the tokens from i to j begin -/
def isCut (sy : Nat → Nat → Nat) (p : Nat → Nat → Nat → Nat) (l r i j : Nat) (cu : Nat → Nat) : Prop :=
  cu l = j ∧ ∀ m, m < l → i ≤ cu m ∧ cu m ≤ cu (m + 1) ∧ cnv sy p r i m (cu m) + p (sy r m) (cu m) (cu (m + 1)) = cnv sy p r i (m + 1) (cu (m + 1)) ∧ ∀ b, cu m < b → b ≤ cu (m + 1) → cnv sy p r i m b + p (sy r m) b (cu (m + 1)) ≠ cnv sy p r i (m + 1) (cu (m + 1))
section SPLIT
variable {nr : Nat} {hd gs ln P : Nat → Nat} {n : Nat}
theorem e_trace (G : GW nr hd ln (rsy gs)) (hP : ∀ x, P x ≤ dINF) {r i j : Nat} (hr : r < nr) (hij : i ≤ j) (hj : j ≤ 16) {R0 : Nat → Nat} (hR : ∀ x, R0 x ≤ dINF) :
    ∃ R : Nat → Nat, ((∀ x, R x ≤ dINF) ∧ ∀ m e, m ≤ ln r → i ≤ e → e ≤ j → R (17 * m + e) = cnv (rsy gs) (pv P) r i m e) ∧ f_X0_trace (nI r) (nI i) (nI j) (nA ln) (nA gs) (lA P) (lA R0) = some (lA R) := by
  have g := G.2 r hr
  have hnr := G.1
  have hI := dINF_v
  have l88 : ∀ (m e : Nat) (R : Nat → Nat), m < ln r → i ≤ e → e ≤ j → (∀ x, R x ≤ dINF) → ∀ (k : Int32 → Int32 → Int32 → Int32 → Int32 → Int32 → Int32 → Int64 → (Nat → Int64) → Option (Nat → Int64)) N (t : Nat), e + 1 - i - t < N → t ≤ e + 1 - i → lp_X0_trace_88 (nA ln) (nA gs) (lA P) k N (nI r) (nI i) (nI j) (nI m) (nI (rsy gs r m)) (nI (m * 17)) (nI e) (lN (mnr (fun b => R (17 * m + b) + pv P (rsy gs r m) b e) i t)) (nI (i + t)) (lA R) = k (nI r) (nI i) (nI j) (nI m) (nI (rsy gs r m)) (nI (m * 17)) (nI e) (lN (mnr (fun b => R (17 * m + b) + pv P (rsy gs r m) b e) i (e + 1 - i))) (lA R) := by
    intro m e R hm hie hej hRb k
    refine loopE (fun N t => lp_X0_trace_88 (nA ln) (nA gs) (lA P) k N (nI r) (nI i) (nI j) (nI m) (nI (rsy gs r m)) (nI (m * 17)) (nI e) (lN (mnr (fun b => R (17 * m + b) + pv P (rsy gs r m) b e) i t)) (nI (i + t)) (lA R)) (fun Q => Q = k (nI r) (nI i) (nI j) (nI m) (nI (rsy gs r m)) (nI (m * 17)) (nI e) (lN (mnr (fun b => R (17 * m + b) + pv P (rsy gs r m) b e) i (e + 1 - i))) (lA R)) (fun t => t ≤ e + 1 - i) (fun t => e + 1 - i - t) ?_
    intro N t ht
    have gm := g.2.2.2 m hm
    by_cases h : e < i + t
    · left
      have e1 : t = e + 1 - i := by omega
      subst e1
      simp only [lp_X0_trace_88]
      rw [if_pos ((nI_ltI (by omega) (by omega)).mpr h)]
    · right
      refine ⟨t + 1, by omega, by omega, ?_⟩
      simp only [lp_X0_trace_88, nm]
      have e2 : m * 17 + (i + t) = 17 * m + (i + t) := by omega
      have b1 := hRb (17 * m + (i + t))
      have b2 := hP (sp (rsy gs r m) (i + t) e)
      have b3 := mnr_inf (fun b => R (17 * m + b) + pv P (rsy gs r m) b e) i t
      rw [if_neg (fun c => h ((nI_ltI (by omega) (by omega)).mp c)), nI_add, e2, rd_lA (by omega) (by omega), ob, e_spot gm.1, ob, rd_lA (sp_lt gm.2 (by omega) (by omega) gm.1) (by omega), ob, lN_add, lN_min (by omega) (by omega), of1, nI_add]
      rfl
  have l74 : ∀ (m : Nat) (R1 : Nat → Nat), m < ln r → (∀ e, i ≤ e → e ≤ j → R1 (17 * m + e) = cnv (rsy gs) (pv P) r i m e) → ∀ (k : Int32 → Int32 → Int32 → Int32 → (Nat → Int64) → Option (Nat → Int64)) N (t : Nat × (Nat → Nat)), j + 1 - t.1 < N → (i ≤ t.1 ∧ t.1 ≤ j + 1 ∧ (∀ x, t.2 x ≤ dINF) ∧ (∀ x, x < 17 * (m + 1) → t.2 x = R1 x) ∧ ∀ e, i ≤ e → e < t.1 → t.2 (17 * (m + 1) + e) = cnv (rsy gs) (pv P) r i (m + 1) e) →
      ∃ R : Nat → Nat, ((∀ x, R x ≤ dINF) ∧ (∀ x, x < 17 * (m + 1) → R x = R1 x) ∧ ∀ e, i ≤ e → e ≤ j → R (17 * (m + 1) + e) = cnv (rsy gs) (pv P) r i (m + 1) e) ∧ lp_X0_trace_74 (nA ln) (nA gs) (lA P) k N (nI r) (nI i) (nI j) (nI m) (nI (rsy gs r m)) (nI (m * 17)) (nI t.1) (lA t.2) = k (nI r) (nI i) (nI j) (nI m) (lA R) := by
    intro m R1 hm hR1 k
    refine loopE (fun N (t : Nat × (Nat → Nat)) => lp_X0_trace_74 (nA ln) (nA gs) (lA P) k N (nI r) (nI i) (nI j) (nI m) (nI (rsy gs r m)) (nI (m * 17)) (nI t.1) (lA t.2)) (fun Q => ∃ R : Nat → Nat, ((∀ x, R x ≤ dINF) ∧ (∀ x, x < 17 * (m + 1) → R x = R1 x) ∧ ∀ e, i ≤ e → e ≤ j → R (17 * (m + 1) + e) = cnv (rsy gs) (pv P) r i (m + 1) e) ∧ Q = k (nI r) (nI i) (nI j) (nI m) (lA R)) (fun t => i ≤ t.1 ∧ t.1 ≤ j + 1 ∧ (∀ x, t.2 x ≤ dINF) ∧ (∀ x, x < 17 * (m + 1) → t.2 x = R1 x) ∧ ∀ e, i ≤ e → e < t.1 → t.2 (17 * (m + 1) + e) = cnv (rsy gs) (pv P) r i (m + 1) e) (fun t => j + 1 - t.1) ?_
    rintro N ⟨e, R⟩ ⟨q1, q2, q3, q4, q5⟩
    dsimp only at q1 q2 q3 q4 q5 ⊢
    by_cases h : j < e
    · left
      have e1 : e = j + 1 := by omega
      subst e1
      refine ⟨R, ⟨q3, q4, fun e p1 p2 => q5 e p1 (by omega)⟩, ?_⟩
      simp only [lp_X0_trace_74]
      rw [if_pos ((nI_ltI (by omega) (by omega)).mpr h)]
    · right
      have hv : mnr (fun b => R (17 * m + b) + pv P (rsy gs r m) b e) i (e + 1 - i) = cnv (rsy gs) (pv P) r i (m + 1) e := by
        refine mnr_congr (fun t ht => ?_)
        show R _ + _ = _ + _
        rw [q4 _ (by omega), hR1 (i + t) (by omega) (by omega)]
      refine ⟨(e + 1, updN R (17 * (m + 1) + e) (cnv (rsy gs) (pv P) r i (m + 1) e)), ⟨by dsimp only; omega, by dsimp only; omega, fun x => ?_, fun x hx => ?_, fun e' p1 p2 => ?_⟩, by dsimp only; omega, ?_⟩
      · dsimp only
        unfold updN
        split
        · exact cnv_inf
        · exact q3 x
      · dsimp only
        rw [updN_n (by omega)]
        exact q4 x hx
      · dsimp only at p2 ⊢
        by_cases e1 : e' = e
        · subst e1; exact updN_s
        · rw [updN_n (by omega)]
          exact q5 e' p1 (by omega)
      · dsimp only
        simp only [lp_X0_trace_74, nm]
        have c := l88 m e R hm q1 (by omega) q3 (fun x1 x2 x3 x4 x5 x6 x7 x8 h_traced => (wrL h_traced 102 (x6 + 17 + x7) x8).bind fun h_traced_18 => lp_X0_trace_74 (nA ln) (nA gs) (lA P) k N x1 x2 x3 x4 x5 x6 (x7 + Int32.ofInt 1) h_traced_18) FU 0 (FU_gt (by omega)) (Nat.zero_le _)
        rw [hv] at c
        rw [if_neg (fun c => h ((nI_ltI (by omega) (by omega)).mp c)), dINF_l]
        refine Eq.trans c ?_
        have e2 : m * 17 + 17 + e = 17 * (m + 1) + e := by omega
        rw [i17, nI_add, nI_add, e2, wr_lA (by omega) (by omega), ob, of1, nI_add]
  have l38 := loopE (fun N (t : Nat × (Nat → Nat)) => lp_X0_trace_38 (nA ln) (nA gs) (lA P) (fun h_traced => some h_traced) N (nI r) (nI i) (nI j) (nI t.1) (lA t.2)) (fun Q => ∃ R : Nat → Nat, ((∀ x, R x ≤ dINF) ∧ ∀ m e, m ≤ ln r → i ≤ e → e ≤ j → R (17 * m + e) = cnv (rsy gs) (pv P) r i m e) ∧ Q = some (lA R)) (fun t => t.1 ≤ ln r ∧ (∀ x, t.2 x ≤ dINF) ∧ ∀ m e, m ≤ t.1 → i ≤ e → e ≤ j → t.2 (17 * m + e) = cnv (rsy gs) (pv P) r i m e) (fun t => ln r - t.1) (by
    rintro N ⟨m, R⟩ ⟨q1, q2, q3⟩
    dsimp only at q1 q2 q3 ⊢
    by_cases h : ln r ≤ m
    · left
      have e1 : m = ln r := by omega
      subst e1
      refine ⟨R, ⟨q2, q3⟩, ?_⟩
      simp only [lp_X0_trace_38]
      rw [rd_nA (by omega) (by omega), ob, if_pos ((nI_leI (by omega) (by omega)).mpr h)]
    · right
      obtain ⟨R', ⟨c1, c2, c3⟩, c4⟩ := l74 m R (by omega) (fun e p1 p2 => q3 m e (Nat.le_refl _) p1 p2) (fun x1 x2 x3 x4 h_traced => lp_X0_trace_38 (nA ln) (nA gs) (lA P) (fun h_traced => some h_traced) N x1 x2 x3 (x4 + Int32.ofInt 1) h_traced) FU (i, R) (FU_gt (by dsimp only; omega)) ⟨Nat.le_refl _, by dsimp only; omega, q2, fun _ _ => rfl, fun e p1 p2 => by dsimp only at p2; omega⟩
      refine ⟨(m + 1, R'), ⟨by dsimp only; omega, c1, fun m' e p0 p1 p2 => ?_⟩, by dsimp only; omega, ?_⟩
      · dsimp only at p0 ⊢
        by_cases e1 : m' = m + 1
        · subst e1; exact c3 e p1 p2
        · rw [c2 _ (by omega)]
          exact q3 m' e (by omega) p1 p2
      · dsimp only at c4 ⊢
        simp only [lp_X0_trace_38, nm]
        rw [rd_nA (by omega) (by omega), ob, if_neg (fun c => h ((nI_leI (by omega) (by omega)).mp c)), e_symbolOf (by omega), ob, i17, nI_mul]
        refine Eq.trans c4 ?_
        rw [of1, nI_add])
  have l3 := loopE (fun N (t : Nat × (Nat → Nat)) => lp_X0_trace_3 (nA ln) (nA gs) (lA P) (fun x1 x2 x3 h_traced => lp_X0_trace_38 (nA ln) (nA gs) (lA P) (fun h_traced => some h_traced) FU x1 x2 x3 0 h_traced) N (nI r) (nI i) (nI j) (nI t.1) (lA t.2)) (fun Q => ∃ R : Nat → Nat, ((∀ x, R x ≤ dINF) ∧ ∀ m e, m ≤ ln r → i ≤ e → e ≤ j → R (17 * m + e) = cnv (rsy gs) (pv P) r i m e) ∧ Q = some (lA R)) (fun t => i ≤ t.1 ∧ t.1 ≤ j + 1 ∧ (∀ x, t.2 x ≤ dINF) ∧ ∀ e, i ≤ e → e < t.1 → t.2 e = if i = e then 0 else dINF) (fun t => j + 1 - t.1) (by
    rintro N ⟨e, R⟩ ⟨q1, q2, q3, q4⟩
    dsimp only at q1 q2 q3 q4 ⊢
    by_cases h : j < e
    · left
      have := l38 FU (0, R) (FU_gt (by dsimp only; omega)) ⟨Nat.zero_le _, q3, fun m e' p0 p1 p2 => by
        have e0 : m = 0 := by dsimp only at p0; omega
        subst e0
        dsimp only
        rw [Nat.mul_zero, Nat.zero_add, q4 e' p1 (by omega)]
        rfl⟩
      simp only [lp_X0_trace_3]
      rw [if_pos ((nI_ltI (by omega) (by omega)).mpr h)]
      exact this
    · right
      refine ⟨(e + 1, updN R e (if i = e then 0 else dINF)), ⟨by dsimp only; omega, by dsimp only; omega, fun x => ?_, fun e' p1 p2 => ?_⟩, by dsimp only; omega, ?_⟩
      · dsimp only
        unfold updN
        split
        · split
          · exact Nat.zero_le _
          · exact Nat.le_refl _
        · exact q3 x
      · dsimp only at p2 ⊢
        by_cases e1 : e' = e
        · subst e1; exact updN_s
        · rw [updN_n e1]
          exact q4 e' p1 (by omega)
      · dsimp only
        simp only [lp_X0_trace_3, jn_X0_trace_28, nm]
        rw [if_neg (fun c => h ((nI_ltI (by omega) (by omega)).mp c))]
        by_cases hie : i = e
        · rw [if_pos (by rw [hie]), if_pos hie, show (0 : Int64) = lN 0 from rfl, wr_lA (by omega) (by omega), ob, of1, nI_add]
        · rw [if_neg (fun c => hie ((nI_eq (by omega) (by omega)).mp c).symm), if_neg hie, dINF_l, wr_lA (by omega) (by omega), ob, of1, nI_add])
  have fin := l3 FU (i, R0) (FU_gt (by dsimp only; omega)) ⟨Nat.le_refl _, by dsimp only; omega, hR, fun e p1 p2 => by dsimp only at p2; omega⟩
  obtain ⟨R, c1, c2⟩ := fin
  refine ⟨R, c1, ?_⟩
  unfold f_X0_trace
  simp only [nm]
  exact c2
def cuf (bn : Nat → Nat) (l j m : Nat) : Nat := if m < l then bn m else j
theorem e_split (G : GW nr hd ln (rsy gs)) (hP : ∀ x, P x ≤ dINF) {r i j : Nat} (hr : r < nr) (hij : i ≤ j) (hj : j ≤ 16) {R0 b0 : Nat → Nat} (hR : ∀ x, R0 x ≤ dINF) (hf : cnv (rsy gs) (pv P) r i (ln r) j < dINF) :
    ∃ R bn : Nat → Nat, ((∀ x, R x ≤ dINF) ∧ isCut (rsy gs) (pv P) (ln r) r i j (cuf bn (ln r) j)) ∧ f_X0_split (nI r) (nI i) (nI j) (nA ln) (nA gs) (lA P) (lA R0) (nA b0) = some (lA R, nA bn) := by
  have g := G.2 r hr
  have hnr := G.1
  have hI := dINF_v
  obtain ⟨R, ⟨t1, t2⟩, t3⟩ := e_trace G hP hr hij hj hR
  have l66 : ∀ (m pe : Nat) (bn : Nat → Nat), m < ln r → i ≤ pe → pe ≤ j → cnv (rsy gs) (pv P) r i (m + 1) pe < dINF → ∀ (k : Int32 → Int32 → Int32 → Int32 → (Nat → Int64) → (Nat → Int32) → Option ((Nat → Int64) × (Nat → Int32))) N (b : Nat), b < N → (i ≤ b ∧ b ≤ pe ∧ ∀ b', b < b' → b' ≤ pe → cnv (rsy gs) (pv P) r i m b' + pv P (rsy gs r m) b' pe ≠ cnv (rsy gs) (pv P) r i (m + 1) pe) →
      ∃ b1, (i ≤ b1 ∧ b1 ≤ pe ∧ cnv (rsy gs) (pv P) r i m b1 + pv P (rsy gs r m) b1 pe = cnv (rsy gs) (pv P) r i (m + 1) pe ∧ ∀ b', b1 < b' → b' ≤ pe → cnv (rsy gs) (pv P) r i m b' + pv P (rsy gs r m) b' pe ≠ cnv (rsy gs) (pv P) r i (m + 1) pe) ∧
        lp_X0_split_66 (nA ln) (nA gs) (lA P) k N (nI r) (nI i) (nI pe) (nI m) (nI (rsy gs r m)) (nI (m * 17)) (lN (cnv (rsy gs) (pv P) r i (m + 1) pe)) (nI b) (lA R) (nA bn) = k (nI r) (nI i) (nI m) (nI b1) (lA R) (nA bn) := by
    intro m pe bn hm hpe1 hpe2 hfin k
    have gm := g.2.2.2 m hm
    refine loopE (fun N b => lp_X0_split_66 (nA ln) (nA gs) (lA P) k N (nI r) (nI i) (nI pe) (nI m) (nI (rsy gs r m)) (nI (m * 17)) (lN (cnv (rsy gs) (pv P) r i (m + 1) pe)) (nI b) (lA R) (nA bn)) (fun Q => ∃ b1, (i ≤ b1 ∧ b1 ≤ pe ∧ cnv (rsy gs) (pv P) r i m b1 + pv P (rsy gs r m) b1 pe = cnv (rsy gs) (pv P) r i (m + 1) pe ∧ ∀ b', b1 < b' → b' ≤ pe → cnv (rsy gs) (pv P) r i m b' + pv P (rsy gs r m) b' pe ≠ cnv (rsy gs) (pv P) r i (m + 1) pe) ∧ Q = k (nI r) (nI i) (nI m) (nI b1) (lA R) (nA bn)) _ (fun b => b) ?_
    rintro N b ⟨q1, q2, q3⟩
    have e2 : m * 17 + b = 17 * m + b := by omega
    have b1 := t1 (17 * m + b)
    have b2 := hP (sp (rsy gs r m) b pe)
    have b3 := cnv_inf (sy := rsy gs) (p := pv P) (r := r) (a := i) (m := m + 1) (e := pe)
    by_cases h : b ≤ i
    · left
      have e1 : b = i := by omega
      subst e1
      refine ⟨b, ⟨q1, q2, ?_, q3⟩, ?_⟩
      · rcases cnv_at (sy := rsy gs) (p := pv P) (r := r) (a := b) (m := m) (e := pe) with c | ⟨b', p1, p2, p3⟩
        · omega
        · by_cases c : b' = b
          · subst c; exact p3.symm
          · exact absurd p3.symm (q3 b' (by omega) p2)
      · simp only [lp_X0_split_66]
        rw [if_pos ((nI_leI (by omega) (by omega)).mpr h)]
    · have hT : R (17 * m + b) = cnv (rsy gs) (pv P) r i m b := t2 m b (by omega) q1 (by omega)
      by_cases hc : cnv (rsy gs) (pv P) r i m b + pv P (rsy gs r m) b pe = cnv (rsy gs) (pv P) r i (m + 1) pe
      · left
        refine ⟨b, ⟨q1, q2, hc, q3⟩, ?_⟩
        simp only [lp_X0_split_66]
        have hc' : R (17 * m + b) + P (sp (rsy gs r m) b pe) = cnv (rsy gs) (pv P) r i (m + 1) pe := by rw [hT]; exact hc
        rw [if_neg (fun c => h ((nI_leI (by omega) (by omega)).mp c)), nI_add, e2, rd_lA (by omega) (by omega), ob, e_spot gm.1, ob, rd_lA (sp_lt gm.2 (by omega) (by omega) gm.1) (by omega), ob, lN_add, if_pos ((lgc_eq (by omega) (by omega)).mpr hc')]
      · right
        refine ⟨b - 1, ⟨by omega, by omega, fun b' p1 p2 => ?_⟩, by omega, ?_⟩
        · by_cases e1 : b' = b
          · subst e1; exact hc
          · exact q3 b' (by omega) p2
        · simp only [lp_X0_split_66, nm]
          have hc' : ¬ R (17 * m + b) + P (sp (rsy gs r m) b pe) = cnv (rsy gs) (pv P) r i (m + 1) pe := by rw [hT]; exact hc
          rw [if_neg (fun c => h ((nI_leI (by omega) (by omega)).mp c)), nI_add, e2, rd_lA (by omega) (by omega), ob, e_spot gm.1, ob, rd_lA (sp_lt gm.2 (by omega) (by omega) gm.1) (by omega), ob, lN_add, if_neg (fun c => hc' ((lgc_eq (by omega) (by omega)).mp c)), dn_next]
          have e3 : b = (b - 1) + 1 := by omega
          have e4 : dn b = nI (b - 1) := by rw [e3, dn_s]; rfl
          rw [e4]
  have l23 := loopE (fun N (t : Nat × Nat × (Nat → Nat)) => lp_X0_split_23 (nA ln) (nA gs) (lA P) (fun h_traced t_begins => some (h_traced, t_begins)) N (nI r) (nI i) (nI t.2.1) (dn t.1) (lA R) (nA t.2.2)) (fun Q => ∃ bn : Nat → Nat, isCut (rsy gs) (pv P) (ln r) r i j (cuf bn (ln r) j) ∧ Q = some (lA R, nA bn)) (fun t => t.1 ≤ ln r ∧ t.2.1 = cuf t.2.2 (ln r) j t.1 ∧ i ≤ t.2.1 ∧ t.2.1 ≤ j ∧ cnv (rsy gs) (pv P) r i t.1 t.2.1 < dINF ∧ ∀ m, t.1 ≤ m → m < ln r → i ≤ cuf t.2.2 (ln r) j m ∧ cuf t.2.2 (ln r) j m ≤ cuf t.2.2 (ln r) j (m + 1) ∧ cnv (rsy gs) (pv P) r i m (cuf t.2.2 (ln r) j m) + pv P (rsy gs r m) (cuf t.2.2 (ln r) j m) (cuf t.2.2 (ln r) j (m + 1)) = cnv (rsy gs) (pv P) r i (m + 1) (cuf t.2.2 (ln r) j (m + 1)) ∧ ∀ b, cuf t.2.2 (ln r) j m < b → b ≤ cuf t.2.2 (ln r) j (m + 1) → cnv (rsy gs) (pv P) r i m b + pv P (rsy gs r m) b (cuf t.2.2 (ln r) j (m + 1)) ≠ cnv (rsy gs) (pv P) r i (m + 1) (cuf t.2.2 (ln r) j (m + 1))) (fun t => t.1) (by
    rintro N ⟨c, pe, bn⟩ ⟨q1, q2, q3, q4, q5, q6⟩
    dsimp only at q1 q2 q3 q4 q5 q6 ⊢
    cases c with
    | zero =>
      left
      refine ⟨bn, ⟨by unfold cuf; rw [if_neg (Nat.lt_irrefl _)], fun m hm => q6 m (Nat.zero_le _) hm⟩, ?_⟩
      simp only [lp_X0_split_23]
      rw [if_pos dn_0]
    | succ m =>
      right
      obtain ⟨b1, ⟨d1, d2, d3, d4⟩, d5⟩ := l66 m pe bn (by omega) q3 q4 q5 (fun x1 x2 x6 x11 h_traced t_begins => jn_X0_split_109 (nA ln) (nA gs) (lA P) (lp_X0_split_23 (nA ln) (nA gs) (lA P) (fun h_traced t_begins => some (h_traced, t_begins)) N) x1 x2 x6 x11 h_traced t_begins) FU pe (FU_gt (by omega)) ⟨q3, Nat.le_refl _, fun b' p1 p2 => by omega⟩
      have hcu : ∀ m', m' ≠ m → cuf (updN bn m b1) (ln r) j m' = cuf bn (ln r) j m' := fun m' hne => by
        unfold cuf
        rw [updN_n hne]
      have hcm : cuf (updN bn m b1) (ln r) j m = b1 := by
        unfold cuf
        rw [if_pos (by omega), updN_s]
      refine ⟨(m, b1, updN bn m b1), ⟨by dsimp only; omega, hcm.symm, d1, by dsimp only; omega, by dsimp only; omega, fun m' p1 p2 => ?_⟩, by dsimp only; omega, ?_⟩
      · dsimp only at p1 ⊢
        by_cases e1 : m' = m
        · subst e1
          rw [hcm, hcu (m' + 1) (by omega), ← q2]
          exact ⟨d1, d2, d3, d4⟩
        · rw [hcu m' e1, hcu (m' + 1) (by omega)]
          exact q6 m' (by omega) p2
      · dsimp only
        have e2 : m * 17 + 17 + pe = 17 * (m + 1) + pe := by omega
        rw [dn_s]
        simp only [lp_X0_split_23, nm]
        rw [if_neg (nI_pos (by omega)), e_symbolOf (by omega), ob, i17, nI_mul, nI_add, nI_add, e2, rd_lA (by omega) (by omega), ob, t2 (m + 1) pe (by omega) q3 q4]
        refine Eq.trans d5 ?_
        simp only [jn_X0_split_109, nm]
        rw [wr_nA (by omega) (by omega), ob, dn_next])
  obtain ⟨bn, c1, c2⟩ := l23 FU (ln r, j, b0) (FU_gt (by dsimp only; omega)) ⟨Nat.le_refl _, by dsimp only; unfold cuf; rw [if_neg (Nat.lt_irrefl _)], hij, Nat.le_refl _, hf, fun m p1 p2 => by dsimp only at p1; omega⟩
  refine ⟨R, bn, ⟨t1, c1⟩, ?_⟩
  unfold f_X0_split
  simp only [nm]
  rw [t3, ob, rd_nA (by omega) (by omega), ob]
  exact c2
end SPLIT
