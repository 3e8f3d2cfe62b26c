/-! placeNode, placeNext -/
theorem e_isKind {s : Nat} (h : s < 1000) : f_X5_isKind (nI s) = some (if 9 ≤ s ∧ s ≤ 14 then 1 else 0) := by
  unfold f_X5_isKind jn_X5_isKind_16 jn_X5_isKind_17
  by_cases h1 : s < 9
  · rw [if_pos (show nI s < (9 : Int32) from (nI_ltI (b := 9) (by omega) (by omega)).mpr h1), if_neg (by omega)]
    rfl
  · rw [if_neg (show ¬ nI s < (9 : Int32) from fun c => h1 ((nI_ltI (b := 9) (by omega) (by omega)).mp c))]
    by_cases h2 : 14 < s
    · rw [if_pos (show (14 : Int32) < nI s from (nI_ltI (a := 14) (by omega) (by omega)).mpr h2), if_neg (by omega)]
      rfl
    · rw [if_neg (show ¬ (14 : Int32) < nI s from fun c => h2 ((nI_ltI (a := 14) (by omega) (by omega)).mp c)), if_pos (by omega)]
      rfl
theorem e_costOf {P : Nat → Nat} {s i j : Nat} (h1 : 1 ≤ s) (h14 : s ≤ 14) (hi : i ≤ 16) (hj : j ≤ 16) (hP : ∀ x, P x ≤ dINF) : f_X0_costOf (nI s) (nI i) (nI j) (lA P) = some (nI (P (sp s i j) / 4294967296)) := by
  have hI := dINF_v
  have := hP (sp s i j)
  unfold f_X0_costOf
  rw [e_spot h1, ob, rd_lA (sp_lt h14 hi hj h1) (by omega), ob, shr32 (by omega)]
theorem pcon_ne {p : Nat} (h : p < 150) : pcon p = nI p := if_neg (by omega)
theorem nI_nm1 {p : Nat} (h : p < 2 ^ 31) : ¬ nI p = -1 := fun c => by
  have h1 : (nI p).toInt = (-1 : Int32).toInt := by rw [c]
  rw [nI_toInt h] at h1
  have h2 : (-1 : Int32).toInt = -1 := by decide
  omega
section CPLACE
variable {nr : Nat} {hd gs gh ln sg PP : Nat → Nat} {n : Nat} {D : Nat → Nat → Nat → Nat}
/-- the chart that stands -/
def ChartOK (nr : Nat) (hd ln : Nat → Nat) (sy : Nat → Nat → Nat) (n : Nat) (D : Nat → Nat → Nat → Nat) (PP : Nat → Nat) (Ch : Nat → Int32) : Prop := (∀ x, PP x ≤ dINF) ∧ (∀ s i j, 1 ≤ s → s ≤ 14 → i ≤ j → j ≤ n → PP (sp s i j) = D s i j) ∧ ∀ k i j, 9 ≤ k → k ≤ 14 → i ≤ j → j ≤ n → isCh nr hd ln sy D 0 k i j (Ch (csp k i j))
theorem e_placeNode (G : GW nr hd ln (rsy gs)) (F : Fix nr hd ln (rsy gs) n (lf32 sg) D) (hn : n ≤ 16) {Ch : Nat → Int32} (hC : ChartOK nr hd ln (rsy gs) n D PP Ch) {t k i e z w0 d : Nat} {R0 b0 : Nat → Nat} {ce wi : Nat → Int32} {A : A5} (hR : ∀ x, R0 x ≤ dINF) (k9 : 9 ≤ k) (k14 : k ≤ 14) (hie : i ≤ e) (hen : e ≤ n) (hf : D k i e < dINF) (ht : t < 150) (hz : z + w0 ≤ 150) (hwi : wi t = nI d) (hd36 : d ≤ 1000) :
    ∃ (R bn : Nat → Nat) (ce' : Nat → Int32) (W : Nat) (B : A5), (∀ x, R x ≤ dINF) ∧ W ≤ 1000 ∧
      f_X4_placeNode (nI t) (nI k) (nI i) (nI e) (nA ln) (nA gs) (nA gh) (lA PP) Ch (nI z) wi (lA R0) (nI w0) ce (nA b0) A.1 A.2.1 A.2.2.1 A.2.2.2.1 A.2.2.2.2 = some (if d ≤ 36 ∧ z + w0 + ln (rfn nr hd ln (rsy gs) D k i e) ≤ 150 then 1 else 0, lA R, nI W, ce', nA bn, B.1, B.2.1, B.2.2.1, B.2.2.2.1, B.2.2.2.2) ∧
      (d ≤ 36 ∧ z + w0 + ln (rfn nr hd ln (rsy gs) D k i e) ≤ 150 → W = w0 + ln (rfn nr hd ln (rsy gs) D k i e) ∧ ce' = upd (upd ce (t * 7) (nI (rfn nr hd ln (rsy gs) D k i e))) (t * 7 + 6) (nI (ln (rfn nr hd ln (rsy gs) D k i e))) ∧ inE gs gh ln (cfn ln (rsy gs) D (rfn nr hd ln (rsy gs) D k i e) i e) t (rfn nr hd ln (rsy gs) D k i e) w0 0 A B) := by
  have hnr := G.1
  obtain ⟨r, hr⟩ := isRf_ex G F k9 k14 hie hen hf
  have hrf := rfn_eq hr
  rw [hrf]
  have g := G.2 r hr.1
  have hr20 : r < 20 := by have := hr.1; omega
  have hcf : cnv (rsy gs) D r i (ln r) e < dINF := by have := hr.2.2.1.1; omega
  have hpD : ∀ m, m < ln r → ∀ a b, i ≤ a → a ≤ b → b ≤ e → pv PP (rsy gs r m) a b = D (rsy gs r m) a b := fun m hm a b p1 p2 p3 => hC.2.1 _ a b (g.2.2.2 m hm).1 (g.2.2.2 m hm).2 p2 (by omega)
  have hcP : cnv (rsy gs) (pv PP) r i (ln r) e = cnv (rsy gs) D r i (ln r) e := cnv_congr (fun m' hm' a b p1 p2 p3 => hpD m' hm' a b p1 p2 p3)
  obtain ⟨R, bn, ⟨s1, s2⟩, s3⟩ := e_split (b0 := b0) G hC.1 hr.1 hie (show e ≤ 16 by omega) hR (by rw [hcP]; exact hcf)
  have hcut : isCut (rsy gs) D (ln r) r i e (cuf bn (ln r) e) := isCut_congr (fun m hm a b p1 p2 p3 => hpD m hm a b p1 p2 p3) s2
  have hcfn := cfn_eq hcut
  have hcfl : cfn ln (rsy gs) D r i e (ln r) = e := (cfn_is hcut).1
  have hbn : ∀ m, m < ln r → bn m = cfn ln (rsy gs) D r i e m := fun m hm => by
    rw [hcfn m (by omega)]
    unfold cuf
    rw [if_pos hm]
  have hch : Ch (csp k i e) = nI r := by
    rcases hC.2.2 k i e k9 k14 hie hen with ⟨q1, q2⟩ | ⟨r1, q1, q2, q3, q4, q5, q6⟩
    · exact absurd hr.2.2.1 (q2 r (Nat.zero_le _) hr.1 hr.2.1)
    · rw [q5, isRf_unique (r := r1) (r' := r) ⟨q2, q3, q4, fun r' hr' hk' => q6 r' (Nat.zero_le _) hr' hk'⟩ hr]
  have hrule : f_X0_ruleFor (nI k) (nI i) (nI e) Ch = some (nI r) := by
    unfold f_X0_ruleFor
    rw [e_choiceSpot k9, ob, rd_nI (csp_lt k14 (by omega) (by omega) k9) (by omega), ob, hch]
  by_cases hd6 : d ≤ 36
  · have e0 : ∀ v : Nat, nI t * 7 + (nI v) = nI (t * 7 + v) := fun v => by rw [show (7 : Int32) = nI 7 from rfl, nI_mul, nI_add]
    have unf : f_X4_placeNode (nI t) (nI k) (nI i) (nI e) (nA ln) (nA gs) (nA gh) (lA PP) Ch (nI z) wi (lA R0) (nI w0) ce (nA b0) A.1 A.2.1 A.2.2.1 A.2.2.2.1 A.2.2.2.2 = lp_X4_placeNode_100 (nA ln) (nA gs) (nA gh) (lA PP) Ch (nI z) wi (fun x7 h_traced t_waiting t_cells t_begins t_waitSymbols t_waitParents t_waitFirsts t_waitEnds t_waitHints => jn_X4_placeNode_167 (nA ln) (nA gs) (nA gh) (lA PP) Ch (nI z) wi x7 h_traced t_waiting t_cells t_begins t_waitSymbols t_waitParents t_waitFirsts t_waitEnds t_waitHints) FU (nI t) (nI r) (nI 1) (nI e) (dn (ln r)) (lA R) (nI w0) (upd (upd ce (t * 7) (nI r)) (t * 7 + 6) (nI (ln r))) (nA bn) A.1 A.2.1 A.2.2.1 A.2.2.2.1 A.2.2.2.2 := by
      unfold f_X4_placeNode
      simp only [nm]
      rw [hrule, ob, if_neg (nI_nm1 (by omega)), rd_nI ht (by omega), ob, hwi, if_pos (show nI d ≤ (36 : Int32) from (nI_leI (b := 36) (by omega) (by omega)).mpr hd6), rd_nA (by omega) (by omega), ob, show (0 : Int32) = nI 0 from rfl, e0, wrI_nI (by omega) (by omega), ob, show (6 : Int32) = nI 6 from rfl, e0, wrI_nI (by omega) (by omega), ob, s3, ob]
      rfl
    by_cases hfit : z + w0 + ln r ≤ 150
    · obtain ⟨B, c1, c2⟩ := pn_ok (gh := gh) (t := t) (Tr := lA R) (ce := upd (upd ce (t * 7) (nI r)) (t * 7 + 6) (nI (ln r))) (hch := Ch) (wi := wi) (hp := lA PP) (A := A) G hr.1 hfit hbn (fun x7 h_traced t_waiting t_cells t_begins t_waitSymbols t_waitParents t_waitFirsts t_waitEnds t_waitHints => jn_X4_placeNode_167 (nA ln) (nA gs) (nA gh) (lA PP) Ch (nI z) wi x7 h_traced t_waiting t_cells t_begins t_waitSymbols t_waitParents t_waitFirsts t_waitEnds t_waitHints) FU (ln r, A) (FU_gt (by dsimp only; omega)) ⟨Nat.le_refl _, fun w hw => ⟨rfl, rfl, rfl, rfl, rfl⟩, fun m h1 h2 => by dsimp only at h1; omega⟩
      refine ⟨R, bn, upd (upd ce (t * 7) (nI r)) (t * 7 + 6) (nI (ln r)), w0 + ln r, B, s1, by omega, ?_, fun _ => ⟨rfl, rfl, c1⟩⟩
      dsimp only at c2
      rw [Nat.sub_self, Nat.add_zero, hcfl] at c2
      rw [unf, c2, if_pos ⟨hd6, hfit⟩]
      rfl
    · obtain ⟨W, B, c1, c2⟩ := pn_bad (gh := gh) (t := t) (Tr := lA R) (ce := upd (upd ce (t * 7) (nI r)) (t * 7 + 6) (nI (ln r))) (hch := Ch) (wi := wi) (hp := lA PP) G hr.1 (show 150 < z + w0 + ln r by omega) hz hbn (fun x7 h_traced t_waiting t_cells t_begins t_waitSymbols t_waitParents t_waitFirsts t_waitEnds t_waitHints => jn_X4_placeNode_167 (nA ln) (nA gs) (nA gh) (lA PP) Ch (nI z) wi x7 h_traced t_waiting t_cells t_begins t_waitSymbols t_waitParents t_waitFirsts t_waitEnds t_waitHints) FU (ln r, 1, w0, A) (FU_gt (by dsimp only; omega)) ⟨Nat.le_refl _, Nat.le_refl _, by dsimp only; omega, fun _ => ⟨by dsimp only; omega, by dsimp only; omega⟩⟩
      refine ⟨R, bn, upd (upd ce (t * 7) (nI r)) (t * 7 + 6) (nI (ln r)), W, B, s1, c1, ?_, fun h => absurd h.2 hfit⟩
      dsimp only at c2
      rw [hcfl] at c2
      rw [unf, c2, if_neg (fun h => hfit h.2)]
      rfl
  · refine ⟨R0, b0, ce, w0, A, hR, by omega, ?_, fun h => absurd h.1 hd6⟩
    rw [if_neg (fun h => hd6 h.1)]
    unfold f_X4_placeNode jn_X4_placeNode_30
    simp only [nm]
    rw [hrule, ob, if_neg (nI_nm1 (by omega)), rd_nI ht (by omega), ob, hwi, if_neg (show ¬ nI d ≤ (36 : Int32) from fun c => hd6 ((nI_leI (b := 36) (by omega) (by omega)).mp c))]
    rfl
end CPLACE
