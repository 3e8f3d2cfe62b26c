/-! priceLeaves and fill -/
theorem lfc_le {sg : Nat → Nat} {s i j n : Nat} (hj : j ≤ n) (hn : n ≤ 16) : lfc sg s i j ≤ 17 := by
  unfold lfc
  split
  · omega
  · split <;> omega
theorem lf32_le {sg : Nat → Nat} {s i j n : Nat} (hj : j ≤ n) (hn : n ≤ 16) : lf32 sg s i j ≤ dINF := by
  have := lfc_le (sg := sg) (s := s) (i := i) hj hn
  have hI := dINF_v
  unfold lf32
  omega
def PLd (sg : Nat → Nat) (n s i j : Nat) (P : Nat → Nat) : Prop := (∀ x, P x ≤ dINF) ∧ ∀ s' i' j', 1 ≤ s' → s' ≤ 8 → i' ≤ j' → j' ≤ n → (s' < s ∨ (s' = s ∧ (i' < i ∨ (i' = i ∧ j' < j)))) → P (sp s' i' j') = lf32 sg s' i' j'
theorem PLd.put {sg : Nat → Nat} {n s i j : Nat} {P : Nat → Nat} (hn : n ≤ 16) (h1 : 1 ≤ s) (hij : i ≤ j) (hj : j ≤ n) (h : PLd sg n s i j P) : PLd sg n s i (j + 1) (updN P (sp s i j) (lf32 sg s i j)) := by
  refine ⟨fun x => ?_, fun s' i' j' q1 q8 qij qj hc => ?_⟩
  · unfold updN
    split
    · exact lf32_le hj hn
    · exact h.1 x
  · unfold updN
    split
    · next hx =>
      obtain ⟨rfl, rfl, rfl⟩ := sp_inj q1 h1 (by omega) (by omega) (by omega) (by omega) hx
      rfl
    · next hx =>
      refine h.2 s' i' j' q1 q8 qij qj ?_
      by_cases c : s' = s ∧ i' = i ∧ j' = j
      · obtain ⟨rfl, rfl, rfl⟩ := c
        exact absurd rfl hx
      · omega
theorem e_priceLeaves {sg P0 : Nat → Nat} {n : Nat} (hn : n ≤ 16) (hsg : ∀ t, t < n → sg t ≤ 8) (hP : ∀ x, P0 x ≤ dINF) : ∃ P : Nat → Nat, ((∀ x, P x ≤ dINF) ∧ ∀ s i j, 1 ≤ s → s ≤ 8 → i ≤ j → j ≤ n → P (sp s i j) = lf32 sg s i j) ∧ f_X0_priceLeaves (nI n) (nA sg) (lA P0) = some (lA P) := by
  have inner : ∀ (s i : Nat), 1 ≤ s → s ≤ 8 → i ≤ n → ∀ (k : Int32 → Int32 → (Nat → Int64) → Option (Nat → Int64)) N (t : Nat × (Nat → Nat)), n + 1 - t.1 < N → (i + 1 ≤ t.1 ∧ t.1 ≤ n + 1 ∧ PLd sg n s i t.1 t.2) → ∃ P, PLd sg n s i (n + 1) P ∧ lp_X0_priceLeaves_39 (nI n) (nA sg) k N (nI s) (nI i) (nI t.1) (lA t.2) = k (nI s) (nI i) (lA P) := by
    intro s i h1 h8 hi k
    refine loopE (fun N (t : Nat × (Nat → Nat)) => lp_X0_priceLeaves_39 (nI n) (nA sg) k N (nI s) (nI i) (nI t.1) (lA t.2)) (fun R => ∃ P, PLd sg n s i (n + 1) P ∧ R = k (nI s) (nI i) (lA P)) (fun t => i + 1 ≤ t.1 ∧ t.1 ≤ n + 1 ∧ PLd sg n s i t.1 t.2) (fun t => n + 1 - t.1) ?_
    rintro N ⟨j, P⟩ ⟨q1, q2, q3⟩
    dsimp only at q1 q2 q3 ⊢
    by_cases h : n < j
    · left
      have e1 : j = n + 1 := by omega
      subst e1
      refine ⟨P, q3, ?_⟩
      simp only [lp_X0_priceLeaves_39]
      rw [if_pos ((nI_ltI (by omega) (by omega)).mpr h)]
    · right
      refine ⟨(j + 1, updN P (sp s i j) (lf32 sg s i j)), ⟨by dsimp only; omega, by dsimp only; omega, q3.put hn h1 (by omega) (by omega)⟩, by dsimp only; omega, ?_⟩
      dsimp only
      simp only [lp_X0_priceLeaves_39, jn_X0_priceLeaves_74, nm]
      rw [if_neg (fun c => h ((nI_ltI (by omega) (by omega)).mp c)), i1, nI_sub (show 1 ≤ j by omega), e_signOf (by omega) hn, ob, nI_sub (show i ≤ j by omega), nI_sub (show 1 ≤ j - i by omega), e_spot h1, ob]
      have hlt : sp s i j < 4046 := sp_lt (by omega) (by omega) (by omega) h1
      have hij : ¬ i = j := by omega
      by_cases hs : sg (j - 1) = s
      · rw [if_pos (by rw [hs]), show (0 : Int32) = nI 0 from rfl, nI_add, nI_l (by omega), shl32 _ (by omega), wr_lA hlt (by omega), ob, of1, nI_add]
        have : lf32 sg s i j = (j - i - 1 + 0) * 4294967296 := by unfold lf32 lfc; rw [if_neg hij, if_pos hs]
        rw [this]
      · have hlf : lf32 sg s i j = (j - i - 1 + 1) * 4294967296 := by unfold lf32 lfc; rw [if_neg hij, if_neg hs]
        rw [hlf]
        have hs3 := hsg (j - 1) (by omega)
        have hs2 : ¬ nI (sg (j - 1)) = nI s := fun c => hs ((nI_eq (by omega) (by omega)).mp c)
        rw [if_neg hs2, ob, nI_add, nI_l (by omega), shl32 _ (by omega), wr_lA hlt (by omega), ob, of1, nI_add]
  have middle : ∀ (s : Nat), 1 ≤ s → s ≤ 8 → ∀ (k : Int32 → (Nat → Int64) → Option (Nat → Int64)) N (t : Nat × (Nat → Nat)), n + 1 - t.1 < N → (t.1 ≤ n + 1 ∧ PLd sg n s t.1 0 t.2) → ∃ P, PLd sg n s (n + 1) 0 P ∧ lp_X0_priceLeaves_10 (nI n) (nA sg) k N (nI s) (nI t.1) (lA t.2) = k (nI s) (lA P) := by
    intro s h1 h8 k
    refine loopE (fun N (t : Nat × (Nat → Nat)) => lp_X0_priceLeaves_10 (nI n) (nA sg) k N (nI s) (nI t.1) (lA t.2)) (fun R => ∃ P, PLd sg n s (n + 1) 0 P ∧ R = k (nI s) (lA P)) (fun t => t.1 ≤ n + 1 ∧ PLd sg n s t.1 0 t.2) (fun t => n + 1 - t.1) ?_
    rintro N ⟨i, P⟩ ⟨q2, q3⟩
    dsimp only at q2 q3 ⊢
    by_cases h : n < i
    · left
      have e1 : i = n + 1 := by omega
      subst e1
      refine ⟨P, q3, ?_⟩
      simp only [lp_X0_priceLeaves_10]
      rw [if_pos ((nI_ltI (by omega) (by omega)).mpr h)]
    · right
      have hput : PLd sg n s i (i + 1) (updN P (sp s i i) (lf32 sg s i i)) := by
        refine PLd.put hn h1 (Nat.le_refl _) (by omega) ⟨q3.1, fun s' i' j' a1 a2 a3 a4 a5 => q3.2 s' i' j' a1 a2 a3 a4 (by omega)⟩
      obtain ⟨P', c1, c2⟩ := inner s i h1 h8 (by omega) (fun x1 x2 h_prices => lp_X0_priceLeaves_10 (nI n) (nA sg) k N x1 (x2 + Int32.ofInt 1) h_prices) FU (i + 1, updN P (sp s i i) (lf32 sg s i i)) (FU_gt (by dsimp only; omega)) ⟨Nat.le_refl _, by dsimp only; omega, hput⟩
      refine ⟨(i + 1, P'), ⟨by dsimp only; omega, c1.1, fun s' i' j' a1 a2 a3 a4 a5 => c1.2 s' i' j' a1 a2 a3 a4 (by dsimp only at a5; omega)⟩, by dsimp only; omega, ?_⟩
      dsimp only at c2 ⊢
      simp only [lp_X0_priceLeaves_10, nm]
      have hlf : lf32 sg s i i = 4294967296 := by unfold lf32 lfc; rw [if_pos rfl]
      rw [hlf] at c2
      rw [if_neg (fun c => h ((nI_ltI (by omega) (by omega)).mp c)), e_spot h1, ob, show (4294967296 : Int64) = lN 4294967296 from rfl, wr_lA (sp_lt (by omega) (by omega) (by omega) h1) (by omega), ob, i1, nI_add, c2, of1, nI_add]
  have outer := loopE (fun N (t : Nat × (Nat → Nat)) => lp_X0_priceLeaves_2 (nI n) (nA sg) (fun h_prices => some h_prices) N (nI t.1) (lA t.2)) (fun R => ∃ P, PLd sg n 9 0 0 P ∧ R = some (lA P)) (fun t => 1 ≤ t.1 ∧ t.1 ≤ 9 ∧ PLd sg n t.1 0 0 t.2) (fun t => 9 - t.1) ?_ FU (1, P0) (FU_gt (by dsimp only; omega)) ⟨Nat.le_refl _, by dsimp only; omega, hP, fun s' i' j' a1 a2 a3 a4 a5 => by dsimp only at a5; omega⟩
  · obtain ⟨P, c1, c2⟩ := outer
    refine ⟨P, ⟨c1.1, fun s i j a1 a2 a3 a4 => c1.2 s i j a1 a2 a3 a4 (by omega)⟩, ?_⟩
    unfold f_X0_priceLeaves
    simp only [nm]
    exact c2
  · rintro N ⟨s, P⟩ ⟨q1, q2, q3⟩
    dsimp only at q1 q2 q3 ⊢
    by_cases h : 8 < s
    · left
      have e1 : s = 9 := by omega
      subst e1
      refine ⟨P, q3, ?_⟩
      simp only [lp_X0_priceLeaves_2]
      rw [if_pos (show (8 : Int32) < nI 9 from (nI_ltI (a := 8) (by omega) (by omega)).mpr h)]
    · right
      obtain ⟨P', c1, c2⟩ := middle s q1 (by omega) (fun x1 h_prices => lp_X0_priceLeaves_2 (nI n) (nA sg) (fun h_prices => some h_prices) N (x1 + Int32.ofInt 1) h_prices) FU (0, P) (FU_gt (by dsimp only; omega)) ⟨Nat.zero_le _, q3⟩
      refine ⟨(s + 1, P'), ⟨by dsimp only; omega, by dsimp only; omega, c1.1, fun s' i' j' a1 a2 a3 a4 a5 => c1.2 s' i' j' a1 a2 a3 a4 (by dsimp only at a5; omega)⟩, by dsimp only; omega, ?_⟩
      dsimp only at c2 ⊢
      simp only [lp_X0_priceLeaves_2, nm]
      rw [if_neg (show ¬ (8 : Int32) < nI s from fun c => h ((nI_ltI (a := 8) (by omega) (by omega)).mp c)), show (0 : Int32) = nI 0 from rfl, c2, of1, nI_add]
section FILL
variable {nr : Nat} {hd gs ln sg : Nat → Nat} {n : Nat} {D : Nat → Nat → Nat → Nat}
def FD (n : Nat) (D : Nat → Nat → Nat → Nat) (a e : Nat) (P : Nat → Nat) : Prop := (∀ x, P x ≤ dINF) ∧ ∀ s i j, 1 ≤ s → s ≤ 14 → i ≤ j → j ≤ n → (s ≤ 8 ∨ a < i ∨ (i = a ∧ j < e)) → pv P s i j = D s i j
def FC (nr : Nat) (hd ln : Nat → Nat) (sy : Nat → Nat → Nat) (n : Nat) (D : Nat → Nat → Nat → Nat) (a e : Nat) (Ch : Nat → Int32) : Prop := ∀ k i j, 9 ≤ k → k ≤ 14 → i ≤ j → j ≤ n → (a < i ∨ (i = a ∧ j < e)) → isCh nr hd ln sy D 0 k i j (Ch (csp k i j))
def FB (nr : Nat) (ln : Nat → Nat) (sy : Nat → Nat → Nat) (D : Nat → Nat → Nat → Nat) (a e : Nat) (Bg : Nat → Nat) : Prop := (∀ x, Bg x ≤ dINF) ∧ ∀ r, r < nr → ∀ m b, m ≤ ln r → a ≤ b → b < e → Bg (bx r m b) = cnv sy D r a m b
/-- one span -/
theorem fill_span (G : GW nr hd ln (rsy gs)) (F : Fix nr hd ln (rsy gs) n (lf32 sg) D) (hn : n ≤ 16) {a e : Nat} (hae : a ≤ e) (hen : e ≤ n) {P Bg : Nat → Nat} {Ch : Nat → Int32} (hP : FD n D a e P) (hC : FC nr hd ln (rsy gs) n D a e Ch) (hB : FB nr ln (rsy gs) D a e Bg) :
    ∃ (P1 P2 Bg1 Bg2 : Nat → Nat) (Ch1 Ch2 : Nat → Int32), f_X0_forget (nI a) (nI e) (lA P) Ch = some (lA P1, Ch1) ∧ f_X0_joinInside (nI a) (nI e) (nI nr) (nA ln) (nA gs) (lA P1) (lA Bg) = some (lA Bg1) ∧ f_X0_settle (nI a) (nI e) (nI nr) (nA hd) (nA ln) (nA gs) (lA P1) (lA Bg1) = some (lA P2, lA Bg2) ∧ f_X0_choose (nI a) (nI e) (nI nr) (nA hd) (nA ln) (lA P2) (lA Bg2) Ch1 = some Ch2 ∧ FD n D a (e + 1) P2 ∧ FC nr hd ln (rsy gs) n D a (e + 1) Ch2 ∧ FB nr ln (rsy gs) D a (e + 1) Bg2 := by
  obtain ⟨P1, Ch1, ⟨f1, f2, f3, f4, f5⟩, f6⟩ := e_forget (a := a) (e := e) (Ch0 := Ch) (by omega) (by omega) hP.1
  have G9 : GW nr (fun _ => 9) ln (rsy gs) := ⟨G.1, fun r hr => ⟨Nat.le_refl 9, (by decide : 9 ≤ 14), (G.2 r hr).2.2⟩⟩
  obtain ⟨Bg1, ⟨j1, j2, j3⟩, j4⟩ := e_joinInside (a := a) (e := e) G9 (by omega) (by omega) f1 hB.1
  have hoff : offS D (pv P1) a e := by
    intro s i j q1 q14 qi qij qj qc
    rw [← hP.2 s i j q1 q14 qij (by omega) (by omega)]
    refine f2 _ (fun k k9 k14 hx => ?_)
    have := sp_inj q1 (by omega) (by omega) (by omega) (by omega) (by omega) hx
    omega
  have hcv : ∀ r, r < nr → ∀ m b, m ≤ ln r → b < e → cnv (rsy gs) (pv P1) r a m b = cnv (rsy gs) D r a m b := by
    intro r hr m b hm hb
    have g := (G.2 r hr).2.2.2
    exact cnv_congr (fun m' hm' i j hi hij hj => hoff _ i j (g m' (by omega)).1 (g m' (by omega)).2 hi hij (by omega) (Or.inr (by omega)))
  have hEX : ∀ r, r < nr → EXpre gs ln P1 Bg1 a e r := by
    intro r hr
    have g := (G.2 r hr).2.2.2
    have hcol : ∀ m b, m ≤ ln r → a ≤ b → b < e → Bg1 (bx r m b) = cnv (rsy gs) (pv P1) r a m b := by
      intro m b hm hb1 hb2
      rw [j2 _ (by unfold bx; omega), hB.2 r hr m b hm hb1 hb2, hcv r hr m b hm hb2]
    have hins : ∀ m, m < ln r → ∀ b, a < b → b < e → Bg (bx r m b) + P1 (sp (rsy gs r m) b e) = cnv (rsy gs) (pv P1) r a m b + pv P1 (rsy gs r m) b e := by
      intro m hm b hb1 hb2
      rw [hB.2 r hr m b (by omega) (by omega) hb2, hcv r hr m b (by omega) hb2]
      rfl
    refine ⟨(j3 r hr).1, fun m hm => ?_, fun m hm b hb1 hb2 => ?_, hcol⟩
    · cases m with
      | zero =>
        rw [(j3 r hr).1]
        exact Nat.le_refl _
      | succ m =>
        rw [(j3 r hr).2 m (by omega)]
        refine le_mnr cnv_inf (fun t ht => ?_)
        show _ ≤ Bg _ + P1 _
        rw [hins m (by omega) (a + 1 + t) (by omega) (by omega)]
        exact cnv_le (by omega) (by omega)
    · rw [(j3 r hr).2 m hm, ← hins m hm b hb1 hb2]
      have := mnr_le (f := fun b => Bg (bx r m b) + P1 (sp (rsy gs r m) b e)) (a := a + 1) (d := e - (a + 1)) (t := b - (a + 1)) (by omega)
      have e1 : a + 1 + (b - (a + 1)) = b := by omega
      rw [e1] at this
      exact this
  obtain ⟨P2, Bg2, ⟨s1, s2, s3⟩, s4⟩ := e_settle G F hae hen hn hoff (Bg0 := Bg1) ⟨f1, j1, fun _ _ => rfl, fun k k9 k14 => by rw [f3 k k9 k14]; exact F.2.1 k a e k9 k14 hae hen, fun _ _ => rfl, hEX⟩
  obtain ⟨Ch2, ⟨t1, t2⟩, t3⟩ := e_choose (D := D) G (show a ≤ 16 by omega) (show e ≤ 16 by omega) s1.1 s2 (fun r hr => s3 r hr (ln r) (Nat.le_refl _)) f5
  refine ⟨P1, P2, Bg1, Bg2, Ch1, Ch2, f6, j4, s4, t3, ⟨s1.1, fun s i j q1 q14 qij qj qc => ?_⟩, fun k i j k9 k14 qij qj qc => ?_, s1.2.1, fun r hr m b hm hb1 hb2 => ?_⟩
  · by_cases hc : 9 ≤ s ∧ i = a ∧ j = e
    · obtain ⟨c1, rfl, rfl⟩ := hc
      exact s2 s c1 q14
    · have hx : ∀ k, 9 ≤ k → k ≤ 14 → sp s i j ≠ sp k a e := by
        intro k k9 k14 hx
        have := sp_inj q1 (by omega) (by omega) (by omega) (by omega) (by omega) hx
        omega
      show P2 _ = _
      rw [s1.2.2.1 _ hx, f2 _ hx]
      exact hP.2 s i j q1 q14 qij qj (by omega)
  · by_cases hc : i = a ∧ j = e
    · obtain ⟨rfl, rfl⟩ := hc
      exact t2 k k9 k14
    · have hx : ∀ k', 9 ≤ k' → k' ≤ 14 → csp k i j ≠ csp k' a e := by
        intro k' k9' k14' hx
        have := csp_inj k9 k9' (by omega) (by omega) (by omega) (by omega) hx
        omega
      rw [t1 _ hx, f4 _ hx]
      exact hC k i j k9 k14 qij qj (by omega)
  · by_cases hbe : b = e
    · subst hbe
      exact s3 r hr m hm
    · rw [s1.2.2.2.2.1 _ (by unfold bx; omega), j2 _ (by unfold bx; omega)]
      exact hB.2 r hr m b hm hb1 (by omega)
theorem e_fill (G : GW nr hd ln (rsy gs)) (F : Fix nr hd ln (rsy gs) n (lf32 sg) D) (hn : n ≤ 16) (hsg : ∀ t, t < n → sg t ≤ 8) {P0 Bg0 : Nat → Nat} {Ch0 : Nat → Int32} (hP : ∀ x, P0 x ≤ dINF) (hB : ∀ x, Bg0 x ≤ dINF) :
    ∃ (P Bg : Nat → Nat) (Ch : Nat → Int32), ((∀ x, P x ≤ dINF) ∧ (∀ x, Bg x ≤ dINF) ∧ (∀ s i j, 1 ≤ s → s ≤ 14 → i ≤ j → j ≤ n → P (sp s i j) = D s i j) ∧ ∀ k i j, 9 ≤ k → k ≤ 14 → i ≤ j → j ≤ n → isCh nr hd ln (rsy gs) D 0 k i j (Ch (csp k i j))) ∧
      f_X0_fill (nI nr) (nA hd) (nA ln) (nA gs) (nI n) (nA sg) (lA P0) Ch0 (lA Bg0) = some (lA P, Ch, lA Bg) := by
  obtain ⟨PL, ⟨p1, p2⟩, p3⟩ := e_priceLeaves (sg := sg) hn hsg hP
  have inner : ∀ (a : Nat), a ≤ n → ∀ (k : Int32 → (Nat → Int64) → (Nat → Int32) → (Nat → Int64) → Option ((Nat → Int64) × (Nat → Int32) × (Nat → Int64))) N (t : Nat × (Nat → Nat) × (Nat → Int32) × (Nat → Nat)), n + 1 - t.1 < N → (a ≤ t.1 ∧ t.1 ≤ n + 1 ∧ FD n D a t.1 t.2.1 ∧ FC nr hd ln (rsy gs) n D a t.1 t.2.2.1 ∧ FB nr ln (rsy gs) D a t.1 t.2.2.2) → ∃ (P Bg : Nat → Nat) (Ch : Nat → Int32), (FD n D a (n + 1) P ∧ FC nr hd ln (rsy gs) n D a (n + 1) Ch ∧ FB nr ln (rsy gs) D a (n + 1) Bg) ∧ lp_X0_fill_18 (nI nr) (nA hd) (nA ln) (nA gs) (nI n) (nA sg) k N (nI a) (nI t.1) (lA t.2.1) t.2.2.1 (lA t.2.2.2) = k (nI a) (lA P) Ch (lA Bg) := by
    intro a ha k
    refine loopE (fun N (t : Nat × (Nat → Nat) × (Nat → Int32) × (Nat → Nat)) => lp_X0_fill_18 (nI nr) (nA hd) (nA ln) (nA gs) (nI n) (nA sg) k N (nI a) (nI t.1) (lA t.2.1) t.2.2.1 (lA t.2.2.2)) (fun R => ∃ (P Bg : Nat → Nat) (Ch : Nat → Int32), (FD n D a (n + 1) P ∧ FC nr hd ln (rsy gs) n D a (n + 1) Ch ∧ FB nr ln (rsy gs) D a (n + 1) Bg) ∧ R = k (nI a) (lA P) Ch (lA Bg)) (fun t => a ≤ t.1 ∧ t.1 ≤ n + 1 ∧ FD n D a t.1 t.2.1 ∧ FC nr hd ln (rsy gs) n D a t.1 t.2.2.1 ∧ FB nr ln (rsy gs) D a t.1 t.2.2.2) (fun t => n + 1 - t.1) ?_
    rintro N ⟨e, P, Ch, Bg⟩ ⟨q1, q2, q3, q4, q5⟩
    dsimp only at q1 q2 q3 q4 q5 ⊢
    by_cases h : n < e
    · left
      have e1 : e = n + 1 := by omega
      subst e1
      refine ⟨P, Bg, Ch, ⟨q3, q4, q5⟩, ?_⟩
      simp only [lp_X0_fill_18]
      rw [if_pos ((nI_ltI (by omega) (by omega)).mpr h)]
    · right
      obtain ⟨P1, P2, Bg1, Bg2, Ch1, Ch2, d1, d2, d3, d4, d5, d6, d7⟩ := fill_span G F hn q1 (by omega) q3 q4 q5
      refine ⟨(e + 1, P2, Ch2, Bg2), ⟨by dsimp only; omega, by dsimp only; omega, d5, d6, d7⟩, by dsimp only; omega, ?_⟩
      dsimp only
      simp only [lp_X0_fill_18, nm]
      rw [if_neg (fun c => h ((nI_ltI (by omega) (by omega)).mp c)), d1, ob]
      dsimp only
      rw [d2, ob, d3, ob]
      dsimp only
      rw [d4, ob, of1, nI_add]
  have outer := loopE (fun N (t : Nat × (Nat → Nat) × (Nat → Int32) × (Nat → Nat)) => lp_X0_fill_12 (nI nr) (nA hd) (nA ln) (nA gs) (nI n) (nA sg) (fun h_prices h_choices h_begun => some (h_prices, h_choices, h_begun)) N (dn t.1) (lA t.2.1) t.2.2.1 (lA t.2.2.2)) (fun R => ∃ (P Bg : Nat → Nat) (Ch : Nat → Int32), ((∀ x, P x ≤ dINF) ∧ (∀ x, Bg x ≤ dINF) ∧ (∀ s i j, 1 ≤ s → s ≤ 14 → i ≤ j → j ≤ n → P (sp s i j) = D s i j) ∧ ∀ k i j, 9 ≤ k → k ≤ 14 → i ≤ j → j ≤ n → isCh nr hd ln (rsy gs) D 0 k i j (Ch (csp k i j))) ∧ R = some (lA P, Ch, lA Bg))
    (fun t => t.1 ≤ n + 1 ∧ (∀ x, t.2.1 x ≤ dINF) ∧ (∀ x, t.2.2.2 x ≤ dINF) ∧ (∀ s i j, 1 ≤ s → s ≤ 14 → i ≤ j → j ≤ n → (s ≤ 8 ∨ t.1 ≤ i) → pv t.2.1 s i j = D s i j) ∧ ∀ k i j, 9 ≤ k → k ≤ 14 → i ≤ j → j ≤ n → t.1 ≤ i → isCh nr hd ln (rsy gs) D 0 k i j (t.2.2.1 (csp k i j))) (fun t => t.1) ?_ FU (n + 1, PL, Ch0, Bg0) (FU_gt (by dsimp only; omega)) ⟨Nat.le_refl _, p1, hB, fun s i j a1 a2 a3 a4 a5 => ?_, fun k i j a1 a2 a3 a4 a5 => by dsimp only at a5; omega⟩
  · obtain ⟨P, Bg, Ch, c1, c2⟩ := outer
    refine ⟨P, Bg, Ch, c1, ?_⟩
    unfold f_X0_fill
    simp only [nm]
    rw [p3, ob]
    rw [dn_s] at c2
    exact c2
  · rintro N ⟨a, P, Ch, Bg⟩ ⟨q1, q2, q3, q4, q5⟩
    dsimp only at q1 q2 q3 q4 q5 ⊢
    cases a with
    | zero =>
      left
      refine ⟨P, Bg, Ch, ⟨q2, q3, fun s i j a1 a2 a3 a4 => q4 s i j a1 a2 a3 a4 (Or.inr (Nat.zero_le _)), fun k i j a1 a2 a3 a4 => q5 k i j a1 a2 a3 a4 (Nat.zero_le _)⟩, ?_⟩
      simp only [lp_X0_fill_12]
      rw [if_pos dn_0]
    | succ a =>
      right
      obtain ⟨P', Bg', Ch', ⟨c1, c2, c3⟩, c4⟩ := inner a (by omega) (fun x1 h_prices h_choices h_begun => lp_X0_fill_12 (nI nr) (nA hd) (nA ln) (nA gs) (nI n) (nA sg) (fun h_prices h_choices h_begun => some (h_prices, h_choices, h_begun)) N (x1 + Int32.ofInt (-1)) h_prices h_choices h_begun) FU (a, P, Ch, Bg) (FU_gt (by dsimp only; omega)) ⟨Nat.le_refl _, by dsimp only; omega, ⟨q2, fun s i j a1 a2 a3 a4 a5 => q4 s i j a1 a2 a3 a4 (by dsimp only at a5; omega)⟩, fun k i j a1 a2 a3 a4 a5 => q5 k i j a1 a2 a3 a4 (by dsimp only at a5; omega), q3, fun r hr m b hm hb1 hb2 => by dsimp only at hb2; omega⟩
      refine ⟨(a, P', Ch', Bg'), ⟨by dsimp only; omega, c1.1, c3.1, fun s i j a1 a2 a3 a4 a5 => c1.2 s i j a1 a2 a3 a4 (by dsimp only at a5; omega), fun k i j a1 a2 a3 a4 a5 => c2 k i j a1 a2 a3 a4 (by dsimp only at a5; omega)⟩, by dsimp only; omega, ?_⟩
      dsimp only at c4 ⊢
      rw [dn_s]
      simp only [lp_X0_fill_12, nm]
      rw [if_neg (nI_pos (by omega)), c4, dn_next]
  · dsimp only at a5 ⊢
    have : s ≤ 8 := by omega
    show PL _ = _
    rw [p2 s i j a1 this a3 a4, F.1 s i j a1 this a3 a4]
end FILL
