/-! the reference's rule -/
section MRULE
abbrev R9 : Type := Int32 × (Int32) × (Int32) × (Int32) × (Nat → Int32) × (Nat → Int32) × (Nat → Int32) × (Nat → Int32) × (Nat → Int32)
abbrev K14 : Type := (Int32) → (Int32) → (Int32) → (Int32) → (Int32) → (Int32) → (Int32) → (Int32) → (Int32) → (Nat → Int32) → (Nat → Int32) → (Nat → Int32) → (Nat → Int32) → (Nat → Int32) → Option R9
abbrev K15 : Type := (Int32) → (Int32) → (Int32) → (Int32) → (Int32) → (Int32) → (Int32) → (Int32) → (Int32) → (Int32) → (Nat → Int32) → (Nat → Int32) → (Nat → Int32) → (Nat → Int32) → (Nat → Int32) → Option R9
variable {x1 x2 x3 x4 th mr mtr : Int32} {A B C D E : Nat → Int32}
theorem e_m38 {K : K14} {s : Nat} (hs : s < 2 ^ 31) {g0 : Int32} (hg : g0 = 0 ∨ g0 = 1) :
    ∃ n g, isN s n ∧ n ≤ 8 ∧ ((g = (1 : Int32) ∧ g0 = 1 ∧ okS s n) ∨ (g = 0 ∧ ¬ (g0 = 1 ∧ okS s n))) ∧ lp_X6_rule_38 K FU x1 x2 x3 x4 0 g0 (nI s) th mr mtr A B C D E = K x1 x2 x3 x4 (nI n) g th mr mtr A B C D E := by
  have key := loopE (fun N (q : Nat × Int32) => lp_X6_rule_38 K N x1 x2 x3 x4 (nI q.1) q.2 (nI (s / 16 ^ q.1)) th mr mtr A B C D E)
    (fun R => ∃ n g, isN s n ∧ n ≤ 8 ∧ ((g = (1 : Int32) ∧ g0 = 1 ∧ okS s n) ∨ (g = 0 ∧ ¬ (g0 = 1 ∧ okS s n))) ∧ R = K x1 x2 x3 x4 (nI n) g th mr mtr A B C D E)
    (fun q => q.1 ≤ 8 ∧ (∀ t', t' < q.1 → 0 < s / 16 ^ t') ∧ ((q.2 = 1 ∧ g0 = 1 ∧ okS s q.1) ∨ (q.2 = 0 ∧ ¬ (g0 = 1 ∧ okS s q.1)))) (fun q => 8 - q.1) ?_ FU (0, g0) (FU_gt (by dsimp only; omega)) ⟨by dsimp only; omega, fun t' h => absurd h (by dsimp only; omega), ?_⟩
  · dsimp only at key
    rw [show s / 16 ^ 0 = s by simp] at key
    exact key
  · rintro N ⟨t, g⟩ ⟨h1, h2, h3⟩
    dsimp only at h1 h2 h3 ⊢
    have hv : s / 16 ^ t < 2 ^ 31 := div_lt31 hs
    simp only [lp_X6_rule_38, jn_X6_rule_71, jn_X6_rule_72, nm]
    by_cases h0 : s / 16 ^ t = 0
    · left
      rw [if_pos (show nI (s / 16 ^ t) ≤ (0 : Int32) by rw [h0]; decide)]
      exact ⟨t, g, ⟨h0, h2⟩, h1, h3, rfl⟩
    · right
      have ht8 : t < 8 := by
        rcases Nat.lt_or_ge t 8 with c | c
        · exact c
        · have e : t = 8 := by omega
          rw [e] at h0
          exact absurd (show s / 16 ^ 8 = 0 by omega) h0
      rw [if_neg (show ¬ nI (s / 16 ^ t) ≤ (0 : Int32) from fun c => h0 (Nat.le_zero.mp ((nI_leI (b := 0) hv (by omega)).mp c))), show (16 : Int32) = nI 16 from rfl, pk_rem hv (by omega) (by omega), pk_div hv (by omega) (by omega), div16, of1, nI_add]
      have h2' : ∀ t', t' < t + 1 → 0 < s / 16 ^ t' := by
        intro t' ht'
        by_cases e : t' = t
        · rw [e]; exact Nat.pos_of_ne_zero h0
        · exact h2 t' (by omega)
      have no : ∀ {p : Prop}, p → ¬ (1 ≤ s / 16 ^ t % 16 ∧ s / 16 ^ t % 16 ≤ 14) → ¬ (g0 = 1 ∧ okS s (t + 1)) := fun _ hh c => hh (c.2 t (by omega))
      rcases h3 with ⟨e1, e2, e3⟩ | ⟨e1, e2⟩
      · rw [e1, if_neg (by decide)]
        by_cases d1 : s / 16 ^ t % 16 < 1
        · rw [if_pos (show nI (s / 16 ^ t % 16) < (1 : Int32) from (nI_ltI (b := 1) (by omega) (by omega)).mpr d1)]
          exact ⟨(t + 1, 0), ⟨by dsimp only; omega, h2', Or.inr ⟨rfl, no d1 (by omega)⟩⟩, by dsimp only; omega, rfl⟩
        · rw [if_neg (show ¬ nI (s / 16 ^ t % 16) < (1 : Int32) from fun c => d1 ((nI_ltI (b := 1) (by omega) (by omega)).mp c))]
          by_cases d2 : 14 < s / 16 ^ t % 16
          · rw [if_pos (show (14 : Int32) < nI (s / 16 ^ t % 16) from (nI_ltI (a := 14) (by omega) (by omega)).mpr d2)]
            exact ⟨(t + 1, 0), ⟨by dsimp only; omega, h2', Or.inr ⟨rfl, no d1 (by omega)⟩⟩, by dsimp only; omega, rfl⟩
          · rw [if_neg (show ¬ (14 : Int32) < nI (s / 16 ^ t % 16) from fun c => d2 ((nI_ltI (a := 14) (by omega) (by omega)).mp c))]
            refine ⟨(t + 1, 1), ⟨by dsimp only; omega, h2', Or.inl ⟨rfl, e2, fun t' ht' => ?_⟩⟩, by dsimp only; omega, rfl⟩
            dsimp only at ht'
            by_cases e : t' = t
            · rw [e]; omega
            · exact e3 t' (by omega)
      · rw [e1, if_pos rfl]
        exact ⟨(t + 1, 0), ⟨by dsimp only; omega, h2', Or.inr ⟨rfl, fun c => e2 ⟨c.1, fun t' ht' => c.2 t' (by omega)⟩⟩⟩, by dsimp only; omega, rfl⟩
  · rcases hg with e | e
    · exact Or.inr ⟨e, fun c => absurd (e.symm.trans c.1) (by decide)⟩
    · exact Or.inl ⟨e, e, fun t' h => absurd h (by dsimp only; omega)⟩
theorem e_m93 {K : K15} {q n : Nat} (hq : q < 2 ^ 31) (hn : n ≤ 8) :
    ∃ g, ((g = (1 : Int32) ∧ ∀ t, t + 1 < n → q / 4 ^ t % 4 < 3) ∨ (g = 0 ∧ ¬ ∀ t, t + 1 < n → q / 4 ^ t % 4 < 3)) ∧ lp_X6_rule_93 K FU x1 x2 x3 x4 (nI n) 1 (nI q) 1 th mr mtr A B C D E = K x1 x2 x3 x4 (nI n) g (nI (q / 4 ^ (n - 1))) th mr mtr A B C D E := by
  have key := loopE (fun N (w : Nat × Int32) => lp_X6_rule_93 K N x1 x2 x3 x4 (nI n) w.2 (nI (q / 4 ^ w.1)) (nI (w.1 + 1)) th mr mtr A B C D E)
    (fun R => ∃ g, ((g = (1 : Int32) ∧ ∀ t, t + 1 < n → q / 4 ^ t % 4 < 3) ∨ (g = 0 ∧ ¬ ∀ t, t + 1 < n → q / 4 ^ t % 4 < 3)) ∧ R = K x1 x2 x3 x4 (nI n) g (nI (q / 4 ^ (n - 1))) th mr mtr A B C D E)
    (fun w => w.1 ≤ n - 1 ∧ ((w.2 = 1 ∧ ∀ t, t < w.1 → q / 4 ^ t % 4 < 3) ∨ (w.2 = 0 ∧ ¬ ∀ t, t + 1 < n → q / 4 ^ t % 4 < 3))) (fun w => n - 1 - w.1) ?_ FU (0, 1) (FU_gt (by dsimp only; omega)) ⟨by dsimp only; omega, Or.inl ⟨rfl, fun t h => absurd h (by dsimp only; omega)⟩⟩
  · dsimp only at key
    rw [show q / 4 ^ 0 = q by simp] at key
    exact key
  · rintro N ⟨t, g⟩ ⟨h1, h3⟩
    dsimp only at h1 h3 ⊢
    have hv : q / 4 ^ t < 2 ^ 31 := div_lt31 hq
    simp only [lp_X6_rule_93, jn_X6_rule_117, jn_X6_rule_118, nm]
    by_cases h : n ≤ t + 1
    · left
      have e : t = n - 1 := by omega
      rw [if_pos ((nI_leI (by omega) (by omega)).mpr h), e]
      refine ⟨g, ?_, rfl⟩
      rcases h3 with ⟨a, b⟩ | c
      · exact Or.inl ⟨a, fun t' ht' => b t' (by omega)⟩
      · exact Or.inr c
    · right
      rw [if_neg (fun c => h ((nI_leI (by omega) (by omega)).mp c)), show (4 : Int32) = nI 4 from rfl, pk_rem hv (by omega) (by omega), pk_div hv (by omega) (by omega), div4, of1, nI_add]
      rcases h3 with ⟨e1, e2⟩ | ⟨e1, e2⟩
      · rw [e1, if_neg (by decide)]
        by_cases d : 3 ≤ q / 4 ^ t % 4
        · rw [if_pos (show (3 : Int32) ≤ nI (q / 4 ^ t % 4) from (nI_leI (a := 3) (by omega) (by omega)).mpr d)]
          exact ⟨(t + 1, 0), ⟨by dsimp only; omega, Or.inr ⟨rfl, fun c => by have := c t (by omega); omega⟩⟩, by dsimp only; omega, rfl⟩
        · rw [if_neg (show ¬ (3 : Int32) ≤ nI (q / 4 ^ t % 4) from fun c => d ((nI_leI (a := 3) (by omega) (by omega)).mp c))]
          refine ⟨(t + 1, 1), ⟨by dsimp only; omega, Or.inl ⟨rfl, fun t' ht' => ?_⟩⟩, by dsimp only; omega, rfl⟩
          dsimp only at ht'
          by_cases e : t' = t
          · rw [e]; omega
          · exact e2 t' (by omega)
      · rw [e1, if_pos rfl]
        exact ⟨(t + 1, 0), ⟨by dsimp only; omega, Or.inr ⟨rfl, e2⟩⟩, by dsimp only; omega, rfl⟩
theorem e_m93b {K : K15} {n : Nat} {h : Int32} (hn : n ≤ 8) :
    ∃ h', lp_X6_rule_93 K FU x1 x2 x3 x4 (nI n) 0 h 1 th mr mtr A B C D E = K x1 x2 x3 x4 (nI n) 0 h' th mr mtr A B C D E := by
  have key := loopE (fun N (w : Nat × Int32) => lp_X6_rule_93 K N x1 x2 x3 x4 (nI n) 0 w.2 (nI (w.1 + 1)) th mr mtr A B C D E)
    (fun R => ∃ h', R = K x1 x2 x3 x4 (nI n) 0 h' th mr mtr A B C D E)
    (fun w => w.1 ≤ n) (fun w => n - w.1) ?_ FU (0, h) (FU_gt (by dsimp only; omega)) (by dsimp only; omega)
  · exact key
  · rintro N ⟨t, g⟩ h1
    dsimp only at h1 ⊢
    simp only [lp_X6_rule_93, jn_X6_rule_117, jn_X6_rule_118, nm, if_true]
    by_cases hc : n ≤ t + 1
    · left
      rw [if_pos ((nI_leI (by omega) (by omega)).mpr hc)]
      exact ⟨g, rfl⟩
    · right
      rw [if_neg (fun c => hc ((nI_leI (by omega) (by omega)).mp c)), of1, nI_add]
      exact ⟨(t + 1, g / 4), by dsimp only; omega, by dsimp only; omega, rfl⟩
/-- the rule that is given can be had -/
def okR (a1 a2 a3 : Int32) (h s q n : Nat) : Prop := a1 = nI h ∧ a2 = nI s ∧ a3 = nI q ∧ 9 ≤ h ∧ h ≤ 14 ∧ s < 2 ^ 31 ∧ q < 2 ^ 31 ∧ isN s n ∧ n ≤ 5 ∧ okS s n ∧ okH q n
theorem dnI (c : Nat) : nI (c + 1) + Int32.ofInt (-1) = nI c := pk_m1 c
theorem e_m181 {nr s q n h : Nat} {hd ln gs gh : Nat → Nat} {gi : Nat → Int32} (hnr : nr < 20) (h5 : n ≤ 5) (hs : s < 2 ^ 31) (hq : q < 2 ^ 31) :
    lp_X6_rule_181 (fun x1 x4 x5 m_thrown m_rules m_tree m_head m_size m_symbol m_hint m_in =>
                (wrI m_head 20 m_rules x1).bind fun m_head_22 =>
                (wrI m_size 20 m_rules x5).bind fun m_size_23 =>
                (wrI m_in 20 m_rules (vp_nar .boolean x4)).bind fun m_in_24 =>
                some (((m_rules + 1)) - 1, m_thrown, ((m_rules + 1)), 0, m_head_22, m_size_23, m_symbol, m_hint, m_in_24))
                FU (nI h) x4 (nI n) (nI q) (nI s) (nI n - 1) th (nI nr) mtr (nA hd) (nA ln) (nA gs) (nA gh) gi = some (nI nr, th, nI (nr + 1), 0, nA (updN hd nr h), nA (updN ln nr n), nA (rowF gs (nr * 5) n (symF s n)), nA (rowF gh (nr * 5) n (hinF q n)), upd gi nr (vp_nar .boolean x4)) := by
  have key := loopE (fun N c => lp_X6_rule_181 (fun x1 x4 x5 m_thrown m_rules m_tree m_head m_size m_symbol m_hint m_in =>
                (wrI m_head 20 m_rules x1).bind fun m_head_22 =>
                (wrI m_size 20 m_rules x5).bind fun m_size_23 =>
                (wrI m_in 20 m_rules (vp_nar .boolean x4)).bind fun m_in_24 =>
                some (((m_rules + 1)) - 1, m_thrown, ((m_rules + 1)), 0, m_head_22, m_size_23, m_symbol, m_hint, m_in_24))
                N (nI h) x4 (nI n) (nI (q / 4 ^ (n - c))) (nI (s / 16 ^ (n - c))) (dn c) th (nI nr) mtr (nA hd) (nA ln) (nA (rowD gs (nr * 5) c n (symF s n))) (nA (rowD gh (nr * 5) c n (hinF q n))) gi)
    (fun R => R = some (nI nr, th, nI (nr + 1), 0, nA (updN hd nr h), nA (updN ln nr n), nA (rowF gs (nr * 5) n (symF s n)), nA (rowF gh (nr * 5) n (hinF q n)), upd gi nr (vp_nar .boolean x4)))
    (fun c => c ≤ n) (fun c => c) ?_ FU n (FU_gt (by omega)) (Nat.le_refl _)
  · rw [Nat.sub_self, rowD_n, rowD_n, show q / 4 ^ 0 = q by simp, show s / 16 ^ 0 = s by simp] at key
    exact key
  · intro N c hc
    simp only [lp_X6_rule_181, nm]
    cases c with
    | zero =>
      left
      rw [if_pos (by decide), rowD_0, rowD_0, wr_nA hnr (by omega), ob, wr_nA hnr (by omega), ob, wrI_nI hnr (by omega), ob, nI_1 nr, nI_sub1 (by omega)]
      rfl
    | succ c =>
      right
      refine ⟨c, by omega, by omega, ?_⟩
      have hv : s / 16 ^ (n - (c + 1)) < 2 ^ 31 := div_lt31 hs
      have hw : q / 4 ^ (n - (c + 1)) < 2 ^ 31 := div_lt31 hq
      have d0 : dn (c + 1) = nI c := dn_s c
      rw [d0, if_neg (nI_pos (by omega)), show (16 : Int32) = nI 16 from rfl, show (4 : Int32) = nI 4 from rfl, pk_rem hv (by omega) (by omega), pk_div hv (by omega) (by omega), pk_rem hw (by omega) (by omega), pk_div hw (by omega) (by omega), div16, div4, show (5 : Int32) = nI 5 from rfl, nI_mul, nI_add, Nat.mul_comm 5 nr, show s / 16 ^ (n - (c + 1)) % 16 = symF s n c by unfold symF; rw [show n - (c + 1) = n - 1 - c by omega], show q / 4 ^ (n - (c + 1)) % 4 = hinF q n c by unfold hinF; rw [show n - (c + 1) = n - 1 - c by omega], wr_nA (by omega) (by omega), ob, wr_nA (by omega) (by omega), ob, rowD_s (by omega), rowD_s (by omega), show n - (c + 1) + 1 = n - c by omega, dn_next]
theorem e_mrule {nr : Nat} {hd ln gs gh : Nat → Nat} {gi : Nat → Int32} {a1 a2 a3 a4 o1 : Int32} (hnr : nr ≤ 20) :
    (∃ h s q n, okR a1 a2 a3 h s q n ∧ ((nr = 20 ∧ f_X6_rule a1 a2 a3 a4 o1 (nI nr) mtr (nA hd) (nA ln) (nA gs) (nA gh) gi = some (0, 2, nI nr, mtr, nA hd, nA ln, nA gs, nA gh, gi)) ∨ (nr < 20 ∧ f_X6_rule a1 a2 a3 a4 o1 (nI nr) mtr (nA hd) (nA ln) (nA gs) (nA gh) gi = some (nI nr, 0, nI (nr + 1), 0, nA (updN hd nr h), nA (updN ln nr n), nA (rowF gs (nr * 5) n (symF s n)), nA (rowF gh (nr * 5) n (hinF q n)), upd gi nr (vp_nar .boolean a4))))) ∨
    ((¬ ∃ h s q n, okR a1 a2 a3 h s q n) ∧ f_X6_rule a1 a2 a3 a4 o1 (nI nr) mtr (nA hd) (nA ln) (nA gs) (nA gh) gi = some (0, 1, nI nr, mtr, nA hd, nA ln, nA gs, nA gh, gi)) := by
  have bad : jn_X6_rule_33 a1 a2 a3 a4 0 0 0 (nI nr) mtr (nA hd) (nA ln) (nA gs) (nA gh) gi = some (0, 1, nI nr, mtr, nA hd, nA ln, nA gs, nA gh, gi) := by
    unfold jn_X6_rule_33
    simp only [nm]
    have fin : ∀ (K : K14), (∀ n, n ≤ 8 → K a1 a2 a3 a4 (nI n) 0 0 (nI nr) mtr (nA hd) (nA ln) (nA gs) (nA gh) gi = some (0, 1, nI nr, mtr, nA hd, nA ln, nA gs, nA gh, gi)) → lp_X6_rule_38 K FU a1 a2 a3 a4 0 0 a2 0 (nI nr) mtr (nA hd) (nA ln) (nA gs) (nA gh) gi = some (0, 1, nI nr, mtr, nA hd, nA ln, nA gs, nA gh, gi) := by
      intro K hK
      by_cases c : a2 < 0
      · obtain ⟨N, hN⟩ : ∃ M, FU = M + 1 := ⟨FU - 1, by have := FU_gt (m := 0) (by omega); omega⟩
        rw [hN]
        simp only [lp_X6_rule_38]
        rw [if_pos (Int32.le_of_lt c)]
        exact hK 0 (by omega)
      · obtain ⟨s, hs, e⟩ := nI_of c
        obtain ⟨n, g, h1, h2, h3, h4⟩ := e_m38 (K := K) (x1 := a1) (x2 := a2) (x3 := a3) (x4 := a4) (th := 0) (mr := nI nr) (mtr := mtr) (A := nA hd) (B := nA ln) (C := nA gs) (D := nA gh) (E := gi) hs (Or.inl (rfl : (0 : Int32) = 0))
        rw [← e] at h4
        rw [h4]
        rcases h3 with ⟨_, e2, _⟩ | ⟨e2, _⟩
        · exact absurd e2 (by decide)
        · rw [e2]; exact hK n h2
    refine fin _ (fun n hn => ?_)
    obtain ⟨h', e⟩ := e_m93b (K := _) (x1 := a1) (x2 := a2) (x3 := a3) (x4 := a4) (th := 0) (mr := nI nr) (mtr := mtr) (A := nA hd) (B := nA ln) (C := nA gs) (D := nA gh) (E := gi) (h := a3) hn
    rw [e]
    rw [if_pos rfl]
    rfl
  have good : ∀ h s q, a1 = nI h → a2 = nI s → a3 = nI q → 9 ≤ h → h ≤ 14 → s < 2 ^ 31 → q < 2 ^ 31 →
    (∃ n, okR a1 a2 a3 h s q n ∧ ((nr = 20 ∧ jn_X6_rule_33 a1 a2 a3 a4 0 1 0 (nI nr) mtr (nA hd) (nA ln) (nA gs) (nA gh) gi = some (0, 2, nI nr, mtr, nA hd, nA ln, nA gs, nA gh, gi)) ∨ (nr < 20 ∧ jn_X6_rule_33 a1 a2 a3 a4 0 1 0 (nI nr) mtr (nA hd) (nA ln) (nA gs) (nA gh) gi = some (nI nr, 0, nI (nr + 1), 0, nA (updN hd nr h), nA (updN ln nr n), nA (rowF gs (nr * 5) n (symF s n)), nA (rowF gh (nr * 5) n (hinF q n)), upd gi nr (vp_nar .boolean a4))))) ∨
    ((∀ n, ¬ okR a1 a2 a3 h s q n) ∧ jn_X6_rule_33 a1 a2 a3 a4 0 1 0 (nI nr) mtr (nA hd) (nA ln) (nA gs) (nA gh) gi = some (0, 1, nI nr, mtr, nA hd, nA ln, nA gs, nA gh, gi)) := by
    intro h s q e1 e2 e3 h9 h14 hs hq
    unfold jn_X6_rule_33
    simp only [nm]
    rw [e1, e2, e3]
    obtain ⟨n, g, i1, i2, i3, i4⟩ := e_m38 (K := _) (x1 := nI h) (x2 := nI s) (x3 := nI q) (x4 := a4) (th := 0) (mr := nI nr) (mtr := mtr) (A := nA hd) (B := nA ln) (C := nA gs) (D := nA gh) (E := gi) hs (Or.inr (rfl : (1 : Int32) = 1))
    rw [i4]
    rcases i3 with ⟨j1, _, j2⟩ | ⟨j1, j2⟩
    · rw [j1]
      obtain ⟨g', k1, k2⟩ := e_m93 (K := _) (x1 := nI h) (x2 := nI s) (x3 := nI q) (x4 := a4) (th := 0) (mr := nI nr) (mtr := mtr) (A := nA hd) (B := nA ln) (C := nA gs) (D := nA gh) (E := gi) hq i2
      rw [k2]
      rcases k1 with ⟨l1, l2⟩ | ⟨l1, l2⟩
      · rw [l1, if_neg (by decide)]
        by_cases n5 : 5 < n
        · right
          rw [if_pos (show (5 : Int32) < nI n from (nI_ltI (a := 5) (by omega) (by omega)).mpr n5)]
          refine ⟨fun n' c => ?_, rfl⟩
          have := isN_unique i1 c.2.2.2.2.2.2.2.1
          have := c.2.2.2.2.2.2.2.2.1
          omega
        · rw [if_neg (show ¬ (5 : Int32) < nI n from fun c => n5 ((nI_ltI (a := 5) (by omega) (by omega)).mp c))]
          by_cases z : q / 4 ^ (n - 1) = 0
          · left
            rw [if_pos (show nI (q / 4 ^ (n - 1)) = 0 by rw [z]; rfl)]
            refine ⟨n, ⟨rfl, rfl, rfl, h9, h14, hs, hq, i1, by omega, j2, l2, z⟩, ?_⟩
            by_cases r20 : nr = 20
            · left
              rw [if_pos (show nI nr = (20 : Int32) by rw [r20]; rfl)]
              exact ⟨r20, rfl⟩
            · right
              rw [if_neg (show ¬ nI nr = (20 : Int32) from fun c => r20 ((nI_eq (b := 20) (by omega) (by omega)).mp c))]
              exact ⟨by omega, e_m181 (by omega) (by omega) hs hq⟩
          · right
            rw [if_neg (show ¬ nI (q / 4 ^ (n - 1)) = 0 from nI_ne0 (Nat.pos_of_ne_zero z) (div_lt31 hq))]
            refine ⟨fun n' c => ?_, rfl⟩
            have e := isN_unique i1 c.2.2.2.2.2.2.2.1
            have := c.2.2.2.2.2.2.2.2.2.2.2
            rw [← e] at this
            exact z this
      · right
        rw [l1, if_pos rfl]
        refine ⟨fun n' c => ?_, rfl⟩
        have e := isN_unique i1 c.2.2.2.2.2.2.2.1
        have := c.2.2.2.2.2.2.2.2.2.2.1
        rw [← e] at this
        exact l2 this
    · right
      rw [j1]
      obtain ⟨h', e⟩ := e_m93b (K := _) (x1 := nI h) (x2 := nI s) (x3 := nI q) (x4 := a4) (th := 0) (mr := nI nr) (mtr := mtr) (A := nA hd) (B := nA ln) (C := nA gs) (D := nA gh) (E := gi) (h := nI q) i2
      rw [e]
      rw [if_pos rfl]
      refine ⟨fun n' c => ?_, rfl⟩
      have e := isN_unique i1 c.2.2.2.2.2.2.2.1
      have := c.2.2.2.2.2.2.2.2.2.1
      rw [← e] at this
      exact j2 ⟨rfl, this⟩
  have h31 : ∀ v, v < 2 ^ 31 → ¬ nI v < 0 := fun v hv => nI_pos hv
  unfold f_X6_rule jn_X6_rule_32
  simp only [nm]
  by_cases c1 : a1 < 9
  · right
    rw [if_pos c1]
    refine ⟨fun ⟨h, s, q, n, c⟩ => ?_, bad⟩
    rw [c.1] at c1
    have := c.2.2.2.1
    have := c.2.2.2.2.1
    have := (nI_ltI (b := 9) (by omega) (by omega)).mp c1
    omega
  · rw [if_neg c1]
    by_cases c2 : 14 < a1
    · right
      rw [if_pos c2]
      refine ⟨fun ⟨h, s, q, n, c⟩ => ?_, bad⟩
      rw [c.1] at c2
      have := c.2.2.2.1
      have := c.2.2.2.2.1
      have := (nI_ltI (a := 14) (by omega) (by omega)).mp c2
      omega
    · rw [if_neg c2]
      by_cases c3 : a2 < 0
      · right
        rw [if_pos c3]
        refine ⟨fun ⟨h, s, q, n, c⟩ => ?_, bad⟩
        rw [c.2.1] at c3
        exact h31 s c.2.2.2.2.2.1 c3
      · rw [if_neg c3]
        by_cases c4 : a3 < 0
        · right
          rw [if_pos c4]
          refine ⟨fun ⟨h, s, q, n, c⟩ => ?_, bad⟩
          rw [c.2.2.1] at c4
          exact h31 q c.2.2.2.2.2.2.1 c4
        · rw [if_neg c4]
          obtain ⟨s, hs, es⟩ := nI_of c3
          obtain ⟨q, hq, eq⟩ := nI_of c4
          obtain ⟨h, hh, eh⟩ := nI_of (x := a1) (fun c => c1 (Int32.lt_trans c (by decide)))
          have k9 : 9 ≤ h := by
            rcases Nat.lt_or_ge h 9 with d | d
            · rw [eh] at c1; exact absurd ((nI_ltI (b := 9) (by omega) (by omega)).mpr d) c1
            · exact d
          have k14 : h ≤ 14 := by
            rcases Nat.lt_or_ge 14 h with d | d
            · rw [eh] at c2; exact absurd ((nI_ltI (a := 14) (by omega) (by omega)).mpr d) c2
            · exact d
          rcases good h s q eh es eq k9 k14 hs hq with ⟨n, g1, g2⟩ | ⟨g1, g2⟩
          · exact Or.inl ⟨h, s, q, n, g1, g2⟩
          · right
            refine ⟨fun ⟨h', s', q', n', c⟩ => ?_, g2⟩
            have w1 : h' = h := (nI_eq (by have := c.2.2.2.2.1; omega) hh).mp (c.1.symm.trans eh)
            have w2 : s' = s := (nI_eq c.2.2.2.2.2.1 hs).mp (c.2.1.symm.trans es)
            have w3 : q' = q := (nI_eq c.2.2.2.2.2.2.1 hq).mp (c.2.2.1.symm.trans eq)
            rw [w1, w2, w3] at c
            exact g1 n' c
end MRULE
