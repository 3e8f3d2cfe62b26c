/-! settle whole, forget, choose -/
section ROUNDS
variable {nr : Nat} {hd gs ln : Nat → Nat} {n : Nat} {lf D : Nat → Nat → Nat → Nat} {P0 Bg0 : Nat → Nat} {a e : Nat}
theorem e_settle (G : GW nr hd ln (rsy gs)) (F : Fix nr hd ln (rsy gs) n lf D) (hae : a ≤ e) (hen : e ≤ n) (hn : n ≤ 16) (ho : offS D (pv P0) a e) (hS : SI nr gs ln D P0 Bg0 a e P0 Bg0) :
    ∃ P Bg : Nat → Nat, (SI nr gs ln D P0 Bg0 a e P Bg ∧ (∀ k, 9 ≤ k → k ≤ 14 → P (sp k a e) = D k a e) ∧ ∀ r, r < nr → ∀ m, m ≤ ln r → Bg (bx r m e) = cnv (rsy gs) D r a m e) ∧
      f_X0_settle (nI a) (nI e) (nI nr) (nA hd) (nA ln) (nA gs) (lA P0) (lA Bg0) = some (lA P, lA Bg) := by
  have hnr := G.1
  have key := loopE (fun N (s : Nat × Nat × (Nat → Nat) × (Nat → Nat)) => lp_X0_settle_5 (nI nr) (nA hd) (nA ln) (nA gs) (fun h_prices h_begun => jn_X0_settle_98 (nI nr) (nA hd) (nA ln) (nA gs) h_prices h_begun) N (nI a) (nI e) (nI s.2.1) (nI s.1) (lA s.2.2.1) (lA s.2.2.2))
    (fun R => ∃ P Bg : Nat → Nat, (SI nr gs ln D P0 Bg0 a e P Bg ∧ (∀ k, 9 ≤ k → k ≤ 14 → P (sp k a e) = D k a e) ∧ ∀ r, r < nr → ∀ m, m ≤ ln r → Bg (bx r m e) = cnv (rsy gs) D r a m e) ∧ R = some (lA P, lA Bg))
    (fun s => s.1 ≤ 7 ∧ s.2.1 ≤ 1 ∧ SI nr gs ln D P0 Bg0 a e s.2.2.1 s.2.2.2 ∧ (∀ k, 9 ≤ k → k ≤ 14 → rnk D a e k < s.1 → s.2.2.1 (sp k a e) = D k a e) ∧ (s.1 = 7 → s.2.1 = 0) ∧ (s.2.1 = 0 → (∀ k, 9 ≤ k → k ≤ 14 → s.2.2.1 (sp k a e) = D k a e) ∧ ∀ r, r < nr → ∀ m, m ≤ ln r → s.2.2.2 (bx r m e) = cnv (rsy gs) (pv s.2.2.1) r a m e))
    (fun s => 7 - s.1) ?_ FU (0, 1, P0, Bg0) (FU_gt (by dsimp only; omega)) ⟨by dsimp only; omega, Nat.le_refl _, hS, fun k _ _ h => by dsimp only at h; omega, fun h => by dsimp only at h; omega, fun h => absurd (show (1 : Nat) = 0 from h) (by decide)⟩
  · obtain ⟨P, Bg, h1, h2⟩ := key
    refine ⟨P, Bg, h1, ?_⟩
    unfold f_X0_settle
    simp only [nm]
    exact h2
  · rintro N ⟨t, b, P, Bg⟩ ⟨h1, h2, h3, h4, h5, h6⟩
    dsimp only at h1 h2 h3 h4 h5 h6 ⊢
    by_cases hb : b = 0
    · left
      obtain ⟨q1, q2⟩ := h6 hb
      refine ⟨P, Bg, ⟨h3, q1, fun r hr m hm => ?_⟩, ?_⟩
      · rw [q2 r hr m hm]
        have g := (G.2 r hr).2.2.2
        refine cnv_congr (fun m' hm' i j hi hij hj => ?_)
        have gm := g m' (by omega)
        by_cases hc : rsy gs r m' ≤ 8 ∨ ¬ (i = a ∧ j = e)
        · exact h3.off (by omega) ho _ i j gm.1 gm.2 hi hij hj hc
        · have e1 : i = a := by omega
          have e2 : j = e := by omega
          subst e1; subst e2
          exact q1 _ (by omega) gm.2
      · subst hb
        simp only [lp_X0_settle_5]
        by_cases ht : 6 < t
        · rw [if_pos (show (6 : Int32) < nI t from (nI_ltI (a := 6) (by omega) (by omega)).mpr ht)]; rfl
        · rw [if_neg (show ¬ (6 : Int32) < nI t from fun c => ht ((nI_ltI (a := 6) (b := t) (by omega) (by omega)).mp c)), if_pos (show nI 0 = (0 : Int32) from rfl)]; rfl
    · right
      have ht : t ≤ 6 := by
        rcases Nat.lt_or_ge t 7 with h | h
        · omega
        · exact absurd (h5 (by omega)) hb
      obtain ⟨b', P', Bg', ⟨c1, c2, c3, c4, c5, c6⟩, c7⟩ := l_settle_21 G F hae hen hn ho P (nI t) (fun x1 x2 x3 x4 h_prices h_begun => lp_X0_settle_5 (nI nr) (nA hd) (nA ln) (nA gs) (fun h_prices h_begun => jn_X0_settle_98 (nI nr) (nA hd) (nA ln) (nA gs) h_prices h_begun) N x1 x2 x3 (x4 + Int32.ofInt 1) h_prices h_begun) FU (0, 0, P, Bg) (FU_gt (by dsimp only; omega))
        ⟨Nat.zero_le _, Nat.zero_le _, h3, fun _ _ _ => Nat.le_refl _, fun r hr => by dsimp only at hr; omega, fun _ => ⟨rfl, fun r hr => by dsimp only at hr; omega⟩, fun h => absurd rfl h, h3.2.2.1⟩
      have hoP := h3.off (by omega) ho
      have hrank : ∀ k, 9 ≤ k → k ≤ 14 → rnk D a e k < t + 1 → P' (sp k a e) = D k a e := by
        intro k k9 k14 hk
        have d1 := c2.2.2.2.1 k k9 k14
        have d2 := c2.1 (sp k a e)
        by_cases hf : D k a e < dINF
        · obtain ⟨r, hr, hk2, hle⟩ := rank_step G F hae hen hoP (t := t) (fun k k9 k14 hk => h4 k k9 k14 hk) k9 k14 hk hf
          have := c4 r hr
          rw [hk2] at this
          omega
        · omega
      refine ⟨(t + 1, b', P', Bg'), ⟨by dsimp only; omega, c1, c2, hrank, fun h7 => ?_, fun hb0 => ?_⟩, by dsimp only; omega, ?_⟩
      · dsimp only at h7 ⊢
        rcases Nat.eq_zero_or_pos b' with h | h
        · exact h
        · obtain ⟨k, k9, k14, hlt⟩ := c6 (by omega)
          have d1 := c2.2.2.2.1 k k9 k14
          have d2 := h4 k k9 k14 (by have := rnk_6 (D := D) (a := a) (e := e) k9 k14; omega)
          omega
      · dsimp only at hb0 ⊢
        obtain ⟨q1, q2⟩ := c5 hb0
        refine ⟨rank_stable (p := pv P') G F hae hen (c2.off (by omega) ho) (fun k k9 k14 => ⟨c2.2.2.2.1 k k9 k14, c2.1 _⟩) (fun r hr => ?_), fun r hr m hm => ?_⟩
        · have := c4 r hr
          rw [← q1] at this
          exact this
        · rw [q2 r hr m hm, q1]
      · dsimp only
        simp only [lp_X0_settle_5, nm]
        rw [if_neg (show ¬ (6 : Int32) < nI t from fun c => (show ¬ 6 < t by omega) ((nI_ltI (a := 6) (b := t) (by omega) (by omega)).mp c)), if_neg (show ¬ nI b = (0 : Int32) from fun c => hb ((nI_eq (a := b) (b := 0) (by omega) (by omega)).mp c))]
        refine Eq.trans c7 ?_
        rw [of1, nI_add]
theorem e_forget {P0 : Nat → Nat} {Ch0 : Nat → Int32} (ha : a ≤ 16) (he : e ≤ 16) (hP : ∀ x, P0 x ≤ dINF) :
    ∃ (P : Nat → Nat) (Ch : Nat → Int32), ((∀ x, P x ≤ dINF) ∧ (∀ x, (∀ k, 9 ≤ k → k ≤ 14 → x ≠ sp k a e) → P x = P0 x) ∧ (∀ k, 9 ≤ k → k ≤ 14 → P (sp k a e) = dINF) ∧ (∀ x, (∀ k, 9 ≤ k → k ≤ 14 → x ≠ csp k a e) → Ch x = Ch0 x) ∧ ∀ k, 9 ≤ k → k ≤ 14 → Ch (csp k a e) = -1) ∧
      f_X0_forget (nI a) (nI e) (lA P0) Ch0 = some (lA P, Ch) := by
  have key := loopE (fun N (s : Nat × (Nat → Nat) × (Nat → Int32)) => lp_X0_forget_3 (fun h_prices h_choices => some (h_prices, h_choices)) N (nI a) (nI e) (nI s.1) (lA s.2.1) s.2.2)
    (fun R => ∃ (P : Nat → Nat) (Ch : Nat → Int32), ((∀ x, P x ≤ dINF) ∧ (∀ x, (∀ k, 9 ≤ k → k ≤ 14 → x ≠ sp k a e) → P x = P0 x) ∧ (∀ k, 9 ≤ k → k ≤ 14 → P (sp k a e) = dINF) ∧ (∀ x, (∀ k, 9 ≤ k → k ≤ 14 → x ≠ csp k a e) → Ch x = Ch0 x) ∧ ∀ k, 9 ≤ k → k ≤ 14 → Ch (csp k a e) = -1) ∧ R = some (lA P, Ch))
    (fun s => 9 ≤ s.1 ∧ s.1 ≤ 15 ∧ (∀ x, s.2.1 x ≤ dINF) ∧ (∀ x, (∀ k, 9 ≤ k → k ≤ 14 → x ≠ sp k a e) → s.2.1 x = P0 x) ∧ (∀ k, 9 ≤ k → k < s.1 → s.2.1 (sp k a e) = dINF) ∧ (∀ x, (∀ k, 9 ≤ k → k ≤ 14 → x ≠ csp k a e) → s.2.2 x = Ch0 x) ∧ ∀ k, 9 ≤ k → k < s.1 → s.2.2 (csp k a e) = -1)
    (fun s => 15 - s.1) ?_ FU (9, P0, Ch0) (FU_gt (by dsimp only; omega)) ⟨Nat.le_refl _, by dsimp only; omega, hP, fun _ _ => rfl, fun k _ _ => by dsimp only at *; omega, fun _ _ => rfl, fun k _ _ => by dsimp only at *; omega⟩
  · obtain ⟨P, Ch, h1, h2⟩ := key
    refine ⟨P, Ch, h1, ?_⟩
    unfold f_X0_forget
    simp only [nm]
    exact h2
  · rintro N ⟨t, P, Ch⟩ ⟨h1, h2, h3, h4, h5, h6, h7⟩
    dsimp only at h1 h2 h3 h4 h5 h6 h7 ⊢
    by_cases h : 14 < t
    · left
      refine ⟨P, Ch, ⟨h3, h4, fun k k9 k14 => h5 k k9 (by omega), h6, fun k k9 k14 => h7 k k9 (by omega)⟩, ?_⟩
      simp only [lp_X0_forget_3]
      rw [if_pos (show (14 : Int32) < nI t from (nI_ltI (a := 14) (b := t) (by omega) (by omega)).mpr h)]
    · right
      refine ⟨(t + 1, updN P (sp t a e) dINF, upd Ch (csp t a e) (-1)), ⟨by dsimp only; omega, by dsimp only; omega, fun x => ?_, fun x hx => ?_, fun k k9 hk => ?_, fun x hx => ?_, fun k k9 hk => ?_⟩, by dsimp only; omega, ?_⟩
      · dsimp only
        unfold updN
        split
        · exact Nat.le_refl _
        · exact h3 x
      · dsimp only
        rw [updN_n (hx t h1 (by omega))]
        exact h4 x hx
      · dsimp only at hk ⊢
        by_cases e1 : k = t
        · subst e1; exact updN_s
        · rw [updN_n (fun c => e1 (sp_inj (by omega) (by omega) ha ha he he c).1)]
          exact h5 k k9 (by omega)
      · dsimp only
        rw [pk_un (hx t h1 (by omega))]
        exact h6 x hx
      · dsimp only at hk ⊢
        by_cases e1 : k = t
        · subst e1; exact pk_us
        · rw [pk_un (fun c => e1 (csp_inj (by omega) (by omega) ha ha he he c).1)]
          exact h7 k k9 (by omega)
      · dsimp only
        simp only [lp_X0_forget_3, nm]
        rw [if_neg (show ¬ (14 : Int32) < nI t from fun c => h ((nI_ltI (a := 14) (b := t) (by omega) (by omega)).mp c)), e_spot (by omega), ob, dINF_l, wr_lA (sp_lt (by omega) ha he (by omega)) (by omega), ob, e_choiceSpot h1, ob, wrI_nI (csp_lt (by omega) ha he h1) (by omega), ob, of1, nI_add]
        rfl
end ROUNDS
