/-! settle: the rounds of a span -/
theorem EXpre_P {gs ln P P' Bg : Nat → Nat} {nr a e r : Nat} {hd : Nat → Nat} (G : GW nr hd ln (rsy gs)) (hr : r < nr) (h1 : ∀ s i j, 1 ≤ s → s ≤ 14 → a ≤ i → i ≤ j → j ≤ e → ¬ (i = a ∧ j = e) → pv P' s i j = pv P s i j) (h2 : ∀ s i j, 1 ≤ s → s ≤ 14 → a ≤ i → i ≤ j → j ≤ e → pv P' s i j ≤ pv P s i j) (h : EXpre gs ln P Bg a e r) : EXpre gs ln P' Bg a e r := by
  have g := (G.2 r hr).2.2.2
  obtain ⟨p1, p2, p3, p4⟩ := h
  have hc : ∀ m b, m ≤ ln r → b < e → cnv (rsy gs) (pv P') r a m b = cnv (rsy gs) (pv P) r a m b := fun m b hm hb => cnv_congr (fun m' hm' i j hi hij hj => h1 _ i j (g m' (by omega)).1 (g m' (by omega)).2 hi hij (by omega) (by omega))
  refine ⟨p1, fun m hm => Nat.le_trans (cnv_mono (fun m' hm' i j hi hij hj => h2 _ i j (g m' (by omega)).1 (g m' (by omega)).2 hi hij hj)) (p2 m hm), fun m hm b hb1 hb2 => ?_, fun m b hm hb1 hb2 => ?_⟩
  · rw [hc m b (by omega) hb2, h1 _ b e (g m hm).1 (g m hm).2 (by omega) (by omega) (Nat.le_refl _) (by omega)]
    exact p3 m hm b hb1 hb2
  · rw [hc m b hm hb2]
    exact p4 m b hm hb1 hb2
theorem EXpre_Bg {gs ln P Bg Bg' : Nat → Nat} {a e r r1 : Nat} (hne : r ≠ r1) (hl : ln r ≤ 5) (hl1 : ln r1 ≤ 5) (he : e ≤ 16) (hu : ∀ x, x % 17 ≠ e ∨ x / 17 < r1 * 6 + 1 ∨ r1 * 6 + ln r1 < x / 17 → Bg' x = Bg x) (h : EXpre gs ln P Bg a e r) : EXpre gs ln P Bg' a e r := by
  have hx : ∀ m b, m ≤ ln r → b ≤ 16 → Bg' (bx r m b) = Bg (bx r m b) := fun m b hm hb => hu _ (by unfold bx; omega)
  obtain ⟨p1, p2, p3, p4⟩ := h
  refine ⟨by rw [hx 0 e (by omega) he]; exact p1, fun m hm => by rw [hx m e hm he]; exact p2 m hm, fun m hm b hb1 hb2 => by rw [hx (m + 1) e (by omega) he]; exact p3 m hm b hb1 hb2, fun m b hm hb1 hb2 => by rw [hx m b hm (by omega)]; exact p4 m b hm hb1 hb2⟩
/-- what holds at every step of settle at the span (a, e) -/
def SI (nr : Nat) (gs ln : Nat → Nat) (D : Nat → Nat → Nat → Nat) (P0 Bg0 : Nat → Nat) (a e : Nat) (P Bg : Nat → Nat) : Prop :=
  (∀ x, P x ≤ dINF) ∧ (∀ x, Bg x ≤ dINF) ∧ (∀ x, (∀ k, 9 ≤ k → k ≤ 14 → x ≠ sp k a e) → P x = P0 x) ∧ (∀ k, 9 ≤ k → k ≤ 14 → D k a e ≤ P (sp k a e)) ∧ (∀ x, x % 17 ≠ e → Bg x = Bg0 x) ∧ ∀ r, r < nr → EXpre gs ln P Bg a e r
section SETTLE
variable {nr : Nat} {hd gs ln : Nat → Nat} {n : Nat} {lf D : Nat → Nat → Nat → Nat} {P0 Bg0 : Nat → Nat} {a e : Nat}
theorem SI.off {P Bg : Nat → Nat} (h : SI nr gs ln D P0 Bg0 a e P Bg) (he : e ≤ 16) (ho : offS D (pv P0) a e) : offS D (pv P) a e := by
  intro s i j h1 h14 hi hij hj hc
  rw [← ho s i j h1 h14 hi hij hj hc]
  refine h.2.2.1 _ (fun k h9 hk14 hx => ?_)
  have := sp_inj h1 (by omega) (by omega) (by omega) (by omega) he hx
  omega
theorem SI.ge {P Bg : Nat → Nat} (h : SI nr gs ln D P0 Bg0 a e P Bg) (he : e ≤ 16) (ho : offS D (pv P0) a e) {s i j : Nat} (h1 : 1 ≤ s) (h14 : s ≤ 14) (hi : a ≤ i) (hij : i ≤ j) (hj : j ≤ e) : D s i j ≤ pv P s i j := by
  by_cases hc : s ≤ 8 ∨ ¬ (i = a ∧ j = e)
  · exact Nat.le_of_eq (h.off he ho s i j h1 h14 hi hij hj hc).symm
  · have e1 : i = a := by omega
    have e2 : j = e := by omega
    subst e1; subst e2
    exact h.2.2.2.1 s (by omega) h14
/-- one round over the rules from r on -/
theorem l_settle_21 (G : GW nr hd ln (rsy gs)) (F : Fix nr hd ln (rsy gs) n lf D) (hae : a ≤ e) (hen : e ≤ n) (hn : n ≤ 16) (ho : offS D (pv P0) a e) (Pin : Nat → Nat) (rd0 : Int32)
    (k : Int32 → Int32 → Int32 → Int32 → (Nat → Int64) → (Nat → Int64) → Option ((Nat → Int64) × (Nat → Int64))) :
    ∀ N (s : Nat × Nat × (Nat → Nat) × (Nat → Nat)), nr - s.1 < N →
      (s.1 ≤ nr ∧ s.2.1 ≤ 1 ∧ SI nr gs ln D P0 Bg0 a e s.2.2.1 s.2.2.2 ∧ (∀ k, 9 ≤ k → k ≤ 14 → s.2.2.1 (sp k a e) ≤ Pin (sp k a e)) ∧ (∀ r, r < s.1 → s.2.2.1 (sp (hd r) a e) ≤ cnv (rsy gs) (pv Pin) r a (ln r) e + 1) ∧ (s.2.1 = 0 → s.2.2.1 = Pin ∧ ∀ r, r < s.1 → ∀ m, m ≤ ln r → s.2.2.2 (bx r m e) = cnv (rsy gs) (pv Pin) r a m e) ∧ (s.2.1 ≠ 0 → ∃ k, 9 ≤ k ∧ k ≤ 14 ∧ s.2.2.1 (sp k a e) < Pin (sp k a e)) ∧ (∀ x, (∀ k, 9 ≤ k → k ≤ 14 → x ≠ sp k a e) → Pin x = P0 x)) →
      ∃ (b : Nat) (P Bg : Nat → Nat), (b ≤ 1 ∧ SI nr gs ln D P0 Bg0 a e P Bg ∧ (∀ k, 9 ≤ k → k ≤ 14 → P (sp k a e) ≤ Pin (sp k a e)) ∧ (∀ r, r < nr → P (sp (hd r) a e) ≤ cnv (rsy gs) (pv Pin) r a (ln r) e + 1) ∧ (b = 0 → P = Pin ∧ ∀ r, r < nr → ∀ m, m ≤ ln r → Bg (bx r m e) = cnv (rsy gs) (pv Pin) r a m e) ∧ (b ≠ 0 → ∃ k, 9 ≤ k ∧ k ≤ 14 ∧ P (sp k a e) < Pin (sp k a e))) ∧
        lp_X0_settle_21 (nI nr) (nA hd) (nA ln) (nA gs) k N (nI a) (nI e) (nI s.2.1) rd0 (nI s.1) (lA s.2.2.1) (lA s.2.2.2) = k (nI a) (nI e) (nI b) rd0 (lA P) (lA Bg) := by
  have hnr := G.1
  have hI := dINF_v
  refine loopE (fun N (s : Nat × Nat × (Nat → Nat) × (Nat → Nat)) => lp_X0_settle_21 (nI nr) (nA hd) (nA ln) (nA gs) k N (nI a) (nI e) (nI s.2.1) rd0 (nI s.1) (lA s.2.2.1) (lA s.2.2.2)) (fun R => ∃ (b : Nat) (P Bg : Nat → Nat), (b ≤ 1 ∧ SI nr gs ln D P0 Bg0 a e P Bg ∧ (∀ k, 9 ≤ k → k ≤ 14 → P (sp k a e) ≤ Pin (sp k a e)) ∧ (∀ r, r < nr → P (sp (hd r) a e) ≤ cnv (rsy gs) (pv Pin) r a (ln r) e + 1) ∧ (b = 0 → P = Pin ∧ ∀ r, r < nr → ∀ m, m ≤ ln r → Bg (bx r m e) = cnv (rsy gs) (pv Pin) r a m e) ∧ (b ≠ 0 → ∃ k, 9 ≤ k ∧ k ≤ 14 ∧ P (sp k a e) < Pin (sp k a e))) ∧ R = k (nI a) (nI e) (nI b) rd0 (lA P) (lA Bg)) _ (fun s => nr - s.1) ?_
  rintro N ⟨r, b, P, Bg⟩ ⟨h1, h2, h3, h4, h5, h6, h7, h8⟩
  dsimp only at h1 h2 h3 h4 h5 h6 h7 ⊢
  by_cases h : nr ≤ r
  · left
    have e1 : r = nr := by omega
    subst e1
    refine ⟨b, P, Bg, ⟨h2, h3, h4, h5, h6, h7⟩, ?_⟩
    simp only [lp_X0_settle_21]
    rw [if_pos ((nI_leI (by omega) (by omega)).mpr h)]
  · right
    have hr : r < nr := by omega
    have g := G.2 r hr
    have hle : ∀ s i j, 1 ≤ s → s ≤ 14 → a ≤ i → i ≤ j → j ≤ e → pv P s i j ≤ pv Pin s i j := by
      intro s i j q1 q14 qi qij qj
      by_cases hx : ∃ k, 9 ≤ k ∧ k ≤ 14 ∧ sp s i j = sp k a e
      · obtain ⟨k, k9, k14, hx⟩ := hx
        show P _ ≤ Pin _
        rw [hx]
        exact h4 k k9 k14
      · refine Nat.le_of_eq ?_
        show P _ = Pin _
        rw [h3.2.2.1 _ (fun k k9 k14 c => hx ⟨k, k9, k14, c⟩), h8 _ (fun k k9 k14 c => hx ⟨k, k9, k14, c⟩)]
    have hcm : cnv (rsy gs) (pv P) r a (ln r) e ≤ cnv (rsy gs) (pv Pin) r a (ln r) e := cnv_mono (fun m' hm' i j hi hij hj => hle _ i j (g.2.2.2 m' hm').1 (g.2.2.2 m' hm').2 hi hij hj)
    obtain ⟨Bg', ⟨c1, c2, c3⟩, c4⟩ := e_extend G hr hae (by omega) h3.1 h3.2.1 (h3.2.2.2.2.2 r hr)
    have hcv := cnv_inf (sy := rsy gs) (p := pv P) (r := r) (a := a) (m := ln r) (e := e)
    have hEX : ∀ r', r' < nr → EXpre gs ln P Bg' a e r' := by
      intro r' hr'
      by_cases hne : r' = r
      · subst hne
        have hp := h3.2.2.2.2.2 r' hr'
        refine ⟨?_, fun m hm => Nat.le_of_eq (c3 m hm).symm, fun m hm b hb1 hb2 => ?_, fun m b hm hb1 hb2 => ?_⟩
        · rw [c2 _ (Or.inr (Or.inl (by unfold bx; omega)))]; exact hp.1
        · rw [c3 (m + 1) (by omega)]
          exact cnv_le (by omega) (by omega)
        · rw [c2 _ (Or.inl (by unfold bx; omega))]
          exact hp.2.2.2 m b hm hb1 hb2
      · exact EXpre_Bg hne (G.2 r' hr').2.2.1 g.2.2.1 (by omega) c2 (h3.2.2.2.2.2 r' hr')
    have hBo : ∀ x, x % 17 ≠ e → Bg' x = Bg0 x := fun x hx => by rw [c2 x (Or.inl hx)]; exact h3.2.2.2.2.1 x hx
    have hat : sp (hd r) a e < 4046 := sp_lt g.2.1 (by omega) (by omega) (by omega)
    have hp1 := h3.1 (sp (hd r) a e)
    by_cases hc : P (sp (hd r) a e) ≤ cnv (rsy gs) (pv P) r a (ln r) e + 1
    · refine ⟨(r + 1, b, P, Bg'), ⟨by dsimp only; omega, h2, ⟨h3.1, c1, h3.2.2.1, h3.2.2.2.1, hBo, hEX⟩, h4, fun r' hr' => ?_, fun hb => ⟨(h6 hb).1, fun r' hr' m hm => ?_⟩, h7, h8⟩, by dsimp only; omega, ?_⟩
      · dsimp only at hr' ⊢
        by_cases hne : r' = r
        · subst hne; omega
        · exact h5 r' (by omega)
      · dsimp only at hr' ⊢
        by_cases hne : r' = r
        · subst hne
          rw [c3 m hm, (h6 hb).1]
        · have g' := (G.2 r' (by omega)).2.2.1
          rw [c2 _ (by unfold bx; omega)]
          exact (h6 hb).2 r' (by omega) m hm
      · dsimp only
        simp only [lp_X0_settle_21, nm, jn_X0_settle_86]
        rw [if_neg (fun c => h ((nI_leI (by omega) (by omega)).mp c)), rd_nA (by omega) (by omega), ob, e_spot (by omega), ob, c4, ob]
        dsimp only
        rw [rd_lA hat (by omega), ob, lN_1, if_pos ((lgc_ge (by omega) (by omega)).mpr hc), of1, nI_add]
    · refine ⟨(r + 1, 1, updN P (sp (hd r) a e) (cnv (rsy gs) (pv P) r a (ln r) e + 1), Bg'), ⟨by dsimp only; omega, Nat.le_refl _, ⟨fun x => ?_, c1, fun x hx => ?_, fun k k9 k14 => ?_, hBo, fun r' hr' => ?_⟩, fun k k9 k14 => ?_, fun r' hr' => ?_, fun hb => absurd (show (1 : Nat) = 0 from hb) (by decide), fun _ => ⟨hd r, g.1, g.2.1, ?_⟩, h8⟩, by dsimp only; omega, ?_⟩
      · dsimp only
        unfold updN
        split
        · omega
        · exact h3.1 x
      · dsimp only
        rw [updN_n (hx (hd r) g.1 g.2.1)]
        exact h3.2.2.1 x hx
      · dsimp only
        by_cases hk : k = hd r
        · subst hk
          rw [updN_s]
          have f2 := F.2.2.1 r a e hr hae hen
          have f3 : cnv (rsy gs) D r a (ln r) e ≤ cnv (rsy gs) (pv P) r a (ln r) e := cnv_mono (fun m' hm' i j hi hij hj => h3.ge (by omega) ho (g.2.2.2 m' hm').1 (g.2.2.2 m' hm').2 hi hij hj)
          omega
        · rw [updN_n (fun c => hk (sp_inj (by omega) (by omega) (by omega) (by omega) (by omega) (by omega) c).1)]
          exact h3.2.2.2.1 k k9 k14
      · refine EXpre_P G hr' (fun s i j q1 q14 qi qij qj qc => ?_) (fun s i j q1 q14 qi qij qj => ?_) (hEX r' hr')
        · refine updN_n (fun c => ?_)
          have := sp_inj q1 (by omega) (by omega) (by omega) (by omega) (by omega) c
          omega
        · show updN P _ _ _ ≤ P _
          unfold updN
          split
          · next hx => rw [hx]; omega
          · exact Nat.le_refl _
      · dsimp only
        unfold updN
        split
        · next hx =>
          rw [hx]
          have := h4 (hd r) g.1 g.2.1
          omega
        · exact h4 k k9 k14
      · dsimp only at hr' ⊢
        unfold updN
        split
        · next hx =>
          by_cases hne : r' = r
          · subst hne; omega
          · have h9 := h5 r' (by omega)
            rw [hx] at h9
            omega
        · next hx =>
          by_cases hne : r' = r
          · subst hne; exact absurd rfl hx
          · exact h5 r' (by omega)
      · dsimp only
        rw [updN_s]
        have := h4 (hd r) g.1 g.2.1
        omega
      · dsimp only
        simp only [lp_X0_settle_21, nm, jn_X0_settle_86]
        rw [if_neg (fun c => h ((nI_leI (by omega) (by omega)).mp c)), rd_nA (by omega) (by omega), ob, e_spot (by omega), ob, c4, ob]
        dsimp only
        rw [rd_lA hat (by omega), ob, lN_1, if_neg (fun c => hc ((lgc_ge (by omega) (by omega)).mp c)), wr_lA hat (by omega), ob, of1, nI_add]
        rfl
end SETTLE
