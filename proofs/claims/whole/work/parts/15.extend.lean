/-! extend: a rule's price at a span, out of what stands -/
def pv (P : Nat → Nat) (s i j : Nat) : Nat := P (sp s i j)
def EXpre (gs ln P Bg : Nat → Nat) (a e r : Nat) : Prop :=
  Bg (bx r 0 e) = (if a = e then 0 else dINF) ∧ (∀ m, m ≤ ln r → cnv (rsy gs) (pv P) r a m e ≤ Bg (bx r m e)) ∧
  (∀ m, m < ln r → ∀ b, a < b → b < e → Bg (bx r (m + 1) e) ≤ cnv (rsy gs) (pv P) r a m b + pv P (rsy gs r m) b e) ∧
  ∀ m b, m ≤ ln r → a ≤ b → b < e → Bg (bx r m b) = cnv (rsy gs) (pv P) r a m b
theorem e_extend {gs ln P Bg0 : Nat → Nat} {nr a e r : Nat} {hd : Nat → Nat} (G : GW nr hd ln (rsy gs)) (hr : r < nr) (hae : a ≤ e) (he : e ≤ 16) (hP : ∀ x, P x ≤ dINF) (hB : ∀ x, Bg0 x ≤ dINF) (hE : EXpre gs ln P Bg0 a e r) :
    ∃ Bg : Nat → Nat, ((∀ x, Bg x ≤ dINF) ∧ (∀ x, x % 17 ≠ e ∨ x / 17 < r * 6 + 1 ∨ r * 6 + ln r < x / 17 → Bg x = Bg0 x) ∧ ∀ m, m ≤ ln r → Bg (bx r m e) = cnv (rsy gs) (pv P) r a m e) ∧
      f_X0_extend (nI r) (nI a) (nI e) (nA ln) (nA gs) (lA P) (lA Bg0) = some (lN (cnv (rsy gs) (pv P) r a (ln r) e), lA Bg) := by
  have g := G.2 r hr
  have hr20 : r < 20 := by have := G.1; omega
  have hI := dINF_v
  obtain ⟨p1, p2, p3, p4⟩ := hE
  have key := loopE (fun n (s : Nat × (Nat → Nat)) => lp_X0_extend_10 (nA ln) (nA gs) (lA P) (fun x3 x4 h_begun => (rd h_begun 2040 (x4 + x3)).bind fun v21 => some (v21, h_begun)) n (nI r) (nI a) (nI e) (nI ((r * 6 + s.1) * 17)) (nI s.1) (lA s.2))
    (fun R => ∃ Bg : Nat → Nat, ((∀ x, Bg x ≤ dINF) ∧ (∀ x, x % 17 ≠ e ∨ x / 17 < r * 6 + 1 ∨ r * 6 + ln r < x / 17 → Bg x = Bg0 x) ∧ ∀ m, m ≤ ln r → Bg (bx r m e) = cnv (rsy gs) (pv P) r a m e) ∧ R = some (lN (cnv (rsy gs) (pv P) r a (ln r) e), lA Bg))
    (fun s => s.1 ≤ ln r ∧ (∀ x, s.2 x ≤ dINF) ∧ (∀ x, x % 17 ≠ e ∨ x / 17 < r * 6 + 1 ∨ r * 6 + s.1 < x / 17 → s.2 x = Bg0 x) ∧ ∀ m, m ≤ s.1 → s.2 (bx r m e) = cnv (rsy gs) (pv P) r a m e)
    (fun s => ln r - s.1) ?_ FU (0, Bg0) (FU_gt (by dsimp only; omega)) ⟨Nat.zero_le _, hB, fun _ _ => rfl, fun m hm => by
      have e0 : m = 0 := by dsimp only at hm; omega
      subst e0
      show Bg0 _ = _
      rw [p1]
      rfl⟩
  · obtain ⟨Bg, h1, h2⟩ := key
    refine ⟨Bg, h1, ?_⟩
    unfold f_X0_extend
    simp only [nm]
    rw [show (0 : Int32) = nI 0 from rfl, e_begunRow, ob]
    exact h2
  · rintro n ⟨m, Bg⟩ ⟨h1, h2, h3, h4⟩
    dsimp only at h1 h2 h3 h4 ⊢
    by_cases h : ln r ≤ m
    · left
      have e1 : m = ln r := by omega
      subst e1
      refine ⟨Bg, ⟨h2, h3, h4⟩, ?_⟩
      simp only [lp_X0_extend_10]
      rw [rd_nA hr20 (by omega), ob, if_pos ((nI_leI (by omega) (by omega)).mpr h), nI_add, rd_lA (by omega) (by omega), ob]
      have := h4 (ln r) (Nat.le_refl _)
      unfold bx at this
      rw [this]
    · right
      have gs' := g.2.2.2 m (by omega)
      have q1 : Bg (bx r m a) = cnv (rsy gs) (pv P) r a m a := by
        by_cases hc : a = e
        · rw [hc]; rw [hc] at h4; exact h4 m (Nat.le_refl _)
        · rw [h3 _ (Or.inl (by unfold bx; omega))]
          exact p4 m a (by omega) (Nat.le_refl _) (by omega)
      have q2 : Bg (bx r (m + 1) e) = Bg0 (bx r (m + 1) e) := h3 _ (Or.inr (Or.inr (by unfold bx; omega)))
      have hv : min (Bg (bx r (m + 1) e)) (min (Bg (bx r m e) + P (sp (rsy gs r m) e e)) (Bg (bx r m a) + P (sp (rsy gs r m) a e))) = cnv (rsy gs) (pv P) r a (m + 1) e := by
        apply Nat.le_antisymm
        · refine le_cnv ?_ (fun b hb1 hb2 => ?_)
          · exact Nat.le_trans (Nat.min_le_left _ _) (h2 _)
          · by_cases hbe : b = e
            · subst hbe
              refine Nat.le_trans (Nat.min_le_right _ _) (Nat.le_trans (Nat.min_le_left _ _) ?_)
              rw [h4 m (Nat.le_refl _)]
              exact Nat.le_refl _
            · by_cases hba : b = a
              · subst hba
                refine Nat.le_trans (Nat.min_le_right _ _) (Nat.le_trans (Nat.min_le_right _ _) ?_)
                rw [q1]
                exact Nat.le_refl _
              · refine Nat.le_trans (Nat.min_le_left _ _) ?_
                rw [q2]
                exact p3 m (by omega) b (by omega) (by omega)
        · refine Nat.le_min.mpr ⟨?_, Nat.le_min.mpr ⟨?_, ?_⟩⟩
          · rw [q2]; exact p2 (m + 1) (by omega)
          · rw [h4 m (Nat.le_refl _)]
            exact cnv_le hae (Nat.le_refl _)
          · rw [q1]
            exact cnv_le (Nat.le_refl _) hae
      refine ⟨(m + 1, updN Bg (bx r (m + 1) e) (cnv (rsy gs) (pv P) r a (m + 1) e)), ⟨by dsimp only; omega, fun x => ?_, fun x hx => ?_, fun m' hm' => ?_⟩, by dsimp only; omega, ?_⟩
      · dsimp only
        unfold updN
        split
        · exact cnv_inf
        · exact h2 x
      · dsimp only at hx ⊢
        rw [updN_n (by unfold bx; omega)]
        exact h3 x (by omega)
      · dsimp only at hm' ⊢
        by_cases e1 : m' = m + 1
        · subst e1; exact updN_s
        · rw [updN_n (by unfold bx; omega)]
          exact h4 m' (by omega)
      · dsimp only
        simp only [lp_X0_extend_10, nm]
        have hs1 : 1 ≤ gs (r * 5 + m) := gs'.1
        have hs2 : gs (r * 5 + m) ≤ 14 := gs'.2
        rw [rd_nA hr20 (by omega), ob, if_neg (fun c => h ((nI_leI (by omega) (by omega)).mp c)), e_symbolOf (by omega), ob, nI_add, rd_lA (by omega) (by omega), ob, e_spot hs1, ob, rd_lA (sp_lt hs2 he he hs1) (by omega), ob, nI_add, rd_lA (by omega) (by omega), ob, e_spot hs1, ob, rd_lA (sp_lt hs2 (by omega) he hs1) (by omega), ob, of17, of1, nI_add, nI_add, nI_add]
        have e3 : (r * 6 + m) * 17 + 17 = (r * 6 + (m + 1)) * 17 := by omega
        have b1 := h2 ((r * 6 + m) * 17 + e)
        have b2 := hP (sp (gs (r * 5 + m)) e e)
        have b3 := h2 ((r * 6 + m) * 17 + a)
        have b4 := hP (sp (gs (r * 5 + m)) a e)
        have b5 := h2 ((r * 6 + (m + 1)) * 17 + e)
        rw [e3, rd_lA (by omega) (by omega), ob, lN_add, lN_add, lN_min (by omega) (by omega), lN_min (by omega) (by omega)]
        have hv' : min (Bg ((r * 6 + (m + 1)) * 17 + e)) (min (Bg ((r * 6 + m) * 17 + e) + P (sp (gs (r * 5 + m)) e e)) (Bg ((r * 6 + m) * 17 + a) + P (sp (gs (r * 5 + m)) a e))) = cnv (rsy gs) (pv P) r a (m + 1) e := hv
        rw [hv', wr_lA (by omega) (by omega), ob]
        rfl
