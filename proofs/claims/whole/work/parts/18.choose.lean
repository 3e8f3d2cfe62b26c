/-! choose; the signs' prices -/
def dn (c : Nat) : Int32 := nI c - 1
theorem dn_s (c : Nat) : dn (c + 1) = nI c := nI_pred c
theorem dn_0 : dn 0 < 0 := by decide +kernel
theorem dn_next (c : Nat) : nI c + Int32.ofInt (-1) = dn c := by unfold dn; rw [Int32.sub_eq_add_neg]; rfl
theorem nb20 : ∀ r, r < 20 → vp_nar .byte (nI r).toInt8.toInt32 = nI r := by decide +kernel
/-- a rule gives the least price of its head at the span -/
def good (hd ln : Nat → Nat) (sy : Nat → Nat → Nat) (D : Nat → Nat → Nat → Nat) (a e r : Nat) : Prop := cnv sy D r a (ln r) e + 1 < dINF ∧ cnv sy D r a (ln r) e + 1 = D (hd r) a e
/-- v is the least rule from c on that gives the least price of the kind k, -1 if there is none -/
def isCh (nr : Nat) (hd ln : Nat → Nat) (sy : Nat → Nat → Nat) (D : Nat → Nat → Nat → Nat) (c k a e : Nat) (v : Int32) : Prop :=
  (v = -1 ∧ ∀ r, c ≤ r → r < nr → hd r = k → ¬ good hd ln sy D a e r) ∨ ∃ r, c ≤ r ∧ r < nr ∧ hd r = k ∧ good hd ln sy D a e r ∧ v = nI r ∧ ∀ r', c ≤ r' → r' < r → hd r' = k → ¬ good hd ln sy D a e r'
section CHOOSE
variable {nr : Nat} {hd gs ln : Nat → Nat} {n : Nat} {lf D : Nat → Nat → Nat → Nat} {a e : Nat}
theorem e_choose {P Bg : Nat → Nat} {Ch0 : Nat → Int32} (G : GW nr hd ln (rsy gs)) (ha : a ≤ 16) (he : e ≤ 16) (hP : ∀ x, P x ≤ dINF) (hD : ∀ k, 9 ≤ k → k ≤ 14 → P (sp k a e) = D k a e) (hB : ∀ r, r < nr → Bg (bx r (ln r) e) = cnv (rsy gs) D r a (ln r) e) (h0 : ∀ k, 9 ≤ k → k ≤ 14 → Ch0 (csp k a e) = -1) :
    ∃ Ch : Nat → Int32, ((∀ x, (∀ k, 9 ≤ k → k ≤ 14 → x ≠ csp k a e) → Ch x = Ch0 x) ∧ ∀ k, 9 ≤ k → k ≤ 14 → isCh nr hd ln (rsy gs) D 0 k a e (Ch (csp k a e))) ∧
      f_X0_choose (nI a) (nI e) (nI nr) (nA hd) (nA ln) (lA P) (lA Bg) Ch0 = some Ch := by
  have hnr := G.1
  have hI := dINF_v
  have key := loopE (fun N (s : Nat × (Nat → Int32)) => lp_X0_choose_10 (nI nr) (nA hd) (nA ln) (lA P) (lA Bg) (fun h_choices => some h_choices) N (nI a) (nI e) (dn s.1) s.2)
    (fun R => ∃ Ch : Nat → Int32, ((∀ x, (∀ k, 9 ≤ k → k ≤ 14 → x ≠ csp k a e) → Ch x = Ch0 x) ∧ ∀ k, 9 ≤ k → k ≤ 14 → isCh nr hd ln (rsy gs) D 0 k a e (Ch (csp k a e))) ∧ R = some Ch)
    (fun s => s.1 ≤ nr ∧ (∀ x, (∀ k, 9 ≤ k → k ≤ 14 → x ≠ csp k a e) → s.2 x = Ch0 x) ∧ ∀ k, 9 ≤ k → k ≤ 14 → isCh nr hd ln (rsy gs) D s.1 k a e (s.2 (csp k a e)))
    (fun s => s.1) ?_ FU (nr, Ch0) (FU_gt (by dsimp only; omega)) ⟨Nat.le_refl _, fun _ _ => rfl, fun k k9 k14 => Or.inl ⟨h0 k k9 k14, fun r h1 h2 => by dsimp only at h1; omega⟩⟩
  · obtain ⟨Ch, h1, h2⟩ := key
    refine ⟨Ch, h1, ?_⟩
    unfold f_X0_choose
    simp only [nm]
    exact h2
  · rintro N ⟨c, Ch⟩ ⟨h1, h2, h3⟩
    dsimp only at h1 h2 h3 ⊢
    cases c with
    | zero =>
      left
      refine ⟨Ch, ⟨h2, h3⟩, ?_⟩
      simp only [lp_X0_choose_10]
      rw [if_pos dn_0]
    | succ r =>
      right
      have hr : r < nr := by omega
      have g := G.2 r hr
      have hcv := cnv_inf (sy := rsy gs) (p := D) (r := r) (a := a) (m := ln r) (e := e)
      have hpb := hP (sp (hd r) a e)
      have hBr := hB r hr
      have hDr := hD (hd r) g.1 g.2.1
      have keep : ¬ good hd ln (rsy gs) D a e r → ∀ k, 9 ≤ k → k ≤ 14 → isCh nr hd ln (rsy gs) D r k a e (Ch (csp k a e)) := by
        intro hg k k9 k14
        rcases h3 k k9 k14 with ⟨q1, q2⟩ | ⟨r1, q1, q2, q3, q4, q5, q6⟩
        · refine Or.inl ⟨q1, fun r2 p1 p2 p3 => ?_⟩
          by_cases e1 : r2 = r
          · subst e1; exact hg
          · exact q2 r2 (by omega) p2 p3
        · refine Or.inr ⟨r1, by omega, q2, q3, q4, q5, fun r2 p1 p2 p3 => ?_⟩
          by_cases e1 : r2 = r
          · subst e1; exact hg
          · exact q6 r2 (by omega) p2 p3
      have step : lp_X0_choose_10 (nI nr) (nA hd) (nA ln) (lA P) (lA Bg) (fun h_choices => some h_choices) (N + 1) (nI a) (nI e) (dn (r + 1)) Ch = if 0 ≤ lg_cmp (lN (cnv (rsy gs) D r a (ln r) e + 1)) (lN dINF) then lp_X0_choose_10 (nI nr) (nA hd) (nA ln) (lA P) (lA Bg) (fun h_choices => some h_choices) N (nI a) (nI e) (dn r) Ch else if lg_cmp (lN (cnv (rsy gs) D r a (ln r) e + 1)) (lN (D (hd r) a e)) = 0 then lp_X0_choose_10 (nI nr) (nA hd) (nA ln) (lA P) (lA Bg) (fun h_choices => some h_choices) N (nI a) (nI e) (dn r) (upd Ch (csp (hd r) a e) (nI r)) else lp_X0_choose_10 (nI nr) (nA hd) (nA ln) (lA P) (lA Bg) (fun h_choices => some h_choices) N (nI a) (nI e) (dn r) Ch := by
        rw [dn_s]
        simp only [lp_X0_choose_10, nm, jn_X0_choose_90, dn_next]
        rw [if_neg (nI_pos (by omega)), rd_nA (by omega) (by omega), ob, rd_nA (by omega) (by omega), ob, e_begunRow, ob, nI_add, rd_lA (by omega) (by omega), ob]
        have hBr' : Bg ((r * 6 + ln r) * 17 + e) = cnv (rsy gs) D r a (ln r) e := hBr
        rw [hBr', lN_1, dINF_l, e_spot (by omega), ob, rd_lA (sp_lt g.2.1 ha he (by omega)) (by omega), ob, hDr, e_choiceSpot g.1, ob, wrI_nI (csp_lt g.2.1 ha he g.1) (by omega), ob, nb20 r (by omega)]
      by_cases c1 : dINF ≤ cnv (rsy gs) D r a (ln r) e + 1
      · refine ⟨(r, Ch), ⟨by dsimp only; omega, h2, keep (fun hg => by have := hg.1; omega)⟩, by dsimp only; omega, ?_⟩
        rw [step, if_pos ((lgc_ge (by omega) (by omega)).mpr c1)]
      · by_cases c2 : cnv (rsy gs) D r a (ln r) e + 1 = D (hd r) a e
        · have hg : good hd ln (rsy gs) D a e r := ⟨by omega, c2⟩
          refine ⟨(r, upd Ch (csp (hd r) a e) (nI r)), ⟨by dsimp only; omega, fun x hx => ?_, fun k k9 k14 => ?_⟩, by dsimp only; omega, ?_⟩
          · dsimp only
            rw [pk_un (hx (hd r) g.1 g.2.1)]
            exact h2 x hx
          · dsimp only
            by_cases hk : k = hd r
            · subst hk
              rw [pk_us]
              exact Or.inr ⟨r, Nat.le_refl _, hr, rfl, hg, rfl, fun r' p1 p2 _ => by omega⟩
            · rw [pk_un (fun c => hk (csp_inj (by omega) g.1 ha ha he he c).1)]
              rcases h3 k k9 k14 with ⟨q1, q2⟩ | ⟨r1, q1, q2, q3, q4, q5, q6⟩
              · refine Or.inl ⟨q1, fun r2 p1 p2 p3 => ?_⟩
                by_cases e1 : r2 = r
                · subst e1; exact absurd p3.symm hk
                · exact q2 r2 (by omega) p2 p3
              · refine Or.inr ⟨r1, by omega, q2, q3, q4, q5, fun r2 p1 p2 p3 => ?_⟩
                by_cases e1 : r2 = r
                · subst e1; exact absurd p3.symm hk
                · exact q6 r2 (by omega) p2 p3
          · dsimp only
            rw [step, if_neg (fun c => c1 ((lgc_ge (by omega) (by omega)).mp c)), if_pos ((lgc_eq (by omega) (by omega)).mpr c2)]
        · refine ⟨(r, Ch), ⟨by dsimp only; omega, h2, keep (fun hg => c2 hg.2)⟩, by dsimp only; omega, ?_⟩
          rw [step, if_neg (fun c => c1 ((lgc_ge (by omega) (by omega)).mp c)), if_neg (fun c => c2 ((lgc_eq (by omega) (by omega)).mp c))]
end CHOOSE
/-- a sign's price for the tokens from i to j: what it costs, times 2 ^ 32 -/
def lfc (sg : Nat → Nat) (s i j : Nat) : Nat := if i = j then 1 else j - i - 1 + (if sg (j - 1) = s then 0 else 1)
def lf32 (sg : Nat → Nat) (s i j : Nat) : Nat := lfc sg s i j * 4294967296
theorem shl32 : ∀ v, v < 20 → lN v <<< ((32 : Int32).toInt64 &&& 63) = lN (v * 4294967296) := by decide +kernel
theorem e_signOf {sg : Nat → Nat} {n t : Nat} (h : t < n) (hn : n ≤ 16) : f_X1_signOf (nI t) (nI n) (nA sg) = some (nI (sg t)) := by
  unfold f_X1_signOf
  rw [if_neg (nI_pos (by omega)), if_neg (fun c => (show ¬ n ≤ t by omega) ((nI_leI (by omega) (by omega)).mp c)), rd_nA (by omega) (by omega), ob]
  rfl
