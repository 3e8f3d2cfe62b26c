/-! the reference's choose -/
theorem msum_eq {a b v : Nat} (hv : v < dINF) : msum a b = v ↔ a + b = v := by
  unfold msum
  split
  · constructor
    · intro h; omega
    · intro h; omega
  · exact Iff.rfl
section MCHOOSE
variable {nr : Nat} {hd gs ln sg B : Nat → Nat} {n : Nat}
theorem e_mchoose (G : GW nr hd ln (rsy gs)) (hn : n ≤ 16) (hsg : ∀ t, t < n → sg t ≤ 8) (hB : ∀ x, B x ≤ dINF) {k i j : Nat} (k9 : 9 ≤ k) (k14 : k ≤ 14) (hij : i ≤ j) (hjn : j ≤ n) {R0 cu0 : Nat → Nat} (hR : ∀ x, R0 x ≤ dINF) (hf : mpr sg B k i j < dINF) (hex : ∃ r, r < nr ∧ hd r = k ∧ cnv (rsy gs) (mpr sg B) r i (ln r) j + 1 = mpr sg B k i j) :
    ∃ (r : Nat) (R cu : Nat → Nat), (r < nr ∧ hd r = k ∧ cnv (rsy gs) (mpr sg B) r i (ln r) j + 1 = mpr sg B k i j ∧ (∀ r', r' < r → hd r' = k → cnv (rsy gs) (mpr sg B) r' i (ln r') j + 1 ≠ mpr sg B k i j) ∧ (∀ x, R x ≤ dINF) ∧ isCut (rsy gs) (mpr sg B) (ln r) r i j cu) ∧
      f_X6_choose (nI k) (nI i) (nI j) (nI nr) (nI n) (nA hd) (nA ln) (nA gs) (nA sg) (lA B) (lA R0) (nA cu0) = some (nI r, lA R, nA cu) := by
  have hnr := G.1
  have hI := dINF_v
  have l115 : ∀ (r m pe : Nat) (R cu : Nat → Nat), r < nr → m < ln r → i ≤ pe → pe ≤ j → cu (m + 1) = pe → (∀ x, R x ≤ dINF) → (∀ m e, m ≤ ln r → i ≤ e → e ≤ n → R (17 * m + e) = cnv (rsy gs) (mpr sg B) r i m e) → cnv (rsy gs) (mpr sg B) r i (m + 1) pe < dINF → ∀ (q : Int32 → Int32 → Int32 → (Nat → Int64) → (Nat → Int32) → Option (Int32 × (Nat → Int64) × (Nat → Int32))) N (b : Nat), b < N → (i ≤ b ∧ b ≤ pe ∧ ∀ b', b < b' → b' ≤ pe → cnv (rsy gs) (mpr sg B) r i m b' + mpr sg B (rsy gs r m) b' pe ≠ cnv (rsy gs) (mpr sg B) r i (m + 1) pe) →
      ∃ b1, (i ≤ b1 ∧ b1 ≤ pe ∧ cnv (rsy gs) (mpr sg B) r i m b1 + mpr sg B (rsy gs r m) b1 pe = cnv (rsy gs) (mpr sg B) r i (m + 1) pe ∧ ∀ b', b1 < b' → b' ≤ pe → cnv (rsy gs) (mpr sg B) r i m b' + mpr sg B (rsy gs r m) b' pe ≠ cnv (rsy gs) (mpr sg B) r i (m + 1) pe) ∧
        lp_X6_choose_115 (nI nr) (nI n) (nA hd) (nA ln) (nA gs) (nA sg) (lA B) q N (nI r) (nI (m + 1)) (nI b) (lA R) (nA cu) = q (nI r) (nI (m + 1)) (nI b1) (lA R) (nA cu) := by
    intro r m pe R cu hr hm hpe1 hpe2 hcu t1 t2 hfin q
    have g := G.2 r hr
    have gm := g.2.2.2 m hm
    refine loopE (fun N b => lp_X6_choose_115 (nI nr) (nI n) (nA hd) (nA ln) (nA gs) (nA sg) (lA B) q N (nI r) (nI (m + 1)) (nI b) (lA R) (nA cu)) (fun Q => ∃ b1, (i ≤ b1 ∧ b1 ≤ pe ∧ cnv (rsy gs) (mpr sg B) r i m b1 + mpr sg B (rsy gs r m) b1 pe = cnv (rsy gs) (mpr sg B) r i (m + 1) pe ∧ ∀ b', b1 < b' → b' ≤ pe → cnv (rsy gs) (mpr sg B) r i m b' + mpr sg B (rsy gs r m) b' pe ≠ cnv (rsy gs) (mpr sg B) r i (m + 1) pe) ∧ Q = q (nI r) (nI (m + 1)) (nI b1) (lA R) (nA cu)) _ (fun b => b) ?_
    rintro N b ⟨q1, q2, q3⟩
    have e2 : 5 * r + (m + 1) - 1 = r * 5 + m := by omega
    have b1 := t1 (17 * m + b)
    have b2 := mpr_le (sg := sg) (B := B) (s := rsy gs r m) (i := b) (show pe ≤ n by omega) hn hB
    have b3 := msum_le b1 b2
    have hT : R (17 * m + b) = cnv (rsy gs) (mpr sg B) r i m b := t2 m b (by omega) q1 (by omega)
    have hV : R (17 * (m + 1) + pe) = cnv (rsy gs) (mpr sg B) r i (m + 1) pe := t2 (m + 1) pe (by omega) hpe1 (by omega)
    have unf : lp_X6_choose_115 (nI nr) (nI n) (nA hd) (nA ln) (nA gs) (nA sg) (lA B) q (N + 1) (nI r) (nI (m + 1)) (nI b) (lA R) (nA cu) = if lg_cmp (lN (msum (R (17 * m + b)) (mpr sg B (rsy gs r m) b pe))) (lN (cnv (rsy gs) (mpr sg B) r i (m + 1) pe)) = 0 then q (nI r) (nI (m + 1)) (nI b) (lA R) (nA cu) else lp_X6_choose_115 (nI nr) (nI n) (nA hd) (nA ln) (nA gs) (nA sg) (lA B) q N (nI r) (nI (m + 1)) (dn b) (lA R) (nA cu) := by
      simp only [lp_X6_choose_115, nm]
      rw [i17, i1, show (5 : Int32) = nI 5 from rfl, nI_sub (show 1 ≤ m + 1 by omega), Nat.add_sub_cancel, nI_mul, nI_add, rd_lA (by omega) (by omega), ob, nI_mul, nI_add, nI_sub (show 1 ≤ 5 * r + (m + 1) by omega), e2, rd_nA (by omega) (by omega), ob, rd_nA (by omega) (by omega), ob, hcu]
      have hp := e_price (sg := sg) (B := B) gm.1 gm.2 q2 (show pe ≤ n by omega) hn hsg
      unfold rsy at hp
      rw [hp, ob]
      have b2' := b2
      unfold rsy at b2'
      rw [e_sum b1 b2', ob, ob, nI_mul, nI_add, rd_lA (by omega) (by omega), ob, hV, dn_next]
      rfl
    by_cases hc : cnv (rsy gs) (mpr sg B) r i m b + mpr sg B (rsy gs r m) b pe = cnv (rsy gs) (mpr sg B) r i (m + 1) pe
    · left
      refine ⟨b, ⟨q1, q2, hc, q3⟩, ?_⟩
      rw [unf, if_pos ((lgc_eq (by omega) (by omega)).mpr ((msum_eq hfin).mpr (by rw [hT]; exact hc)))]
    · right
      have hbi : i < b := by
        rcases Nat.lt_or_ge i b with c | c
        · exact c
        · have e1 : b = i := by omega
          subst e1
          rcases cnv_at (sy := rsy gs) (p := mpr sg B) (r := r) (a := b) (m := m) (e := pe) with c | ⟨b', p1, p2, p3⟩
          · omega
          · by_cases c : b' = b
            · subst c; exact absurd p3.symm hc
            · exact absurd p3.symm (q3 b' (by omega) p2)
      refine ⟨b - 1, ⟨by omega, by omega, fun b' p1 p2 => ?_⟩, by omega, ?_⟩
      · by_cases e1 : b' = b
        · subst e1; exact hc
        · exact q3 b' (by omega) p2
      · rw [unf, if_neg (fun c => hc (by rw [← hT]; exact (msum_eq hfin).mp ((lgc_eq (by omega) (by omega)).mp c)))]
        have e4 : dn b = nI (b - 1) := by
          have e3 : b = (b - 1) + 1 := by omega
          rw [e3, dn_s]; rfl
        rw [e4]
  have l101 : ∀ (r : Nat) (R : Nat → Nat), r < nr → (∀ x, R x ≤ dINF) → (∀ m e, m ≤ ln r → i ≤ e → e ≤ n → R (17 * m + e) = cnv (rsy gs) (mpr sg B) r i m e) → ∀ N (t : Nat × (Nat → Nat)), t.1 < N → (t.1 ≤ ln r ∧ t.2 (ln r) = j ∧ i ≤ t.2 t.1 ∧ t.2 t.1 ≤ j ∧ cnv (rsy gs) (mpr sg B) r i t.1 (t.2 t.1) < dINF ∧ ∀ m, t.1 ≤ m → m < ln r → i ≤ t.2 m ∧ t.2 m ≤ t.2 (m + 1) ∧ cnv (rsy gs) (mpr sg B) r i m (t.2 m) + mpr sg B (rsy gs r m) (t.2 m) (t.2 (m + 1)) = cnv (rsy gs) (mpr sg B) r i (m + 1) (t.2 (m + 1)) ∧ ∀ b, t.2 m < b → b ≤ t.2 (m + 1) → cnv (rsy gs) (mpr sg B) r i m b + mpr sg B (rsy gs r m) b (t.2 (m + 1)) ≠ cnv (rsy gs) (mpr sg B) r i (m + 1) (t.2 (m + 1))) →
      ∃ cu : Nat → Nat, isCut (rsy gs) (mpr sg B) (ln r) r i j cu ∧ lp_X6_choose_101 (nI nr) (nI n) (nA hd) (nA ln) (nA gs) (nA sg) (lA B) (fun x6 m_row m_cut => some (x6, m_row, m_cut)) N (nI r) (nI t.1) (lA R) (nA t.2) = some (nI r, lA R, nA cu) := by
    intro r R hr t1 t2
    have g := G.2 r hr
    refine loopE (fun N (t : Nat × (Nat → Nat)) => lp_X6_choose_101 (nI nr) (nI n) (nA hd) (nA ln) (nA gs) (nA sg) (lA B) (fun x6 m_row m_cut => some (x6, m_row, m_cut)) N (nI r) (nI t.1) (lA R) (nA t.2)) (fun Q => ∃ cu : Nat → Nat, isCut (rsy gs) (mpr sg B) (ln r) r i j cu ∧ Q = some (nI r, lA R, nA cu)) _ (fun t => t.1) ?_
    rintro N ⟨c, cu⟩ ⟨q1, q2, q3, q4, q5, q6⟩
    dsimp only at q1 q2 q3 q4 q5 q6 ⊢
    cases c with
    | zero =>
      left
      refine ⟨cu, ⟨q2, fun m hm => q6 m (Nat.zero_le _) hm⟩, ?_⟩
      simp only [lp_X6_choose_101]
      rw [if_pos (show nI 0 ≤ (0 : Int32) from Int32.le_refl _)]
    | succ m =>
      right
      obtain ⟨b1, ⟨d1, d2, d3, d4⟩, d5⟩ := l115 r m (cu (m + 1)) R cu hr (by omega) q3 q4 rfl t1 t2 q5 (fun x6 x7 x8 m_row m_cut => (wrI m_cut 6 (x7 - 1) x8).bind fun m_cut_23 => lp_X6_choose_101 (nI nr) (nI n) (nA hd) (nA ln) (nA gs) (nA sg) (lA B) (fun x6 m_row m_cut => some (x6, m_row, m_cut)) N x6 (x7 + Int32.ofInt (-1)) m_row m_cut_23) FU (cu (m + 1)) (FU_gt (by omega)) ⟨q3, Nat.le_refl _, fun b' p1 p2 => by omega⟩
      refine ⟨(m, updN cu m b1), ⟨by dsimp only; omega, ?_, ?_, ?_, ?_, fun m' p1 p2 => ?_⟩, by dsimp only; omega, ?_⟩
      · dsimp only
        rw [updN_n (by omega)]
        exact q2
      · dsimp only
        rw [updN_s]
        exact d1
      · dsimp only
        rw [updN_s]
        omega
      · dsimp only
        rw [updN_s]
        omega
      · dsimp only at p1 ⊢
        by_cases e1 : m' = m
        · subst e1
          rw [updN_s, updN_n (show m' + 1 ≠ m' by omega)]
          exact ⟨d1, d2, d3, d4⟩
        · rw [updN_n e1, updN_n (show m' + 1 ≠ m by omega)]
          exact q6 m' (by omega) p2
      · dsimp only
        simp only [lp_X6_choose_101, nm]
        rw [if_neg (show ¬ nI (m + 1) ≤ (0 : Int32) from nI_nle (by omega) (by omega)), rd_nA (by omega) (by omega), ob]
        refine Eq.trans d5 ?_
        rw [i1, nI_sub (show 1 ≤ m + 1 by omega), Nat.add_sub_cancel, wr_nA (by omega) (by omega), ob, dn_next, dn_s]
  have l25 := loopE (fun N (t : Nat × (Nat → Nat)) => lp_X6_choose_25 (nI nr) (nI n) (nA hd) (nA ln) (nA gs) (nA sg) (lA B) (fun m_row m_cut => some ((-1), m_row, m_cut)) N (nI k) (nI i) (nI j) (lN (mpr sg B k i j)) (nI t.1) (lA t.2) (nA cu0)) (fun Q => ∃ (r : Nat) (R cu : Nat → Nat), (r < nr ∧ hd r = k ∧ cnv (rsy gs) (mpr sg B) r i (ln r) j + 1 = mpr sg B k i j ∧ (∀ r', r' < r → hd r' = k → cnv (rsy gs) (mpr sg B) r' i (ln r') j + 1 ≠ mpr sg B k i j) ∧ (∀ x, R x ≤ dINF) ∧ isCut (rsy gs) (mpr sg B) (ln r) r i j cu) ∧ Q = some (nI r, lA R, nA cu)) (fun t => t.1 ≤ nr ∧ (∀ x, t.2 x ≤ dINF) ∧ ∀ r', r' < t.1 → hd r' = k → cnv (rsy gs) (mpr sg B) r' i (ln r') j + 1 ≠ mpr sg B k i j) (fun t => nr - t.1) (by
    rintro N ⟨r, R⟩ ⟨q1, q2, q3⟩
    dsimp only at q1 q2 q3 ⊢
    have hr : r < nr := by
      rcases Nat.lt_or_ge r nr with c | c
      · exact c
      · obtain ⟨r0, p1, p2, p3⟩ := hex
        exact absurd p3 (q3 r0 (by omega) p2)
    have g := G.2 r hr
    by_cases hk : hd r = k
    · obtain ⟨R', ⟨c1, c2⟩, c3⟩ := e_mfill G hn hsg hB hr (show i ≤ n by omega) q2
      have hV : R' (17 * ln r + j) = cnv (rsy gs) (mpr sg B) r i (ln r) j := c2 (ln r) j (Nat.le_refl _) hij hjn
      have b1 := c1 (17 * ln r + j)
      have b3 := msum_le (b := 1) b1 (by omega)
      have hpb := mpr_le (sg := sg) (B := B) (s := k) (i := i) hjn hn hB
      by_cases hc : cnv (rsy gs) (mpr sg B) r i (ln r) j + 1 = mpr sg B k i j
      · left
        obtain ⟨cu, d1, d2⟩ := l101 r R' hr c1 c2 FU (ln r, updN cu0 (ln r) j) (FU_gt (by dsimp only; omega)) ⟨Nat.le_refl _, updN_s, by dsimp only; rw [updN_s]; exact hij, by dsimp only; rw [updN_s]; exact Nat.le_refl _, by dsimp only; rw [updN_s]; omega, fun m p1 p2 => by dsimp only at p1; omega⟩
        refine ⟨r, R', cu, ⟨hr, hk, hc, q3, c1, d1⟩, ?_⟩
        simp only [lp_X6_choose_25, nm]
        rw [if_neg (fun c => (show ¬ nr ≤ r by omega) ((nI_leI (by omega) (by omega)).mp c)), rd_nA (by omega) (by omega), ob, if_pos (by rw [hk]), c3, ob, rd_nA (by omega) (by omega), ob, i17, nI_mul, nI_add, rd_lA (by omega) (by omega), ob, show (1 : Int64) = lN 1 from rfl, e_sum b1 (by omega), ob, if_pos ((lgc_eq (by omega) (by omega)).mpr ((msum_eq hf).mpr (by rw [hV]; exact hc))), ob, wr_nA (by omega) (by omega), ob, ob]
        exact d2
      · right
        refine ⟨(r + 1, R'), ⟨by dsimp only; omega, c1, fun r' p1 p2 => ?_⟩, by dsimp only; omega, ?_⟩
        · dsimp only at p1
          by_cases e1 : r' = r
          · subst e1; exact hc
          · exact q3 r' (by omega) p2
        · dsimp only
          simp only [lp_X6_choose_25, jn_X6_choose_208, nm]
          rw [if_neg (fun c => (show ¬ nr ≤ r by omega) ((nI_leI (by omega) (by omega)).mp c)), rd_nA (by omega) (by omega), ob, if_pos (by rw [hk]), c3, ob, rd_nA (by omega) (by omega), ob, i17, nI_mul, nI_add, rd_lA (by omega) (by omega), ob, show (1 : Int64) = lN 1 from rfl, e_sum b1 (by omega), ob, if_neg (fun c => hc (by rw [← hV]; exact (msum_eq hf).mp ((lgc_eq (by omega) (by omega)).mp c))), of1, nI_add]
    · right
      refine ⟨(r + 1, R), ⟨by dsimp only; omega, q2, fun r' p1 p2 => ?_⟩, by dsimp only; omega, ?_⟩
      · dsimp only at p1
        by_cases e1 : r' = r
        · subst e1; exact absurd p2 hk
        · exact q3 r' (by omega) p2
      · dsimp only
        simp only [lp_X6_choose_25, jn_X6_choose_208, nm]
        rw [if_neg (fun c => (show ¬ nr ≤ r by omega) ((nI_leI (by omega) (by omega)).mp c)), rd_nA (by omega) (by omega), ob, if_neg (fun c => hk ((nI_eq (by omega) (by omega)).mp c)), of1, nI_add])
  obtain ⟨r, R, cu, c1, c2⟩ := l25 FU (0, R0) (FU_gt (by dsimp only; omega)) ⟨Nat.zero_le _, hR, fun r' p1 => by dsimp only at p1; omega⟩
  refine ⟨r, R, cu, c1, ?_⟩
  unfold f_X6_choose
  simp only [nm]
  have e1 : 289 * (k - 9) + 17 * i + j = csp k i j := by unfold csp; omega
  rw [show (289 : Int32) = nI 289 from rfl, show (9 : Int32) = nI 9 from rfl, i17, nI_sub k9, nI_mul, nI_mul, nI_add, nI_add, e1, rd_lA (csp_lt k14 (by omega) (by omega) k9) (by omega), ob]
  have e3 : mpr sg B k i j = B (csp k i j) := by unfold mpr; rw [if_neg (by omega)]
  rw [e3] at c2
  exact c2
end MCHOOSE
