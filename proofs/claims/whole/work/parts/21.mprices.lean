/-! the reference's prices -/
theorem updN_id {P : Nat → Nat} {k v : Nat} (h : v = P k) : updN P k v = P := by
  funext j
  unfold updN
  split
  · next e => rw [e, h]
  · rfl
section MPRICES
variable {nr : Nat} {hd gs ln sg : Nat → Nat} {n : Nat} {D : Nat → Nat → Nat → Nat}
theorem l_prices_60 (G : GW nr hd ln (rsy gs)) (hn : n ≤ 16) {r a : Nat} (hr : r < nr) {R B0 : Nat → Nat} {b0 : Nat} (hR : ∀ x, R x ≤ dINF)
    (k : Int32 → Int32 → Int32 → (Nat → Int64) → (Nat → Int64) → Option ((Nat → Int64) × (Nat → Int64))) :
    ∀ N (t : Nat × Nat × (Nat → Nat)), n + 1 - t.1 < N → (a ≤ t.1 ∧ t.1 ≤ n + 1 ∧ t.2.1 ≤ 1 ∧ (∀ x, t.2.2 x ≤ dINF) ∧ (∀ x, (∀ e, a ≤ e → e < t.1 → x ≠ csp (hd r) a e) → t.2.2 x = B0 x) ∧ (∀ e, a ≤ e → e < t.1 → t.2.2 (csp (hd r) a e) = min (B0 (csp (hd r) a e)) (R (17 * ln r + e) + 1)) ∧ (t.2.1 = 0 → b0 = 0 ∧ t.2.2 = B0) ∧ (t.2.1 ≠ 0 → b0 ≠ 0 ∨ ∃ e, a ≤ e ∧ e ≤ n ∧ t.2.2 (csp (hd r) a e) < B0 (csp (hd r) a e))) →
      ∃ (b : Nat) (B : Nat → Nat), (b ≤ 1 ∧ (∀ x, B x ≤ dINF) ∧ (∀ x, (∀ e, a ≤ e → e ≤ n → x ≠ csp (hd r) a e) → B x = B0 x) ∧ (∀ e, a ≤ e → e ≤ n → B (csp (hd r) a e) = min (B0 (csp (hd r) a e)) (R (17 * ln r + e) + 1)) ∧ (b = 0 → b0 = 0 ∧ B = B0) ∧ (b ≠ 0 → b0 ≠ 0 ∨ ∃ e, a ≤ e ∧ e ≤ n ∧ B (csp (hd r) a e) < B0 (csp (hd r) a e))) ∧
        lp_X6_prices_60 (nI nr) (nI n) (nA hd) (nA ln) (nA gs) (nA sg) k N (nI a) (nI t.2.1) (nI r) (nI t.1) (lA t.2.2) (lA R) = k (nI a) (nI b) (nI r) (lA B) (lA R) := by
  have g := G.2 r hr
  have hnr := G.1
  have hI := dINF_v
  refine loopE (fun N (t : Nat × Nat × (Nat → Nat)) => lp_X6_prices_60 (nI nr) (nI n) (nA hd) (nA ln) (nA gs) (nA sg) k N (nI a) (nI t.2.1) (nI r) (nI t.1) (lA t.2.2) (lA R)) (fun Q => ∃ (b : Nat) (B : Nat → Nat), (b ≤ 1 ∧ (∀ x, B x ≤ dINF) ∧ (∀ x, (∀ e, a ≤ e → e ≤ n → x ≠ csp (hd r) a e) → B x = B0 x) ∧ (∀ e, a ≤ e → e ≤ n → B (csp (hd r) a e) = min (B0 (csp (hd r) a e)) (R (17 * ln r + e) + 1)) ∧ (b = 0 → b0 = 0 ∧ B = B0) ∧ (b ≠ 0 → b0 ≠ 0 ∨ ∃ e, a ≤ e ∧ e ≤ n ∧ B (csp (hd r) a e) < B0 (csp (hd r) a e))) ∧ Q = k (nI a) (nI b) (nI r) (lA B) (lA R)) _ (fun t => n + 1 - t.1) ?_
  rintro N ⟨e, b, B⟩ ⟨q1, q2, q3, q4, q5, q6, q7, q8⟩
  dsimp only at q1 q2 q3 q4 q5 q6 q7 q8 ⊢
  by_cases h : n < e
  · left
    have e1 : e = n + 1 := by omega
    subst e1
    refine ⟨b, B, ⟨q3, q4, fun x hx => q5 x (fun e' p1 p2 => hx e' p1 (by omega)), fun e' p1 p2 => q6 e' p1 (by omega), q7, q8⟩, ?_⟩
    simp only [lp_X6_prices_60]
    rw [if_pos ((nI_ltI (by omega) (by omega)).mpr h)]
  · right
    have hne : ∀ e', a ≤ e' → e' ≤ n → e' ≠ e → csp (hd r) a e' ≠ csp (hd r) a e := fun e' p1 p2 p3 c => p3 (csp_inj g.1 g.1 (by omega) (by omega) (by omega) (by omega) c).2.2
    have hold : B (csp (hd r) a e) = B0 (csp (hd r) a e) := q5 _ (fun e' p1 p2 => (hne e' p1 (by omega) (by omega)).symm)
    have hat : csp (hd r) a e < 1734 := csp_lt g.2.1 (by omega) (by omega) g.1
    have b1 := hR (17 * ln r + e)
    have b2 := q4 (csp (hd r) a e)
    have b3 := msum_le (b := 1) b1 (by omega)
    have b4 := msum_min (l := B (csp (hd r) a e)) (a := R (17 * ln r + e)) (b := 1) b2
    obtain ⟨V, hV⟩ : ∃ V, V = msum (R (17 * ln r + e)) 1 := ⟨_, rfl⟩
    have step : ∀ s0 : Nat, jn_X6_prices_137 (nI nr) (nI n) (nA hd) (nA ln) (nA gs) (nA sg) (lp_X6_prices_60 (nI nr) (nI n) (nA hd) (nA ln) (nA gs) (nA sg) k N) (nI a) (nI r) (nI e) (nI (csp (hd r) a e)) (lN V) (nI s0) (lA B) (lA R) = lp_X6_prices_60 (nI nr) (nI n) (nA hd) (nA ln) (nA gs) (nA sg) k N (nI a) (nI s0) (nI r) (nI (e + 1)) (lA (updN B (csp (hd r) a e) (min (B (csp (hd r) a e)) (R (17 * ln r + e) + 1)))) (lA R) := by
      intro s0
      simp only [jn_X6_prices_137, jn_X6_prices_169, nm]
      rw [rd_lA hat (by omega), ob, ob]
      rw [lmin_ge (A := fun v => (wrL (lA B) 1734 (nI (csp (hd r) a e)) v).bind fun m_best_20 => lp_X6_prices_60 (nI nr) (nI n) (nA hd) (nA ln) (nA gs) (nA sg) k N (nI a) (nI s0) (nI r) (nI e + Int32.ofInt 1) m_best_20 (lA R)) (by omega) (by rw [hV]; omega), hV, b4, wr_lA hat (by omega), ob, of1, nI_add]
    have hbound : ∀ x, updN B (csp (hd r) a e) (min (B (csp (hd r) a e)) (R (17 * ln r + e) + 1)) x ≤ dINF := fun x => by
      unfold updN
      split
      · exact Nat.le_trans (Nat.min_le_left _ _) b2
      · exact q4 x
    have hun : ∀ x, (∀ e', a ≤ e' → e' < e + 1 → x ≠ csp (hd r) a e') → updN B (csp (hd r) a e) (min (B (csp (hd r) a e)) (R (17 * ln r + e) + 1)) x = B0 x := fun x hx => by
      rw [updN_n (hx e q1 (by omega))]
      exact q5 x (fun e' p1 p2 => hx e' p1 (by omega))
    have hmin : ∀ e', a ≤ e' → e' < e + 1 → updN B (csp (hd r) a e) (min (B (csp (hd r) a e)) (R (17 * ln r + e) + 1)) (csp (hd r) a e') = min (B0 (csp (hd r) a e')) (R (17 * ln r + e') + 1) := fun e' p1 p2 => by
      by_cases c : e' = e
      · subst c
        rw [updN_s, hold]
      · rw [updN_n (hne e' p1 (by omega) c)]
        exact q6 e' p1 (by omega)
    have unf : lp_X6_prices_60 (nI nr) (nI n) (nA hd) (nA ln) (nA gs) (nA sg) k (N + 1) (nI a) (nI b) (nI r) (nI e) (lA B) (lA R) = if nI b = (0 : Int32) then (if 0 ≤ lg_cmp (lN V) (lN (B (csp (hd r) a e))) then jn_X6_prices_137 (nI nr) (nI n) (nA hd) (nA ln) (nA gs) (nA sg) (lp_X6_prices_60 (nI nr) (nI n) (nA hd) (nA ln) (nA gs) (nA sg) k N) (nI a) (nI r) (nI e) (nI (csp (hd r) a e)) (lN V) (nI 0) (lA B) (lA R) else jn_X6_prices_137 (nI nr) (nI n) (nA hd) (nA ln) (nA gs) (nA sg) (lp_X6_prices_60 (nI nr) (nI n) (nA hd) (nA ln) (nA gs) (nA sg) k N) (nI a) (nI r) (nI e) (nI (csp (hd r) a e)) (lN V) (nI 1) (lA B) (lA R)) else jn_X6_prices_137 (nI nr) (nI n) (nA hd) (nA ln) (nA gs) (nA sg) (lp_X6_prices_60 (nI nr) (nI n) (nA hd) (nA ln) (nA gs) (nA sg) k N) (nI a) (nI r) (nI e) (nI (csp (hd r) a e)) (lN V) (nI 1) (lA B) (lA R) := by
      simp only [lp_X6_prices_60, nm, jn_X6_prices_132]
      have e1 : 289 * (hd r - 9) + 17 * a + e = csp (hd r) a e := by unfold csp; omega
      rw [if_neg (fun c => h ((nI_ltI (by omega) (by omega)).mp c)), rd_nA (by omega) (by omega), ob, show (289 : Int32) = nI 289 from rfl, show (9 : Int32) = nI 9 from rfl, i17, nI_sub g.1, nI_mul, nI_mul, nI_add, nI_add, e1, rd_nA (by omega) (by omega), ob, nI_mul, nI_add, rd_lA (by omega) (by omega), ob, show (1 : Int64) = lN 1 from rfl, e_sum b1 (by omega), ob, ← hV, rd_lA hat (by omega), ob]
      rfl
    by_cases hb : b = 0
    · by_cases hc : B (csp (hd r) a e) ≤ V
      · have hmm : min (B (csp (hd r) a e)) (R (17 * ln r + e) + 1) = B (csp (hd r) a e) := by omega
        refine ⟨(e + 1, 0, updN B (csp (hd r) a e) (min (B (csp (hd r) a e)) (R (17 * ln r + e) + 1))), ⟨by dsimp only; omega, by dsimp only; omega, Nat.zero_le _, hbound, hun, hmin, fun _ => ⟨(q7 hb).1, ?_⟩, fun hx => absurd rfl hx⟩, by dsimp only; omega, ?_⟩
        · dsimp only
          rw [hmm, updN_id rfl]
          exact (q7 hb).2
        · dsimp only
          rw [unf, if_pos (by rw [hb]; rfl), if_pos ((lgc_ge (by omega) (by omega)).mpr hc), step]
      · refine ⟨(e + 1, 1, updN B (csp (hd r) a e) (min (B (csp (hd r) a e)) (R (17 * ln r + e) + 1))), ⟨by dsimp only; omega, by dsimp only; omega, Nat.le_refl _, hbound, hun, hmin, fun hx => absurd (show (1 : Nat) = 0 from hx) (by decide), fun _ => Or.inr ⟨e, q1, by omega, ?_⟩⟩, by dsimp only; omega, ?_⟩
        · dsimp only
          rw [updN_s, ← hold]
          omega
        · dsimp only
          rw [unf, if_pos (by rw [hb]; rfl), if_neg (fun c => hc ((lgc_ge (by omega) (by omega)).mp c)), step]
    · refine ⟨(e + 1, 1, updN B (csp (hd r) a e) (min (B (csp (hd r) a e)) (R (17 * ln r + e) + 1))), ⟨by dsimp only; omega, by dsimp only; omega, Nat.le_refl _, hbound, hun, hmin, fun hx => absurd (show (1 : Nat) = 0 from hx) (by decide), fun _ => ?_⟩, by dsimp only; omega, ?_⟩
      · dsimp only
        rcases q8 hb with c | ⟨e', p1, p2, p3⟩
        · exact Or.inl c
        · refine Or.inr ⟨e', p1, p2, ?_⟩
          by_cases c : e' = e
          · subst c
            rw [updN_s]
            omega
          · rw [updN_n (hne e' p1 p2 c)]
            exact p3
      · dsimp only
        rw [unf, if_neg (show ¬ nI b = (0 : Int32) from fun c => hb ((nI_eq (a := b) (b := 0) (by omega) (by omega)).mp c)), step]
/-- what holds at every step at the first token a -/
def MI (n : Nat) (D : Nat → Nat → Nat → Nat) (a : Nat) (B : Nat → Nat) : Prop :=
  (∀ x, B x ≤ dINF) ∧ (∀ k i j, 9 ≤ k → k ≤ 14 → a < i → i ≤ j → j ≤ n → B (csp k i j) = D k i j) ∧ ∀ k i e, 9 ≤ k → k ≤ 14 → i ≤ a → i ≤ e → e ≤ n → D k i e ≤ B (csp k i e)
theorem MI.ge (G : GW nr hd ln (rsy gs)) (F : Fix nr hd ln (rsy gs) n (lf24 sg) D) {a : Nat} {B : Nat → Nat} (h : MI n D a B) {s i j : Nat} (h1 : 1 ≤ s) (h14 : s ≤ 14) (hi : a ≤ i) (hij : i ≤ j) (hj : j ≤ n) : D s i j ≤ mpr sg B s i j := by
  unfold mpr
  split
  · next h8 => rw [F.1 s i j h1 h8 hij hj]; exact Nat.le_refl _
  · next h8 =>
    by_cases c : i = a
    · subst c; exact h.2.2 s i j (by omega) h14 (Nat.le_refl _) hij hj
    · rw [h.2.1 s i j (by omega) h14 (by omega) hij hj]; exact Nat.le_refl _
theorem l_prices_43 (G : GW nr hd ln (rsy gs)) (F : Fix nr hd ln (rsy gs) n (lf24 sg) D) (hn : n ≤ 16) (hsg : ∀ t, t < n → sg t ≤ 8) {a : Nat} (ha : a ≤ n) (Bin : Nat → Nat)
    (k : Int32 → Int32 → (Nat → Int64) → (Nat → Int64) → Option ((Nat → Int64) × (Nat → Int64))) :
    ∀ N (t : Nat × Nat × (Nat → Nat) × (Nat → Nat)), nr - t.1 < N → (t.1 ≤ nr ∧ t.2.1 ≤ 1 ∧ MI n D a t.2.2.1 ∧ (∀ x, t.2.2.2 x ≤ dINF) ∧ (∀ x, t.2.2.1 x ≤ Bin x) ∧ (∀ r e, r < t.1 → a ≤ e → e ≤ n → t.2.2.1 (csp (hd r) a e) ≤ cnv (rsy gs) (mpr sg Bin) r a (ln r) e + 1) ∧ (t.2.1 = 0 → t.2.2.1 = Bin) ∧ (t.2.1 ≠ 0 → ∃ x, x < 1734 ∧ t.2.2.1 x < Bin x)) →
      ∃ (b : Nat) (B R : Nat → Nat), (b ≤ 1 ∧ MI n D a B ∧ (∀ x, R x ≤ dINF) ∧ (∀ x, B x ≤ Bin x) ∧ (∀ r e, r < nr → a ≤ e → e ≤ n → B (csp (hd r) a e) ≤ cnv (rsy gs) (mpr sg Bin) r a (ln r) e + 1) ∧ (b = 0 → B = Bin) ∧ (b ≠ 0 → ∃ x, x < 1734 ∧ B x < Bin x)) ∧
        lp_X6_prices_43 (nI nr) (nI n) (nA hd) (nA ln) (nA gs) (nA sg) k N (nI a) (nI t.2.1) (nI t.1) (lA t.2.2.1) (lA t.2.2.2) = k (nI a) (nI b) (lA B) (lA R) := by
  have hnr := G.1
  refine loopE (fun N (t : Nat × Nat × (Nat → Nat) × (Nat → Nat)) => lp_X6_prices_43 (nI nr) (nI n) (nA hd) (nA ln) (nA gs) (nA sg) k N (nI a) (nI t.2.1) (nI t.1) (lA t.2.2.1) (lA t.2.2.2)) (fun Q => ∃ (b : Nat) (B R : Nat → Nat), (b ≤ 1 ∧ MI n D a B ∧ (∀ x, R x ≤ dINF) ∧ (∀ x, B x ≤ Bin x) ∧ (∀ r e, r < nr → a ≤ e → e ≤ n → B (csp (hd r) a e) ≤ cnv (rsy gs) (mpr sg Bin) r a (ln r) e + 1) ∧ (b = 0 → B = Bin) ∧ (b ≠ 0 → ∃ x, x < 1734 ∧ B x < Bin x)) ∧ Q = k (nI a) (nI b) (lA B) (lA R)) _ (fun t => nr - t.1) ?_
  rintro N ⟨r, b, B, R⟩ ⟨q1, q2, q3, q4, q5, q6, q7, q8⟩
  dsimp only at q1 q2 q3 q4 q5 q6 q7 q8 ⊢
  by_cases h : nr ≤ r
  · left
    have e1 : r = nr := by omega
    subst e1
    refine ⟨b, B, R, ⟨q2, q3, q4, q5, q6, q7, q8⟩, ?_⟩
    simp only [lp_X6_prices_43]
    rw [if_pos ((nI_leI (by omega) (by omega)).mpr h)]
  · right
    have hr : r < nr := by omega
    have g := G.2 r hr
    obtain ⟨R', ⟨c1, c2⟩, c3⟩ := e_mfill G hn hsg q3.1 hr ha q4
    obtain ⟨b', B', ⟨d1, d2, d3, d4, d5, d6⟩, d7⟩ := l_prices_60 (sg := sg) (a := a) (B0 := B) (b0 := b) G hn hr c1 (fun x1 x2 x3 m_best m_row => lp_X6_prices_43 (nI nr) (nI n) (nA hd) (nA ln) (nA gs) (nA sg) k N x1 x2 (x3 + Int32.ofInt 1) m_best m_row) FU (a, b, B) (FU_gt (by dsimp only; omega)) ⟨Nat.le_refl _, by dsimp only; omega, q2, q3.1, fun _ _ => rfl, fun e p1 p2 => by dsimp only at p2; omega, fun hb => ⟨hb, rfl⟩, fun hb => Or.inl hb⟩
    have hle : ∀ x, B' x ≤ B x := by
      intro x
      by_cases hx : ∃ e, a ≤ e ∧ e ≤ n ∧ x = csp (hd r) a e
      · obtain ⟨e, p1, p2, rfl⟩ := hx
        rw [d4 e p1 p2]
        exact Nat.min_le_left _ _
      · rw [d3 x (fun e p1 p2 c => hx ⟨e, p1, p2, c⟩)]
        exact Nat.le_refl _
    have hcm : ∀ e, a ≤ e → e ≤ n → cnv (rsy gs) (mpr sg B) r a (ln r) e ≤ cnv (rsy gs) (mpr sg Bin) r a (ln r) e := fun e p1 p2 => cnv_mono (fun m' hm' i j hi hij hj => by
      unfold mpr
      split
      · exact Nat.le_refl _
      · exact q5 _)
    refine ⟨(r + 1, b', B', R'), ⟨by dsimp only; omega, d1, ⟨d2, fun k i j k9 k14 p1 p2 p3 => ?_, fun k i e k9 k14 p0 p1 p2 => ?_⟩, c1, fun x => Nat.le_trans (hle x) (q5 x), fun r' e p0 p1 p2 => ?_, fun hb => ?_, fun hb => ?_⟩, by dsimp only; omega, ?_⟩
    · dsimp only
      rw [d3 _ (fun e' p4 p5 c => ?_)]
      · exact q3.2.1 k i j k9 k14 p1 p2 p3
      · have := csp_inj k9 g.1 (by omega) (by omega) (by omega) (by omega) c
        omega
    · dsimp only
      by_cases hk : k = hd r ∧ i = a
      · obtain ⟨rfl, rfl⟩ := hk
        rw [d4 e p1 p2, c2 (ln r) e (Nat.le_refl _) p1 p2]
        refine Nat.le_min.mpr ⟨q3.2.2 _ i e k9 k14 p0 p1 p2, ?_⟩
        have f2 := F.2.2.1 r i e hr p1 p2
        have f3 : cnv (rsy gs) D r i (ln r) e ≤ cnv (rsy gs) (mpr sg B) r i (ln r) e := cnv_mono (fun m' hm' i j hi hij hj => q3.ge G F (g.2.2.2 m' hm').1 (g.2.2.2 m' hm').2 hi hij (by omega))
        omega
      · rw [d3 _ (fun e' p4 p5 c => hk (by have := csp_inj k9 g.1 (by omega) (by omega) (by omega) (by omega) c; exact ⟨this.1, this.2.1⟩))]
        exact q3.2.2 k i e k9 k14 p0 p1 p2
    · dsimp only at p0 ⊢
      by_cases hne : r' = r
      · subst hne
        have h1 := d4 e p1 p2
        rw [c2 (ln r') e (Nat.le_refl _) p1 p2] at h1
        have h2 := hcm e p1 p2
        omega
      · exact Nat.le_trans (hle _) (q6 r' e (by omega) p1 p2)
    · dsimp only at hb ⊢
      rw [(d5 hb).2]
      exact q7 (d5 hb).1
    · dsimp only at hb ⊢
      rcases d6 hb with c | ⟨e, p1, p2, p3⟩
      · obtain ⟨x, hx1, hx2⟩ := q8 c
        exact ⟨x, hx1, Nat.lt_of_le_of_lt (hle x) hx2⟩
      · exact ⟨csp (hd r) a e, csp_lt g.2.1 (by omega) (by omega) g.1, Nat.lt_of_lt_of_le p3 (q5 _)⟩
    · dsimp only at d7 ⊢
      simp only [lp_X6_prices_43, nm]
      rw [if_neg (fun c => h ((nI_leI (by omega) (by omega)).mp c)), c3, ob, d7, of1, nI_add]
/-- where no rule can better anything at a, its prices are the least -/
theorem MI.stable (G : GW nr hd ln (rsy gs)) (F : Fix nr hd ln (rsy gs) n (lf24 sg) D) {a : Nat} {B : Nat → Nat} (h : MI n D a B) (hs : ∀ r e, r < nr → a ≤ e → e ≤ n → B (csp (hd r) a e) ≤ cnv (rsy gs) (mpr sg B) r a (ln r) e + 1) : ∀ k e, 9 ≤ k → k ≤ 14 → a ≤ e → e ≤ n → B (csp k a e) = D k a e := by
  have key : ∀ v, v < dINF → ∀ k e, 9 ≤ k → k ≤ 14 → a ≤ e → e ≤ n → D k a e = v → B (csp k a e) ≤ v := by
    intro v
    induction v using Nat.strongRecOn with
    | _ v ih =>
      intro hv k e k9 k14 p1 p2 hD
      rcases F.2.2.2 k a e k9 k14 p1 p2 with c | ⟨r, hr, hk, c⟩
      · omega
      · have g := G.2 r hr
        have h2 := hs r e hr p1 p2
        rw [hk] at h2
        have h3 : cnv (rsy gs) (mpr sg B) r a (ln r) e ≤ cnv (rsy gs) D r a (ln r) e := by
          refine cnv_below (v := v - 1) (by omega) (fun m' hm' i j hi hij hj hle => ?_) (by omega)
          have gm := g.2.2.2 m' hm'
          unfold mpr
          split
          · next h8 => rw [F.1 _ i j gm.1 h8 hij (by omega)]; exact Nat.le_refl _
          · next h8 =>
            by_cases ci : i = a
            · subst ci
              exact ih (D (rsy gs r m') i j) (by omega) (by omega) _ j (by omega) gm.2 hij (by omega) rfl
            · rw [h.2.1 _ i j (by omega) gm.2 (by omega) hij (by omega)]; exact Nat.le_refl _
        omega
  intro k e k9 k14 p1 p2
  have a1 := h.2.2 k a e k9 k14 (Nat.le_refl _) p1 p2
  have a2 := h.1 (csp k a e)
  by_cases c : D k a e < dINF
  · have := key _ c k e k9 k14 p1 p2 rfl
    omega
  · omega
theorem e_prices (G : GW nr hd ln (rsy gs)) (F : Fix nr hd ln (rsy gs) n (lf24 sg) D) (hn : n ≤ 16) (hsg : ∀ t, t < n → sg t ≤ 8) {B0 R0 : Nat → Nat} (hB : ∀ x, B0 x ≤ dINF) (hR : ∀ x, R0 x ≤ dINF) :
    ∃ B R : Nat → Nat, ((∀ x, B x ≤ dINF) ∧ (∀ x, R x ≤ dINF) ∧ ∀ k i j, 9 ≤ k → k ≤ 14 → i ≤ j → j ≤ n → B (csp k i j) = D k i j) ∧ f_X6_prices (nI nr) (nI n) (nA hd) (nA ln) (nA gs) (nA sg) (lA B0) (lA R0) = some (lA B, lA R) := by
  have hnr := G.1
  have hI := dINF_v
  have l35 : ∀ (a : Nat), a ≤ n → ∀ (k : Int32 → (Nat → Int64) → (Nat → Int64) → Option ((Nat → Int64) × (Nat → Int64))) N (t : Nat × (Nat → Nat) × (Nat → Nat)), sumR t.2.1 1734 + t.1 < N → (t.1 ≤ 1 ∧ MI n D a t.2.1 ∧ (∀ x, t.2.2 x ≤ dINF) ∧ (t.1 = 0 → ∀ k e, 9 ≤ k → k ≤ 14 → a ≤ e → e ≤ n → t.2.1 (csp k a e) = D k a e)) → ∃ B R : Nat → Nat, (MI n D a B ∧ (∀ x, R x ≤ dINF) ∧ ∀ k e, 9 ≤ k → k ≤ 14 → a ≤ e → e ≤ n → B (csp k a e) = D k a e) ∧ lp_X6_prices_35 (nI nr) (nI n) (nA hd) (nA ln) (nA gs) (nA sg) k N (nI a) (nI t.1) (lA t.2.1) (lA t.2.2) = k (nI a) (lA B) (lA R) := by
    intro a ha k
    refine loopE (fun N (t : Nat × (Nat → Nat) × (Nat → Nat)) => lp_X6_prices_35 (nI nr) (nI n) (nA hd) (nA ln) (nA gs) (nA sg) k N (nI a) (nI t.1) (lA t.2.1) (lA t.2.2)) (fun Q => ∃ B R : Nat → Nat, (MI n D a B ∧ (∀ x, R x ≤ dINF) ∧ ∀ k e, 9 ≤ k → k ≤ 14 → a ≤ e → e ≤ n → B (csp k a e) = D k a e) ∧ Q = k (nI a) (lA B) (lA R)) _ (fun t => sumR t.2.1 1734 + t.1) ?_
    rintro N ⟨b, B, R⟩ ⟨q1, q2, q3, q4⟩
    dsimp only at q1 q2 q3 q4 ⊢
    by_cases hb : b = 0
    · left
      refine ⟨B, R, ⟨q2, q3, q4 hb⟩, ?_⟩
      subst hb
      simp only [lp_X6_prices_35]
      rw [if_pos (show nI 0 = (0 : Int32) from rfl)]
    · right
      obtain ⟨b', B', R', ⟨c1, c2, c3, c4, c5, c6, c7⟩, c8⟩ := l_prices_43 G F hn hsg ha B (fun x1 x2 m_best m_row => lp_X6_prices_35 (nI nr) (nI n) (nA hd) (nA ln) (nA gs) (nA sg) k N x1 x2 m_best m_row) FU (0, 0, B, R) (FU_gt (by dsimp only; omega)) ⟨Nat.zero_le _, Nat.zero_le _, q2, q3, fun _ => Nat.le_refl _, fun r e p0 => by dsimp only at p0; omega, fun _ => rfl, fun hx => absurd rfl hx⟩
      refine ⟨(b', B', R'), ⟨c1, c2, c3, fun hb0 => ?_⟩, ?_, ?_⟩
      · dsimp only at hb0 ⊢
        refine c2.stable G F (fun r e p0 p1 p2 => ?_)
        have := c5 r e p0 p1 p2
        rw [← c6 hb0] at this
        exact this
      · dsimp only
        by_cases hb0 : b' = 0
        · have := sumR_le (f := B') (g := B) (n := 1734) (fun x _ => c4 x)
          omega
        · obtain ⟨x, hx1, hx2⟩ := c7 hb0
          have := sumR_lt (f := B') (g := B) (n := 1734) (fun x _ => c4 x) hx1 hx2
          omega
      · dsimp only at c8 ⊢
        simp only [lp_X6_prices_35, nm]
        rw [if_neg (show ¬ nI b = (0 : Int32) from fun c => hb ((nI_eq (a := b) (b := 0) (by omega) (by omega)).mp c)), show (0 : Int32) = nI 0 from rfl, c8]
  have hsum : ∀ B : Nat → Nat, (∀ x, B x ≤ dINF) → sumR B 1734 ≤ 1734 * dINF := by
    intro B hB
    have : ∀ m, sumR B m ≤ m * dINF := by
      intro m
      induction m with
      | zero => simp [sumR]
      | succ m ih =>
        rw [Nat.succ_mul]
        exact Nat.add_le_add ih (hB m)
    exact this 1734
  have l29 := loopE (fun N (t : Nat × (Nat → Nat) × (Nat → Nat)) => lp_X6_prices_29 (nI nr) (nI n) (nA hd) (nA ln) (nA gs) (nA sg) (fun m_best m_row => some (m_best, m_row)) N (dn t.1) (lA t.2.1) (lA t.2.2)) (fun Q => ∃ B R : Nat → Nat, ((∀ x, B x ≤ dINF) ∧ (∀ x, R x ≤ dINF) ∧ ∀ k i j, 9 ≤ k → k ≤ 14 → i ≤ j → j ≤ n → B (csp k i j) = D k i j) ∧ Q = some (lA B, lA R)) (fun t => t.1 ≤ n + 1 ∧ (∀ x, t.2.1 x ≤ dINF) ∧ (∀ x, t.2.2 x ≤ dINF) ∧ (∀ k i j, 9 ≤ k → k ≤ 14 → t.1 ≤ i → i ≤ j → j ≤ n → t.2.1 (csp k i j) = D k i j) ∧ ∀ k i j, 9 ≤ k → k ≤ 14 → i < t.1 → i ≤ j → j ≤ n → D k i j ≤ t.2.1 (csp k i j)) (fun t => t.1) (by
    rintro N ⟨a, B, R⟩ ⟨q1, q2, q3, q4, q5⟩
    dsimp only at q1 q2 q3 q4 q5 ⊢
    cases a with
    | zero =>
      left
      refine ⟨B, R, ⟨q2, q3, fun k i j k9 k14 p1 p2 => q4 k i j k9 k14 (Nat.zero_le _) p1 p2⟩, ?_⟩
      simp only [lp_X6_prices_29]
      rw [if_pos dn_0]
    | succ a =>
      right
      have hs := hsum B q2
      obtain ⟨B', R', ⟨c1, c2, c3⟩, c4⟩ := l35 a (by omega) (fun x1 m_best m_row => lp_X6_prices_29 (nI nr) (nI n) (nA hd) (nA ln) (nA gs) (nA sg) (fun m_best m_row => some (m_best, m_row)) N (x1 + Int32.ofInt (-1)) m_best m_row) FU (1, B, R) (FU_gt (by dsimp only; omega)) ⟨Nat.le_refl _, ⟨q2, fun k i j k9 k14 p1 p2 p3 => q4 k i j k9 k14 (by omega) p2 p3, fun k i e k9 k14 p0 p1 p2 => q5 k i e k9 k14 (by omega) p1 p2⟩, q3, fun hx => absurd (show (1 : Nat) = 0 from hx) (by decide)⟩
      refine ⟨(a, B', R'), ⟨by dsimp only; omega, c1.1, c2, fun k i j k9 k14 p0 p1 p2 => ?_, fun k i j k9 k14 p0 p1 p2 => c1.2.2 k i j k9 k14 (by dsimp only at p0; omega) p1 p2⟩, by dsimp only; omega, ?_⟩
      · dsimp only at p0 ⊢
        by_cases e1 : i = a
        · subst e1; exact c3 k j k9 k14 p1 p2
        · exact c1.2.1 k i j k9 k14 (by omega) p1 p2
      · dsimp only at c4 ⊢
        rw [dn_s]
        simp only [lp_X6_prices_29, nm]
        rw [if_neg (nI_pos (by omega)), i1, c4, dn_next])
  have l2 := loopE (fun N (t : Nat × (Nat → Nat)) => lp_X6_prices_2 (nI nr) (nI n) (nA hd) (nA ln) (nA gs) (nA sg) (fun m_best m_row => lp_X6_prices_29 (nI nr) (nI n) (nA hd) (nA ln) (nA gs) (nA sg) (fun m_best m_row => some (m_best, m_row)) FU (nI n) m_best m_row) N (nI t.1) (lA t.2) (lA R0)) (fun Q => ∃ B R : Nat → Nat, ((∀ x, B x ≤ dINF) ∧ (∀ x, R x ≤ dINF) ∧ ∀ k i j, 9 ≤ k → k ≤ 14 → i ≤ j → j ≤ n → B (csp k i j) = D k i j) ∧ Q = some (lA B, lA R)) (fun t => t.1 ≤ 1734 ∧ (∀ x, t.2 x ≤ dINF) ∧ ∀ x, x < t.1 → t.2 x = dINF) (fun t => 1734 - t.1) (by
    rintro N ⟨x, B⟩ ⟨q1, q2, q3⟩
    dsimp only at q1 q2 q3 ⊢
    by_cases h : 1734 ≤ x
    · left
      have := l29 FU (n + 1, B, R0) (FU_gt (by dsimp only; omega)) ⟨Nat.le_refl _, q2, hR, fun k i j k9 k14 p0 p1 p2 => by dsimp only at p0; omega, fun k i j k9 k14 p0 p1 p2 => by
        dsimp only
        rw [q3 _ (by have := csp_lt k14 (show i ≤ 16 by omega) (show j ≤ 16 by omega) k9; omega)]
        exact F.2.1 k i j k9 k14 p1 p2⟩
      simp only [lp_X6_prices_2]
      rw [if_pos (show (1734 : Int32) ≤ nI x from (nI_leI (a := 1734) (by omega) (by omega)).mpr h)]
      dsimp only at this
      rw [dn_s] at this
      exact this
    · right
      refine ⟨(x + 1, updN B x dINF), ⟨by dsimp only; omega, fun y => ?_, fun y hy => ?_⟩, by dsimp only; omega, ?_⟩
      · dsimp only
        unfold updN
        split
        · exact Nat.le_refl _
        · exact q2 y
      · dsimp only at hy ⊢
        unfold updN
        split
        · rfl
        · exact q3 y (by omega)
      · dsimp only
        simp only [lp_X6_prices_2, nm]
        rw [if_neg (show ¬ (1734 : Int32) ≤ nI x from fun c => h ((nI_leI (a := 1734) (by omega) (by omega)).mp c)), dINF_l, wr_lA (by omega) (by omega), ob, of1, nI_add])
  obtain ⟨B, R, c1, c2⟩ := l2 FU (0, B0) (FU_gt (by dsimp only; omega)) ⟨Nat.zero_le _, hB, fun x hx => by dsimp only at hx; omega⟩
  refine ⟨B, R, c1, ?_⟩
  unfold f_X6_prices
  simp only [nm]
  exact c2
end MPRICES
