/-! the reference's fill -/
def lf24 (sg : Nat → Nat) (s i j : Nat) : Nat := lfc sg s i j * 16777216
/-- the reference's prices, out of its row of the kinds' -/
def mpr (sg B : Nat → Nat) (s i j : Nat) : Nat := if s ≤ 8 then lf24 sg s i j else B (csp s i j)
theorem mpr_le {sg B : Nat → Nat} {s i j n : Nat} (hj : j ≤ n) (hn : n ≤ 16) (hB : ∀ x, B x ≤ dINF) : mpr sg B s i j ≤ dINF := by
  have hI := dINF_v
  have := lfc_le (sg := sg) (s := s) (i := i) hj hn
  unfold mpr
  split
  · unfold lf24; omega
  · exact hB _
theorem lgc_lt0 {a b : Nat} (ha : a < 2 ^ 63) (hb : b < 2 ^ 63) : lg_cmp (lN a) (lN b) < 0 ↔ a < b := by
  unfold lg_cmp
  by_cases h1 : b < a
  · rw [if_pos (show lN a > lN b from (pk_lLT hb ha).mpr h1)]
    exact ⟨fun c => absurd c (by decide), fun _ => by omega⟩
  · rw [if_neg (fun c : lN a > lN b => h1 ((pk_lLT hb ha).mp c))]
    by_cases h2 : a = b
    · rw [if_pos (by rw [h2])]
      exact ⟨fun c => absurd c (by decide), fun c => by omega⟩
    · rw [if_neg (fun c => h2 ((pk_lEQ ha hb).mp c))]
      exact ⟨fun _ => by omega, fun _ => by decide⟩
/-- sum, as it stands -/
noncomputable def msum (a b : Nat) : Nat := if dINF ≤ a ∨ dINF ≤ b then dINF else a + b
theorem e_sum {a b : Nat} (ha : a ≤ dINF) (hb : b ≤ dINF) : f_X6_sum (lN a) (lN b) = some (lN (msum a b)) := by
  have hI := dINF_v
  unfold f_X6_sum msum jn_X6_sum_16 jn_X6_sum_25
  rw [dINF_l]
  by_cases h1 : dINF ≤ a
  · rw [if_pos ((lgc_ge (by omega) (by omega)).mpr h1), if_pos (Or.inl h1)]
  · rw [if_neg (fun c => h1 ((lgc_ge (by omega) (by omega)).mp c))]
    by_cases h2 : dINF ≤ b
    · rw [if_neg (fun c => (show ¬ b < dINF by omega) ((lgc_lt0 (by omega) (by omega)).mp c)), if_pos (Or.inr h2)]
    · rw [if_pos ((lgc_lt0 (by omega) (by omega)).mpr (by omega)), if_neg (by omega), lN_add]
theorem msum_le {a b : Nat} (ha : a ≤ dINF) (hb : b ≤ dINF) : msum a b ≤ a + b ∧ msum a b < 2 ^ 62 := by
  have hI := dINF_v
  unfold msum
  split <;> omega
theorem msum_min {l a b : Nat} (hl : l ≤ dINF) : min l (msum a b) = min l (a + b) := by
  unfold msum
  split <;> omega
theorem mul24 {v : Nat} : (16777216 : Int64) * lN v = lN (v * 16777216) := by
  rw [show (16777216 : Int64) = lN 16777216 from rfl, lN_mul, Nat.mul_comm]
theorem e_price {sg B : Nat → Nat} {s i j n : Nat} (h1 : 1 ≤ s) (h14 : s ≤ 14) (hij : i ≤ j) (hj : j ≤ n) (hn : n ≤ 16) (hsg : ∀ t, t < n → sg t ≤ 8) : f_X6_price (nI s) (nI i) (nI j) (nA sg) (lA B) = some (lN (mpr sg B s i j)) := by
  unfold f_X6_price mpr jn_X6_price_65
  by_cases h8 : s ≤ 8
  · rw [if_pos (show nI s ≤ (8 : Int32) from (nI_leI (b := 8) (by omega) (by omega)).mpr h8), if_pos h8]
    unfold lf24 lfc
    by_cases he : i = j
    · rw [if_pos (by rw [he]), if_pos he]
      rfl
    · have hs3 := hsg (j - 1) (by omega)
      rw [if_neg (fun c => he ((nI_eq (by omega) (by omega)).mp c)), if_neg he, i1, nI_sub (show 1 ≤ j by omega), rd_nA (by omega) (by omega), ob, nI_sub (show i ≤ j - 1 by omega), nI_l (by omega), mul24]
      have e1 : j - 1 - i = j - i - 1 := by omega
      by_cases hs : sg (j - 1) = s
      · rw [if_pos (by rw [hs]), if_pos hs, show (0 : Int64) = lN 0 from rfl, lN_add, e1, Nat.add_zero, Nat.add_zero]
      · rw [if_neg (fun c => hs ((nI_eq (by omega) (by omega)).mp c)), if_neg hs, show (16777216 : Int64) = lN 16777216 from rfl, lN_add, e1, Nat.add_mul, Nat.one_mul]
  · rw [if_neg (show ¬ nI s ≤ (8 : Int32) from fun c => h8 ((nI_leI (b := 8) (by omega) (by omega)).mp c)), if_neg h8, show (289 : Int32) = nI 289 from rfl, show (9 : Int32) = nI 9 from rfl, i17, nI_sub (show 9 ≤ s by omega), nI_mul, nI_mul, nI_add, nI_add]
    have e1 : 289 * (s - 9) + 17 * i + j = csp s i j := by unfold csp; omega
    rw [e1, rd_lA (csp_lt h14 (by omega) (by omega) (by omega)) (by omega), ob]
theorem lmin_ge {a b : Nat} {β : Type} {A : Int64 → β} (ha : a < 2 ^ 63) (hb : b < 2 ^ 63) : (if 0 ≤ lg_cmp (lN b) (lN a) then A (lN a) else A (lN b)) = A (lN (min a b)) := by
  by_cases h : a ≤ b
  · rw [if_pos ((lgc_ge hb ha).mpr h), Nat.min_eq_left h]
  · rw [if_neg (fun c => h ((lgc_ge hb ha).mp c)), Nat.min_eq_right (by omega)]
section MFILL
variable {nr : Nat} {hd gs ln sg B : Nat → Nat} {n : Nat}
theorem e_mfill (G : GW nr hd ln (rsy gs)) (hn : n ≤ 16) (hsg : ∀ t, t < n → sg t ≤ 8) (hB : ∀ x, B x ≤ dINF) {r a : Nat} (hr : r < nr) (ha : a ≤ n) {R0 : Nat → Nat} (hR : ∀ x, R0 x ≤ dINF) :
    ∃ R : Nat → Nat, ((∀ x, R x ≤ dINF) ∧ ∀ m e, m ≤ ln r → a ≤ e → e ≤ n → R (17 * m + e) = cnv (rsy gs) (mpr sg B) r a m e) ∧ f_X6_fill (nI r) (nI a) (nI n) (nA ln) (nA gs) (nA sg) (lA B) (lA R0) = some (lA R) := by
  have g := G.2 r hr
  have hnr := G.1
  have hI := dINF_v
  have l80 : ∀ (m e : Nat) (R : Nat → Nat), m < ln r → a ≤ e → e ≤ n → (∀ x, R x ≤ dINF) → ∀ (k : Int32 → Int32 → Int32 → Int32 → Int32 → Int64 → (Nat → Int64) → Option (Nat → Int64)) N (t : Nat), e + 1 - a - t < N → t ≤ e + 1 - a → lp_X6_fill_80 (nI n) (nA ln) (nA gs) (nA sg) (lA B) k N (nI r) (nI a) (nI (m + 1)) (nI (rsy gs r m)) (nI e) (lN (mnr (fun b => R (17 * m + b) + mpr sg B (rsy gs r m) b e) a t)) (nI (a + t)) (lA R) = k (nI r) (nI a) (nI (m + 1)) (nI (rsy gs r m)) (nI e) (lN (mnr (fun b => R (17 * m + b) + mpr sg B (rsy gs r m) b e) a (e + 1 - a))) (lA R) := by
    intro m e R hm hae hen hRb k
    refine loopE (fun N t => lp_X6_fill_80 (nI n) (nA ln) (nA gs) (nA sg) (lA B) k N (nI r) (nI a) (nI (m + 1)) (nI (rsy gs r m)) (nI e) (lN (mnr (fun b => R (17 * m + b) + mpr sg B (rsy gs r m) b e) a t)) (nI (a + t)) (lA R)) (fun Q => Q = k (nI r) (nI a) (nI (m + 1)) (nI (rsy gs r m)) (nI e) (lN (mnr (fun b => R (17 * m + b) + mpr sg B (rsy gs r m) b e) a (e + 1 - a))) (lA R)) (fun t => t ≤ e + 1 - a) (fun t => e + 1 - a - t) ?_
    intro N t ht
    have gm := g.2.2.2 m hm
    by_cases h : e < a + t
    · left
      have e1 : t = e + 1 - a := by omega
      subst e1
      simp only [lp_X6_fill_80]
      rw [if_pos ((nI_ltI (by omega) (by omega)).mpr h)]
    · right
      refine ⟨t + 1, by omega, by omega, ?_⟩
      simp only [lp_X6_fill_80, jn_X6_fill_131, nm]
      have b1 := hRb (17 * m + (a + t))
      have b2 := mpr_le (sg := sg) (B := B) (s := rsy gs r m) (i := a + t) hen hn hB
      have b3 := mnr_inf (fun b => R (17 * m + b) + mpr sg B (rsy gs r m) b e) a t
      have b4 := msum_le b1 b2
      rw [if_neg (fun c => h ((nI_ltI (by omega) (by omega)).mp c)), i17, i1, nI_sub (show 1 ≤ m + 1 by omega), Nat.add_sub_cancel, nI_mul, nI_add, rd_lA (by omega) (by omega), ob, e_price gm.1 gm.2 (by omega) hen hn hsg, ob, e_sum b1 b2, ob]
      rw [lmin_ge (A := fun v => lp_X6_fill_80 (nI n) (nA ln) (nA gs) (nA sg) (lA B) k N (nI r) (nI a) (nI (m + 1)) (nI (rsy gs r m)) (nI e) v (nI (a + t) + Int32.ofInt 1) (lA R)) (by omega) (by omega), msum_min b3, of1, nI_add]
      rfl
  have l63 : ∀ (m : Nat) (R1 : Nat → Nat), m < ln r → (∀ e, a ≤ e → e ≤ n → R1 (17 * m + e) = cnv (rsy gs) (mpr sg B) r a m e) → ∀ (k : Int32 → Int32 → Int32 → (Nat → Int64) → Option (Nat → Int64)) N (t : Nat × (Nat → Nat)), n + 1 - t.1 < N → (a ≤ t.1 ∧ t.1 ≤ n + 1 ∧ (∀ x, t.2 x ≤ dINF) ∧ (∀ x, x < 17 * (m + 1) → t.2 x = R1 x) ∧ ∀ e, a ≤ e → e < t.1 → t.2 (17 * (m + 1) + e) = cnv (rsy gs) (mpr sg B) r a (m + 1) e) →
      ∃ R : Nat → Nat, ((∀ x, R x ≤ dINF) ∧ (∀ x, x < 17 * (m + 1) → R x = R1 x) ∧ ∀ e, a ≤ e → e ≤ n → R (17 * (m + 1) + e) = cnv (rsy gs) (mpr sg B) r a (m + 1) e) ∧ lp_X6_fill_63 (nI n) (nA ln) (nA gs) (nA sg) (lA B) k N (nI r) (nI a) (nI (m + 1)) (nI (rsy gs r m)) (nI t.1) (lA t.2) = k (nI r) (nI a) (nI (m + 1)) (lA R) := by
    intro m R1 hm hR1 k
    refine loopE (fun N (t : Nat × (Nat → Nat)) => lp_X6_fill_63 (nI n) (nA ln) (nA gs) (nA sg) (lA B) k N (nI r) (nI a) (nI (m + 1)) (nI (rsy gs r m)) (nI t.1) (lA t.2)) (fun Q => ∃ R : Nat → Nat, ((∀ x, R x ≤ dINF) ∧ (∀ x, x < 17 * (m + 1) → R x = R1 x) ∧ ∀ e, a ≤ e → e ≤ n → R (17 * (m + 1) + e) = cnv (rsy gs) (mpr sg B) r a (m + 1) e) ∧ Q = k (nI r) (nI a) (nI (m + 1)) (lA R)) (fun t => a ≤ t.1 ∧ t.1 ≤ n + 1 ∧ (∀ x, t.2 x ≤ dINF) ∧ (∀ x, x < 17 * (m + 1) → t.2 x = R1 x) ∧ ∀ e, a ≤ e → e < t.1 → t.2 (17 * (m + 1) + e) = cnv (rsy gs) (mpr sg B) r a (m + 1) e) (fun t => n + 1 - t.1) ?_
    rintro N ⟨e, R⟩ ⟨q1, q2, q3, q4, q5⟩
    dsimp only at q1 q2 q3 q4 q5 ⊢
    by_cases h : n < e
    · left
      have e1 : e = n + 1 := by omega
      subst e1
      refine ⟨R, ⟨q3, q4, fun e p1 p2 => q5 e p1 (by omega)⟩, ?_⟩
      simp only [lp_X6_fill_63]
      rw [if_pos ((nI_ltI (by omega) (by omega)).mpr h)]
    · right
      have hv : mnr (fun b => R (17 * m + b) + mpr sg B (rsy gs r m) b e) a (e + 1 - a) = cnv (rsy gs) (mpr sg B) r a (m + 1) e := by
        refine mnr_congr (fun t ht => ?_)
        show R _ + _ = _ + _
        rw [q4 _ (by omega), hR1 (a + t) (by omega) (by omega)]
      refine ⟨(e + 1, updN R (17 * (m + 1) + e) (cnv (rsy gs) (mpr sg B) r a (m + 1) e)), ⟨by dsimp only; omega, by dsimp only; omega, fun x => ?_, fun x hx => ?_, fun e' p1 p2 => ?_⟩, by dsimp only; omega, ?_⟩
      · dsimp only
        unfold updN
        split
        · exact cnv_inf
        · exact q3 x
      · dsimp only
        rw [updN_n (by omega)]
        exact q4 x hx
      · dsimp only at p2 ⊢
        by_cases e1 : e' = e
        · subst e1; exact updN_s
        · rw [updN_n (by omega)]
          exact q5 e' p1 (by omega)
      · dsimp only
        simp only [lp_X6_fill_63, nm]
        have c := l80 m e R hm q1 (by omega) q3 (fun x1 x2 x3 x4 x5 x6 m_row => (wrL m_row 102 (17 * x3 + x5) x6).bind fun m_row_17 => lp_X6_fill_63 (nI n) (nA ln) (nA gs) (nA sg) (lA B) k N x1 x2 x3 x4 (x5 + Int32.ofInt 1) m_row_17) FU 0 (FU_gt (by omega)) (Nat.zero_le _)
        rw [hv] at c
        rw [if_neg (fun c => h ((nI_ltI (by omega) (by omega)).mp c)), dINF_l]
        refine Eq.trans c ?_
        rw [i17, nI_mul, nI_add, wr_lA (by omega) (by omega), ob, of1, nI_add]
  have l36 := loopE (fun N (t : Nat × (Nat → Nat)) => lp_X6_fill_36 (nI n) (nA ln) (nA gs) (nA sg) (lA B) (fun m_row => some m_row) N (nI r) (nI a) (nI (t.1 + 1)) (lA t.2)) (fun Q => ∃ R : Nat → Nat, ((∀ x, R x ≤ dINF) ∧ ∀ m e, m ≤ ln r → a ≤ e → e ≤ n → R (17 * m + e) = cnv (rsy gs) (mpr sg B) r a m e) ∧ Q = some (lA R)) (fun t => t.1 ≤ ln r ∧ (∀ x, t.2 x ≤ dINF) ∧ ∀ m e, m ≤ t.1 → a ≤ e → e ≤ n → t.2 (17 * m + e) = cnv (rsy gs) (mpr sg B) r a m e) (fun t => ln r - t.1) (by
    rintro N ⟨m, R⟩ ⟨q1, q2, q3⟩
    dsimp only at q1 q2 q3 ⊢
    by_cases h : ln r < m + 1
    · left
      have e1 : m = ln r := by omega
      subst e1
      refine ⟨R, ⟨q2, q3⟩, ?_⟩
      simp only [lp_X6_fill_36]
      rw [rd_nA (by omega) (by omega), ob, if_pos ((nI_ltI (by omega) (by omega)).mpr h)]
    · right
      obtain ⟨R', ⟨c1, c2, c3⟩, c4⟩ := l63 m R (by omega) (fun e p1 p2 => q3 m e (Nat.le_refl _) p1 p2) (fun x1 x2 x3 m_row => lp_X6_fill_36 (nI n) (nA ln) (nA gs) (nA sg) (lA B) (fun m_row => some m_row) N x1 x2 (x3 + Int32.ofInt 1) m_row) FU (a, R) (FU_gt (by dsimp only; omega)) ⟨Nat.le_refl _, by dsimp only; omega, q2, fun _ _ => rfl, fun e p1 p2 => by dsimp only at p2; omega⟩
      refine ⟨(m + 1, R'), ⟨by dsimp only; omega, c1, fun m' e p0 p1 p2 => ?_⟩, by dsimp only; omega, ?_⟩
      · dsimp only at p0 ⊢
        by_cases e1 : m' = m + 1
        · subst e1; exact c3 e p1 p2
        · rw [c2 _ (by omega)]
          exact q3 m' e (by omega) p1 p2
      · dsimp only at c4 ⊢
        simp only [lp_X6_fill_36, nm]
        rw [rd_nA (by omega) (by omega), ob, if_neg (fun c => h ((nI_ltI (by omega) (by omega)).mp c)), show (5 : Int32) = nI 5 from rfl, i1, nI_mul, nI_add, nI_sub (show 1 ≤ 5 * r + (m + 1) by omega), rd_nA (by omega) (by omega), ob]
        have e2 : 5 * r + (m + 1) - 1 = r * 5 + m := by omega
        rw [e2]
        refine Eq.trans c4 ?_
        rw [of1, nI_add])
  have l2 := loopE (fun N (t : Nat × (Nat → Nat)) => lp_X6_fill_2 (nI n) (nA ln) (nA gs) (nA sg) (lA B) (fun x1 x2 m_row => lp_X6_fill_36 (nI n) (nA ln) (nA gs) (nA sg) (lA B) (fun m_row => some m_row) FU x1 x2 1 m_row) N (nI r) (nI a) (nI t.1) (lA t.2)) (fun Q => ∃ R : Nat → Nat, ((∀ x, R x ≤ dINF) ∧ ∀ m e, m ≤ ln r → a ≤ e → e ≤ n → R (17 * m + e) = cnv (rsy gs) (mpr sg B) r a m e) ∧ Q = some (lA R)) (fun t => a ≤ t.1 ∧ t.1 ≤ n + 1 ∧ (∀ x, t.2 x ≤ dINF) ∧ ∀ e, a ≤ e → e < t.1 → t.2 e = if a = e then 0 else dINF) (fun t => n + 1 - t.1) (by
    rintro N ⟨e, R⟩ ⟨q1, q2, q3, q4⟩
    dsimp only at q1 q2 q3 q4 ⊢
    by_cases h : n < e
    · left
      have := l36 FU (0, R) (FU_gt (by dsimp only; omega)) ⟨Nat.zero_le _, q3, fun m e' p0 p1 p2 => by
        have e0 : m = 0 := by dsimp only at p0; omega
        subst e0
        dsimp only
        rw [Nat.mul_zero, Nat.zero_add, q4 e' p1 (by omega)]
        rfl⟩
      simp only [lp_X6_fill_2]
      rw [if_pos ((nI_ltI (by omega) (by omega)).mpr h)]
      exact this
    · right
      refine ⟨(e + 1, updN R e (if a = e then 0 else dINF)), ⟨by dsimp only; omega, by dsimp only; omega, fun x => ?_, fun e' p1 p2 => ?_⟩, by dsimp only; omega, ?_⟩
      · dsimp only
        unfold updN
        split
        · split
          · exact Nat.zero_le _
          · exact Nat.le_refl _
        · exact q3 x
      · dsimp only at p2 ⊢
        by_cases e1 : e' = e
        · subst e1; exact updN_s
        · rw [updN_n e1]
          exact q4 e' p1 (by omega)
      · dsimp only
        simp only [lp_X6_fill_2, jn_X6_fill_27, nm]
        rw [if_neg (fun c => h ((nI_ltI (by omega) (by omega)).mp c))]
        by_cases hae : a = e
        · rw [if_pos (by rw [hae]), if_pos hae, show (0 : Int64) = lN 0 from rfl, wr_lA (by omega) (by omega), ob, of1, nI_add]
        · rw [if_neg (fun c => hae ((nI_eq (by omega) (by omega)).mp c).symm), if_neg hae, dINF_l, wr_lA (by omega) (by omega), ob, of1, nI_add])
  have fin := l2 FU (a, R0) (FU_gt (by dsimp only; omega)) ⟨Nat.le_refl _, by dsimp only; omega, hR, fun e p1 p2 => by dsimp only at p2; omega⟩
  obtain ⟨R, c1, c2⟩ := fin
  refine ⟨R, c1, ?_⟩
  unfold f_X6_fill
  simp only [nm]
  exact c2
end MFILL
