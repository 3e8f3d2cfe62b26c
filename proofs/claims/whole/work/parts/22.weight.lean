/-! how large the least prices are: cost and count together stay below 2 ^ 24 -/
def wt (v : Nat) : Nat := v / 4294967296 + v % 4294967296
theorem wt_add (a b : Nat) : wt (a + b) ≤ wt a + wt b := by unfold wt; omega
theorem wt_1 (a : Nat) : wt (a + 1) ≤ wt a + 1 := by unfold wt; omega
theorem wt_lf {sg : Nat → Nat} {s i j : Nat} : wt (lf32 sg s i j) = lfc sg s i j := by unfold wt lf32; omega
theorem wt_0 : wt 0 = 0 := by decide
def eb : Nat → Nat
  | 0 => 6
  | t + 1 => 5 * eb t + 1
theorem eb_mono {a b : Nat} (h : a ≤ b) : eb a ≤ eb b := by
  induction b with
  | zero => rw [show a = 0 by omega]; exact Nat.le_refl _
  | succ b ih =>
    by_cases c : a = b + 1
    · rw [c]; exact Nat.le_refl _
    · have := ih (by omega)
      show _ ≤ 5 * eb b + 1
      omega
theorem eb_5 : eb 5 = 19531 := by decide
theorem lfc_len {sg : Nat → Nat} {s i j : Nat} (h : i < j) : lfc sg s i j ≤ j - i := by
  unfold lfc
  rw [if_neg (by omega)]
  split <;> omega
theorem lfc_0 {sg : Nat → Nat} {s i : Nat} : lfc sg s i i = 1 := by unfold lfc; rw [if_pos rfl]
section WEIGHT
variable {nr : Nat} {hd ln sg : Nat → Nat} {sy : Nat → Nat → Nat} {n : Nat} {D : Nat → Nat → Nat → Nat}
/-- at an empty span -/
theorem wcnv0 {r i m V e : Nat} (hV : V < dINF) (hs : ∀ m', m' < m → D (sy r m') i i ≤ V → wt (D (sy r m') i i) ≤ e) (hc : cnv sy D r i m i ≤ V) : wt (cnv sy D r i m i) ≤ m * e := by
  induction m with
  | zero =>
    show wt (if i = i then 0 else dINF) ≤ _
    rw [if_pos rfl, wt_0]
    exact Nat.zero_le _
  | succ m ih =>
    rcases cnv_at (sy := sy) (p := D) (r := r) (a := i) (m := m) (e := i) with h | ⟨b, h1, h2, h3⟩
    · omega
    · have hb : b = i := by omega
      subst hb
      have a1 := ih (fun m' hm' => hs m' (by omega)) (by omega)
      have a2 := hs m (by omega) (by omega)
      have a3 := wt_add (cnv sy D r b m b) (D (sy r m) b b)
      rw [h3, Nat.succ_mul]
      omega
theorem wcnv {r i j m b V M : Nat} (hij : i < j) (hV : V < dINF)
    (H0 : ∀ m', m' < m → ∀ b, i ≤ b → b ≤ j → D (sy r m') b b < dINF → wt (D (sy r m') b b) ≤ 19531)
    (H1 : ∀ m', m' < m → ∀ b b', i ≤ b → b < b' → b' ≤ j → ¬ (b = i ∧ b' = j) → D (sy r m') b b' < dINF → wt (D (sy r m') b b') + 449219 ≤ 917970 * (b' - b))
    (HM : ∀ m', m' < m → D (sy r m') i j ≤ V → wt (D (sy r m') i j) ≤ M)
    (hb1 : i ≤ b) (hb2 : b ≤ j) (hc : cnv sy D r i m b ≤ V) :
    (b = i → wt (cnv sy D r i m b) ≤ m * 19531) ∧ (i < b → b < j → wt (cnv sy D r i m b) + 449219 + 19531 ≤ m * 19531 + 917970 * (b - i)) ∧ (b = j → wt (cnv sy D r i m b) + 19531 ≤ m * 19531 + M ∨ wt (cnv sy D r i m b) + 2 * 449219 + 2 * 19531 ≤ m * 19531 + 917970 * (j - i)) := by
  induction m generalizing b with
  | zero =>
    have h : cnv sy D r i 0 b = if i = b then 0 else dINF := rfl
    by_cases c : i = b
    · rw [h, if_pos c, wt_0]
      refine ⟨fun _ => Nat.zero_le _, fun h1 _ => by omega, fun h1 => by omega⟩
    · rw [h, if_neg c] at hc
      omega
  | succ m ih =>
    rcases cnv_at (sy := sy) (p := D) (r := r) (a := i) (m := m) (e := b) with h | ⟨b', h1, h2, h3⟩
    · omega
    · have a1 := ih (b := b') (fun m' hm' => H0 m' (by omega)) (fun m' hm' => H1 m' (by omega)) (fun m' hm' => HM m' (by omega)) h1 (by omega) (by omega)
      have a3 := wt_add (cnv sy D r i m b') (D (sy r m) b' b)
      have a4 : b' = b → wt (D (sy r m) b' b) ≤ 19531 := fun c => by
        subst c
        exact H0 m (by omega) b' h1 hb2 (by omega)
      have a5 : b' < b → ¬ (b' = i ∧ b = j) → wt (D (sy r m) b' b) + 449219 ≤ 917970 * (b - b') := fun c1 c2 => H1 m (by omega) b' b h1 c1 hb2 c2 (by omega)
      have a6 : b' = i ∧ b = j → wt (D (sy r m) b' b) ≤ M := fun c => by
        obtain ⟨rfl, rfl⟩ := c
        exact HM m (by omega) (by omega)
      rw [h3, Nat.succ_mul]
      obtain ⟨p1, p2, p3⟩ := a1
      refine ⟨fun c => ?_, fun c1 c2 => ?_, fun c => ?_⟩
      · have q1 := p1 (by omega)
        have q2 := a4 (by omega)
        omega
      · by_cases e1 : b' = i
        · have q1 := p1 e1
          have q2 := a5 (by omega) (by omega)
          have e2 : b - b' = b - i := by omega
          rw [e2] at q2
          omega
        · by_cases e2 : b' = b
          · have q1 := p2 (by omega) (by omega)
            have q2 := a4 e2
            have e3 : b' - i = b - i := by omega
            rw [e3] at q1
            omega
          · have q1 := p2 (by omega) (by omega)
            have q2 := a5 (by omega) (by omega)
            omega
      · by_cases e1 : b' = i
        · have q1 := p1 e1
          have q2 := a6 ⟨e1, c⟩
          left
          omega
        · by_cases e2 : b' = b
          · have q2 := a4 e2
            rcases p3 (by omega) with q1 | q1
            · left; omega
            · right; omega
          · have q1 := p2 (by omega) (by omega)
            have q2 := a5 (by omega) (by omega)
            right
            omega
/-- the weights of all least prices -/
theorem wt_bound (G : GW nr hd ln sy) (F : Fix nr hd ln sy n (lf32 sg) D) : ∀ L i j, j - i = L → i ≤ j → j ≤ n → ∀ t k, 9 ≤ k → k ≤ 14 → rnk D i j k = t → D k i j < dINF →
    (L = 0 → wt (D k i j) ≤ eb t) ∧ (0 < L → wt (D k i j) + 449219 + (5 - t) * 78125 ≤ 917970 * L) := by
  intro L
  induction L using Nat.strongRecOn with
  | _ L ihL =>
    intro i j hL hij hjn t
    induction t using Nat.strongRecOn with
    | _ t iht =>
      intro k k9 k14 hk hf
      have ht6 := rnk_6 (D := D) (a := i) (e := j) k9 k14
      rcases F.2.2.2 k i j k9 k14 hij hjn with c | ⟨r, hr, hkr, c⟩
      · omega
      · have g := G.2 r hr
        have hl := g.2.2.1
        have w1 := wt_1 (cnv sy D r i (ln r) j)
        rw [← c] at w1
        refine ⟨fun h0 => ?_, fun h0 => ?_⟩
        · have hj : j = i := by omega
          subst hj
          have hw := wcnv0 (sy := sy) (D := D) (r := r) (i := j) (m := ln r) (V := cnv sy D r j (ln r) j) (e := if t = 0 then 1 else eb (t - 1)) (by omega) (fun m' hm' hle => by
            have gm := g.2.2.2 m' hm'
            by_cases h8 : sy r m' ≤ 8
            · rw [F.1 _ j j gm.1 h8 (Nat.le_refl _) hjn, wt_lf, lfc_0]
              split
              · exact Nat.le_refl _
              · have := eb_mono (Nat.zero_le (t - 1))
                rw [show eb 0 = 6 from rfl] at this
                omega
            · have hrk := rnk_lt (D := D) (a := j) (e := j) (k := k) (k' := sy r m') (by omega) gm.2 (by omega)
              rw [hk] at hrk
              have h9 := (iht _ hrk (sy r m') (by omega) gm.2 rfl (by omega)).1 h0
              rw [if_neg (by omega)]
              exact Nat.le_trans h9 (eb_mono (by omega))) (Nat.le_refl _)
          cases t with
          | zero =>
            rw [if_pos rfl] at hw
            rw [show eb 0 = 6 from rfl]
            omega
          | succ t =>
            rw [if_neg (by omega), Nat.add_sub_cancel] at hw
            have h5 : ln r * eb t ≤ 5 * eb t := Nat.mul_le_mul_right _ hl
            show _ ≤ 5 * eb t + 1
            omega
        · have hlt : i < j := by omega
          have hw := wcnv (sy := sy) (D := D) (r := r) (i := i) (j := j) (m := ln r) (b := j) (V := cnv sy D r i (ln r) j) (M := if t = 0 then L else 917970 * L - 449219 - (5 - (t - 1)) * 78125) hlt (by omega)
            (fun m' hm' b p1 p2 hfb => by
              have gm := g.2.2.2 m' hm'
              by_cases h8 : sy r m' ≤ 8
              · rw [F.1 _ b b gm.1 h8 (Nat.le_refl _) (by omega), wt_lf, lfc_0]; omega
              · have h9 := (ihL 0 (by omega) b b (by omega) (Nat.le_refl _) (by omega) _ (sy r m') (by omega) gm.2 rfl hfb).1 rfl
                have h10 := rnk_6 (D := D) (a := b) (e := b) (k := sy r m') (by omega) gm.2
                have h11 := eb_mono (a := rnk D b b (sy r m')) (b := 5) (by omega)
                rw [eb_5] at h11
                omega)
            (fun m' hm' b b' p1 p2 p3 p4 hfb => by
              have gm := g.2.2.2 m' hm'
              by_cases h8 : sy r m' ≤ 8
              · rw [F.1 _ b b' gm.1 h8 (by omega) (by omega), wt_lf]
                have := lfc_len (sg := sg) (s := sy r m') p2
                omega
              · have h9 := (ihL (b' - b) (by omega) b b' rfl (by omega) (by omega) _ (sy r m') (by omega) gm.2 rfl hfb).2 (by omega)
                omega)
            (fun m' hm' hle => by
              have gm := g.2.2.2 m' hm'
              by_cases h8 : sy r m' ≤ 8
              · rw [F.1 _ i j gm.1 h8 hij hjn, wt_lf]
                have := lfc_len (sg := sg) (s := sy r m') hlt
                split
                · omega
                · omega
              · have hrk := rnk_lt (D := D) (a := i) (e := j) (k := k) (k' := sy r m') (by omega) gm.2 (by omega)
                rw [hk] at hrk
                have h9 := (iht _ hrk (sy r m') (by omega) gm.2 rfl (by omega)).2 h0
                rw [if_neg (by omega)]
                have h10 : (5 - (t - 1)) * 78125 ≤ (5 - rnk D i j (sy r m')) * 78125 := Nat.mul_le_mul_right _ (by omega)
                omega)
            hij (Nat.le_refl _) (Nat.le_refl _)
          have h5 : ln r * 19531 ≤ 5 * 19531 := Nat.mul_le_mul_right _ hl
          have hL1 : j - i = L := hL
          rw [hL1] at hw
          rcases hw.2.2 rfl with q | q
          · by_cases t0 : t = 0
            · rw [if_pos t0] at q
              subst t0
              omega
            · rw [if_neg t0] at q
              omega
          · omega
theorem wt_all (G : GW nr hd ln sy) (F : Fix nr hd ln sy n (lf32 sg) D) (hn : n ≤ 16) {s i j : Nat} (h1 : 1 ≤ s) (h14 : s ≤ 14) (hij : i ≤ j) (hjn : j ≤ n) (hf : D s i j < dINF) : wt (D s i j) ≤ 14238301 := by
  by_cases h8 : s ≤ 8
  · rw [F.1 s i j h1 h8 hij hjn, wt_lf]
    have := lfc_le (sg := sg) (s := s) (i := i) hjn hn
    omega
  · have h := wt_bound G F (j - i) i j rfl hij hjn _ s (by omega) h14 rfl hf
    have h6 := rnk_6 (D := D) (a := i) (e := j) (k := s) (by omega) h14
    rcases Nat.eq_zero_or_pos (j - i) with c | c
    · have h2 := h.1 c
      have h11 := eb_mono (a := rnk D i j s) (b := 5) (by omega)
      rw [eb_5] at h11
      omega
    · have h2 := h.2 c
      omega
end WEIGHT
