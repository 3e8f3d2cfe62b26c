/-! the tree's facts, and the sums over a node's own parts -/
def TRF (nr : Nat) (ln : Nat → Nat) (n e T : Nat) (P : Nat → PE) : Prop :=
  (0 < T ∧ T ≤ 150 ∧ e ≤ n ∧ n ≤ 16) ∧
  (pFr (P 0) = 0 ∧ pTo (P 0) = e ∧ pPa (P 0) = 999 ∧ pDp (P 0) = 0 ∧ pSy (P 0) = 9) ∧
  (∀ k, 0 < k → k < T → pPa (P k) < k ∧ 9 ≤ pSy (P (pPa (P k))) ∧ pPl (P k) < ln (pRu (P (pPa (P k)))) ∧ pFr (P (pPa (P k))) ≤ pFr (P k) ∧ pTo (P k) ≤ pTo (P (pPa (P k))) ∧ pDp (P k) = pDp (P (pPa (P k))) + 1 ∧ ∀ j, pPa (P k) < j → j < k → pDp (P k) ≤ pDp (P j)) ∧
  (∀ k, k < T → 1 ≤ pSy (P k) ∧ pSy (P k) ≤ 14 ∧ pFr (P k) ≤ pTo (P k) ∧ pTo (P k) ≤ n ∧ (9 ≤ pSy (P k) → pRu (P k) < nr ∧ pDp (P k) ≤ 36)) ∧
  (∀ k, k + 1 < T → pFr (P (k + 1)) = if pSy (P k) ≤ 8 then pTo (P k) else pFr (P k)) ∧
  (∀ k t', k < t' → t' < T → (∀ j, k < j → j < t' → pDp (P k) < pDp (P j)) → pDp (P t') ≤ pDp (P k) → pFr (P t') = pTo (P k)) ∧
  (∀ k, k < T → (∀ j, k < j → j < T → pDp (P k) < pDp (P j)) → pTo (P k) = e)
theorem AI2_0 {nr : Nat} {hd ln : Nat → Nat} {sy : Nat → Nat → Nat} {D : Nat → Nat → Nat → Nat} {e : Nat} : AI2 e 0 (arun nr hd ln sy D e 0) :=
  ⟨fun _ => rfl, fun c => absurd c (by show ¬ (1 : Nat) = 0; omega), fun w hw => absurd hw (by show ¬ w + 1 < 1; omega), fun _ => rfl, fun w hw h => absurd h (by omega), fun k hk => absurd hk (by omega), fun k h0 hk => absurd hk (by omega), fun k hk => absurd hk (by omega), fun k t' h1 h2 => absurd h2 (by omega), fun h => absurd h (by omega), fun _ => ⟨rfl, rfl⟩, fun k hk => absurd hk (by omega)⟩
theorem okRun_AI2 {nr : Nat} {hd ln gs sg : Nat → Nat} {n : Nat} {D : Nat → Nat → Nat → Nat} (G : GW nr hd ln (rsy gs)) (F : Fix nr hd ln (rsy gs) n (lf32 sg) D) (hn : n ≤ 16) {e : Nat} (hen : e ≤ n) (hf : D 9 0 e < dINF) : ∀ T, okRun nr hd ln (rsy gs) D e T → AI2 e T (arun nr hd ln (rsy gs) D e T) := by
  intro T
  induction T with
  | zero => intro _; exact AI2_0
  | succ T ih =>
    intro h
    have h1 : okRun nr hd ln (rsy gs) D e T := fun t ht => h t (by omega)
    have h2 := h T (by omega)
    have h3 := h1.fit
    exact AI2.step G F hn (by omega) (okRun.AI G F hn hen hf T h1) h2.1 (ih h1) h2.2
theorem trf_of {nr : Nat} {hd ln gs sg : Nat → Nat} {n : Nat} {D : Nat → Nat → Nat → Nat} (G : GW nr hd ln (rsy gs)) (F : Fix nr hd ln (rsy gs) n (lf32 sg) D) (hn : n ≤ 16) {e T : Nat} (hen : e ≤ n) (hf : D 9 0 e < dINF) (hT : T ≤ 150) (ho : okTree nr hd ln (rsy gs) D e T) : TRF nr ln n e T (arun nr hd ln (rsy gs) D e T).2.2 := by
  have hpos := okTree_pos ho
  have hA := okRun.AI G F hn hen hf T ho.1
  obtain ⟨i1, i2, i3, i4, i5, i6, i7, i8, i9, i10, i11, i12⟩ := okRun_AI2 G F hn hen hf T ho.1
  refine ⟨⟨hpos, hT, hen, hn⟩, i10 hpos, fun k hk0 hk => ?_, fun k hk => ?_, fun k hk => ?_, i9, fun k hk hj => ?_⟩
  · obtain ⟨a1, a2, a3, a4, a5⟩ := i7 k hk0 hk
    rcases (hA.2.2 k hk).2.2.2.2.2.2 with c | ⟨c1, c2, c3⟩
    · omega
    · exact ⟨a1, c2, c3, a2, a3, a4, a5⟩
  · obtain ⟨b1, b2, b3, b4, b5, b6, b7⟩ := hA.2.2 k hk
    exact ⟨b1, b2, b3, b4, fun h9 => ⟨b5 h9, i12 k hk h9⟩⟩
  · rw [i8 k hk]
    unfold posA
    rw [if_neg (by omega), Nat.add_sub_cancel]
  · exact (i6 k hk hj).2 (fun w hw => absurd hw (by rw [ho.2]; omega))
theorem srch_spec (p : Nat → Bool) : ∀ d a, (∀ j, a ≤ j → j < srch p a d → ¬ p j = true) ∧ (srch p a d < a + d → p (srch p a d) = true) := by
  intro d
  induction d with
  | zero => intro a; exact ⟨fun j h1 h2 => absurd h2 (by show ¬ j < a; omega), fun h => absurd h (by show ¬ a < a + 0; omega)⟩
  | succ d ih =>
    intro a
    by_cases h : p a = true
    · rw [srch_h h]
      exact ⟨fun j h1 h2 => by omega, fun _ => h⟩
    · rw [srch_s h]
      obtain ⟨i1, i2⟩ := ih (a + 1)
      refine ⟨fun j h1 h2 => ?_, fun h3 => i2 (by omega)⟩
      by_cases e : j = a
      · rw [e]; exact h
      · exact i1 j (by omega) h2
/-- where a part's own parts end -/
def en (P : Nat → PE) (T u : Nat) : Nat := srch (fun j => decide (pDp (P j) ≤ pDp (P u))) (u + 1) (T - (u + 1))
section EN
variable {nr : Nat} {ln : Nat → Nat} {n e T : Nat} {P : Nat → PE}
theorem en_in {u : Nat} (h : u < T) : u + 1 ≤ en P T u ∧ en P T u ≤ T := by
  have := srch_le (fun j => decide (pDp (P j) ≤ pDp (P u))) (u + 1) (T - (u + 1))
  unfold en; omega
theorem en_sub {u j : Nat} (h1 : u < j) (h2 : j < en P T u) : pDp (P u) < pDp (P j) := by
  have := (srch_spec (fun j => decide (pDp (P j) ≤ pDp (P u))) (T - (u + 1)) (u + 1)).1 j (by omega) h2
  simpa using this
theorem en_at {u : Nat} (h : u < T) (h2 : en P T u < T) : pDp (P (en P T u)) ≤ pDp (P u) := by
  have := (srch_spec (fun j => decide (pDp (P j) ≤ pDp (P u))) (T - (u + 1)) (u + 1)).2 (by unfold en at h2; omega)
  have h3 := of_decide_eq_true this
  exact h3
theorem en_ge {u x : Nat} (h : u < T) (hx : x ≤ T) (hux : u < x) (h2 : ∀ j, u < j → j < x → pDp (P u) < pDp (P j)) : x ≤ en P T u := by
  rcases Nat.lt_or_ge (en P T u) x with c | c
  · have e1 := en_at (P := P) h (by omega)
    have e2 := h2 (en P T u) (by have := (en_in (P := P) h).1; omega) c
    omega
  · exact c
theorem kid_in (R : TRF nr ln n e T P) {u c : Nat} (h0 : 0 < c) (hc : c < T) (hp : pPa (P c) = u) : c < en P T u := by
  obtain ⟨a1, a2, a3, a4, a5, a6, a7⟩ := R.2.2.1 c h0 hc
  rw [hp] at a1 a6 a7
  refine en_ge (by omega) (by omega) (by omega) (fun j hj hj2 => ?_)
  by_cases e1 : j = c
  · rw [e1]; omega
  · have := a7 j hj (by omega); omega
theorem leaf_en (R : TRF nr ln n e T P) {u : Nat} (hu : u < T) (h8 : pSy (P u) ≤ 8) : en P T u = u + 1 := by
  have hin := en_in (P := P) hu
  rcases Nat.lt_or_ge (u + 1) (en P T u) with c | c
  · have h1 := en_sub (P := P) (T := T) (u := u) (j := u + 1) (by omega) c
    obtain ⟨a1, a2, a3, a4, a5, a6, a7⟩ := R.2.2.1 (u + 1) (by omega) (by omega)
    by_cases e1 : pPa (P (u + 1)) = u
    · rw [e1] at a2; omega
    · have := a7 u (by omega) (by omega); omega
  · omega
/-- the sum over the parts of u below x -/
def csum (P : Nat → PE) (f : Nat → Nat) (u x : Nat) : Nat := sumR (fun c => if pPa (P c) = u then f c else 0) x
theorem csum_s {f : Nat → Nat} {u x : Nat} : csum P f u (x + 1) = csum P f u x + (if pPa (P x) = u then f x else 0) := rfl
theorem csum_low (R : TRF nr ln n e T P) {f : Nat → Nat} {u : Nat} (hu : u < T) : ∀ x, x ≤ u + 1 → csum P f u x = 0 := by
  intro x
  induction x with
  | zero => intro _; rfl
  | succ x ih =>
    intro hx
    rw [csum_s, ih (by omega), if_neg]
    intro c
    have hT := R.1.2.1
    rcases Nat.eq_zero_or_pos x with z | z
    · rw [z, R.2.1.2.2.1] at c; omega
    · have := (R.2.2.1 x z (by omega)).1; omega
theorem csum_mono {f : Nat → Nat} {u x y : Nat} (h : x ≤ y) : csum P f u x ≤ csum P f u y := by
  induction y with
  | zero => rw [show x = 0 by omega]; exact Nat.le_refl _
  | succ y ih =>
    by_cases e1 : x = y + 1
    · rw [e1]; exact Nat.le_refl _
    · rw [csum_s]; have := ih (by omega); omega
theorem sumR_mono {f : Nat → Nat} {x y : Nat} (h : x ≤ y) : sumR f x ≤ sumR f y := by
  induction y with
  | zero => rw [show x = 0 by omega]; exact Nat.le_refl _
  | succ y ih =>
    by_cases e1 : x = y + 1
    · rw [e1]; exact Nat.le_refl _
    · rw [sumR_s]; have := ih (by omega); omega
/-- the parts of u, one behind the other, make up all of u's -/
theorem csum_all (R : TRF nr ln n e T P) {f w : Nat → Nat} (hf : ∀ c, 0 < c → c < T → f c + sumR w c = sumR w (en P T c)) {u : Nat} (hu : u < T) : csum P f u T + sumR w (u + 1) = sumR w (en P T u) := by
  have hin := en_in (P := P) hu
  have key : ∀ d, u + 1 + d ≤ en P T u → ∃ y, u + 1 + d ≤ y ∧ y ≤ en P T u ∧ (∀ z, u + 1 + d ≤ z → z < y → pPa (P z) ≠ u) ∧ (y = en P T u ∨ pPa (P y) = u) ∧ csum P f u (u + 1 + d) + sumR w (u + 1) = sumR w y := by
    intro d
    induction d with
    | zero =>
      intro _
      refine ⟨u + 1, Nat.le_refl _, hin.1, fun z h1 h2 => by omega, ?_, by rw [Nat.add_zero, csum_low R hu (u + 1) (Nat.le_refl _), Nat.zero_add]⟩
      rcases Nat.lt_or_ge (u + 1) (en P T u) with c | c
      · right
        have h1 := en_sub (P := P) (T := T) (u := u) (j := u + 1) (by omega) c
        obtain ⟨a1, a2, a3, a4, a5, a6, a7⟩ := R.2.2.1 (u + 1) (by omega) (by omega)
        by_cases e1 : pPa (P (u + 1)) = u
        · exact e1
        · have := a7 u (by omega) (by omega); omega
      · left; omega
    | succ d ih =>
      intro hd
      obtain ⟨y, y1, y2, y3, y4, y5⟩ := ih (by omega)
      rw [show u + 1 + (d + 1) = (u + 1 + d) + 1 by omega, csum_s]
      generalize hx : u + 1 + d = x at *
      have hxT : x < T := by omega
      by_cases hp : pPa (P x) = u
      · rw [if_pos hp]
        have ey : y = x := by
          rcases Nat.lt_or_ge x y with c | c
          · exact absurd hp (y3 x (Nat.le_refl _) c)
          · omega
        rw [ey] at y5
        have hfx := hf x (by omega) hxT
        obtain ⟨a1, a2, a3, a4, a5, a6, a7⟩ := R.2.2.1 x (by omega) hxT
        rw [hp] at a6
        have hex := en_in (P := P) hxT
        have hle : en P T x ≤ en P T u := by
          refine en_ge hu hex.2 (by omega) (fun j hj hj2 => ?_)
          rcases Nat.lt_trichotomy j x with c | c | c
          · exact en_sub (T := T) hj (by omega)
          · rw [c]; omega
          · have := en_sub (P := P) (T := T) (u := x) c hj2; omega
        refine ⟨en P T x, by omega, hle, fun z h1 h2 c => ?_, ?_, by omega⟩
        · have h3 := en_sub (P := P) (T := T) (u := x) (j := z) (by omega) h2
          have h4 := (R.2.2.1 z (by omega) (by omega)).2.2.2.2.2.1
          rw [c] at h4; omega
        · rcases Nat.lt_or_ge (en P T x) (en P T u) with c | c
          · right
            have h3 := en_sub (P := P) (T := T) (u := u) (j := en P T x) (by omega) c
            have h4 := en_at (P := P) hxT (by omega)
            obtain ⟨b1, b2, b3, b4, b5, b6, b7⟩ := R.2.2.1 (en P T x) (by omega) (by omega)
            rcases Nat.lt_trichotomy (pPa (P (en P T x))) u with c1 | c1 | c1
            · have := b7 u c1 (by omega); omega
            · exact c1
            · have := en_sub (P := P) (T := T) (u := u) (j := pPa (P (en P T x))) c1 (by omega); omega
          · left; omega
      · rw [if_neg hp, Nat.add_zero]
        have hne : x ≠ y := by
          intro c
          rcases y4 with c1 | c1
          · omega
          · rw [← c] at c1; exact hp c1
        exact ⟨y, by omega, y2, fun z h1 h2 => y3 z (by omega) h2, y4, y5⟩
  obtain ⟨y, y1, y2, y3, y4, y5⟩ := key (en P T u - (u + 1)) (by omega)
  rw [show u + 1 + (en P T u - (u + 1)) = en P T u by omega] at y1 y5
  have ey : y = en P T u := by omega
  rw [ey] at y5
  have rest : ∀ d, en P T u + d ≤ T → csum P f u (en P T u + d) = csum P f u (en P T u) := by
    intro d
    induction d with
    | zero => intro _; rfl
    | succ d ih =>
      intro hd
      have hne : ¬ pPa (P (en P T u + d)) = u := by
        intro c
        have := kid_in R (by omega) (by omega) c
        omega
      rw [show en P T u + (d + 1) = (en P T u + d) + 1 by omega, csum_s, ih (by omega), if_neg hne, Nat.add_zero]
  have := rest (T - en P T u) (by omega)
  rw [show en P T u + (T - en P T u) = T by omega] at this
  rw [this]
  exact y5
end EN
