/-! what holds of tokens and comments when the text has been cut -/
theorem sumR_congr {f g : Nat → Nat} {n : Nat} (h : ∀ x, x < n → f x = g x) : sumR f n = sumR g n := Nat.le_antisymm (sumR_le (fun x hx => Nat.le_of_eq (h x hx))) (sumR_le (fun x hx => Nat.le_of_eq (h x hx).symm))
theorem sumR_s (f : Nat → Nat) (n : Nat) : sumR f (n + 1) = sumR f n + f n := rfl
def TV (s : TS) : Prop :=
  (∀ t, t < s.2.1 → s.2.2.2.2.2.1 t ≤ 8 ∧ 1 ≤ s.2.2.2.2.1 t ∧ s.2.2.2.1 t + s.2.2.2.2.1 t ≤ s.1) ∧
  (s.2.2.2.2.2.2.1 0 = 0 ∧ (∀ t, t < s.2.1 → s.2.2.2.2.2.2.1 t ≤ s.2.2.2.2.2.2.1 (t + 1)) ∧ s.2.2.2.2.2.2.1 s.2.1 ≤ s.2.2.1) ∧
  (∀ c, c < s.2.2.1 → 1 ≤ s.2.2.2.2.2.2.2.2 c ∧ s.2.2.2.2.2.2.2.1 c + s.2.2.2.2.2.2.2.2 c ≤ s.1) ∧
  sumR (fun t => s.2.2.2.2.1 t + 1) s.2.1 + sumR (fun c => s.2.2.2.2.2.2.2.2 c + 1) s.2.2.1 ≤ 2 * s.1
theorem TV_step {tx : Nat → Nat} {len : Nat} {s s' : TS} (h : TV s) (hlt : s.1 < len) (hs : tstep tx len s = some s') : TV s' := by
  obtain ⟨a, nt, nc, ts, tl, tg, fc, cs, cl⟩ := s
  obtain ⟨h1, ⟨h2, h3, h4⟩, h5, h6⟩ := h
  dsimp only at h1 h2 h3 h4 h5 h6 hlt
  unfold tstep at hs
  dsimp only at hs
  have hte := tEnd_in (tx := tx) hlt
  have hcl := clsF_ge (tx := tx) (len := len) (a := a)
  split at hs
  · obtain rfl := Option.some.inj hs
    refine ⟨fun t ht => ?_, ⟨h2, h3, h4⟩, fun c hc => ?_, ?_⟩
    · have := h1 t ht
      dsimp only
      omega
    · have := h5 c hc
      dsimp only
      omega
    · dsimp only; omega
  · split at hs
    · next hc =>
      obtain rfl := Option.some.inj hs
      refine ⟨fun t ht => ?_, ⟨h2, h3, by dsimp only at h4 ⊢; omega⟩, fun c hc => ?_, ?_⟩
      · have := h1 t ht
        dsimp only
        omega
      · dsimp only at hc ⊢
        by_cases e : c = nc
        · rw [e, updN_s, updN_s]; omega
        · rw [updN_n e, updN_n e]
          have := h5 c (by omega)
          omega
      · dsimp only
        rw [sumR_s, updN_s, sumR_congr (n := nc) (g := fun c => cl c + 1) (fun x hx => by rw [updN_n (by omega)])]
        omega
    · split at hs
      · cases hs
      · obtain rfl := Option.some.inj hs
        refine ⟨fun t ht => ?_, ⟨?_, fun t ht => ?_, ?_⟩, fun c hc => ?_, ?_⟩
        · dsimp only at ht ⊢
          by_cases e : t = nt
          · rw [e, updN_s, updN_s, updN_s]
            refine ⟨?_, by omega, by omega⟩
            split
            · next hl =>
              have : 97 ≤ tx a ∧ tx a ≤ 104 := by simpa [isLet] using hl
              omega
            · omega
          · rw [updN_n e, updN_n e, updN_n e]
            have := h1 t (by omega)
            omega
        · dsimp only
          rw [updN_n (by omega)]; exact h2
        · dsimp only at ht ⊢
          by_cases e : t = nt
          · rw [e, updN_s, updN_n (by omega)]; exact h4
          · rw [updN_n (by omega), updN_n (by omega)]; exact h3 t (by omega)
        · dsimp only
          rw [updN_s]; exact Nat.le_refl _
        · have := h5 c hc
          dsimp only
          omega
        · dsimp only
          rw [sumR_s, updN_s, sumR_congr (n := nt) (g := fun t => tl t + 1) (fun x hx => by rw [updN_n (by omega)])]
          omega
theorem TV_seq {tx : Nat → Nat} {len : Nat} {s0 : TS} (h0 : TV s0) : ∀ k s, tseq tx len s0 k = some s → TV s := by
  intro k
  induction k with
  | zero => intro s hs; obtain rfl := Option.some.inj hs; exact h0
  | succ k ih =>
    intro s hs
    cases hk : tseq tx len s0 k with
    | none =>
      have := tseq_none hk (Nat.le_succ k)
      rw [this] at hs; cases hs
    | some s1 =>
      by_cases he : len ≤ s1.1
      · have := tseq_end hk he (Nat.le_succ k)
        rw [this] at hs
        obtain rfl := Option.some.inj hs
        exact ih s1 hk
      · rw [tseq_s hk (by omega)] at hs
        exact TV_step (ih s1 hk) (by omega) hs
theorem TV_0 {ts tl tg fc cs cl : Nat → Nat} : TV (0, 0, 0, ts, tl, tg, updN fc 0 0, cs, cl) :=
  ⟨fun t ht => absurd ht (Nat.not_lt_zero t), ⟨(updN_s : updN fc 0 0 0 = 0), fun t ht => absurd ht (Nat.not_lt_zero t), Nat.le_of_eq (updN_s : updN fc 0 0 0 = 0)⟩, fun c hc => absurd hc (Nat.not_lt_zero c), Nat.le_refl _⟩
/-! grounded: the empty text has a price -/
theorem gr_fin {nr n : Nat} {hd ln sg : Nat → Nat} {sy : Nat → Nat → Nat} {D : Nat → Nat → Nat → Nat} (G : GW nr hd ln sy) (F : Fix nr hd ln sy n (lf32 sg) D) (hn : n ≤ 16) {k : Nat} (h : Gr nr hd ln sy k) (h9 : 9 ≤ k) (h14 : k ≤ 14) : D k 0 0 < 72057594054705152 := by
  have hI := dINF_v
  have small : ∀ s, 1 ≤ s → s ≤ 14 → D s 0 0 < dINF → D s 0 0 < 72057594054705152 := fun s h1 h2 hf => wt_small (by have := wt_all G F hn h1 h2 (Nat.le_refl 0) (Nat.zero_le n) hf; omega)
  refine h (fun k => D k 0 0 < 72057594054705152) (fun r hr hh => ?_)
  obtain ⟨g1, g2, g3, g4⟩ := G.2 r hr
  have hc : ∀ m, m ≤ ln r → cnv sy D r 0 m 0 ≤ m * 72057594054705152 := by
    intro m
    induction m with
    | zero => intro _; exact Nat.le_of_eq (by unfold cnv; rw [if_pos rfl])
    | succ m ih =>
      intro hm
      have h1 := ih (by omega)
      have h2 := cnv_le (sy := sy) (p := D) (r := r) (a := 0) (m := m) (e := 0) (b := 0) (Nat.le_refl _) (Nat.le_refl _)
      have h3 : D (sy r m) 0 0 ≤ 72057594054705152 := by
        rcases hh m (by omega) with c | c
        · rw [F.1 _ 0 0 (g4 m (by omega)).1 c (Nat.le_refl _) (Nat.zero_le _)]
          unfold lf32 lfc
          rw [if_pos rfl]
          omega
        · omega
      omega
  have h1 := hc (ln r) (Nat.le_refl _)
  have h2 := F.2.2.1 r 0 0 hr (Nat.le_refl _) (Nat.zero_le _)
  refine small (hd r) (by omega) g2 ?_
  have h3 : ln r * 72057594054705152 ≤ 5 * 72057594054705152 := Nat.mul_le_mul_right _ g3
  omega
