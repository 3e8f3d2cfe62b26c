/-! from the class's prices (2 ^ 32) to the reference's (2 ^ 24) -/
noncomputable def psi (v : Nat) : Nat := if v = dINF then dINF else v / 4294967296 * 16777216 + v % 4294967296
theorem psi_inf : psi dINF = dINF := if_pos rfl
theorem psi_fin {v : Nat} (h : v < dINF) : psi v = v / 4294967296 * 16777216 + v % 4294967296 := if_neg (by omega)
theorem psi_le {v : Nat} (h : v ≤ dINF) : psi v ≤ dINF := by
  unfold psi
  split
  · exact Nat.le_refl _
  · omega
theorem psi_add {a b : Nat} (ha : wt a < 16777216) (hb : wt b < 16777216) : psi (a + b) = psi a + psi b := by
  have hI := dINF_v
  unfold wt at ha hb
  rw [psi_fin (by omega), psi_fin (by omega), psi_fin (by omega)]
  omega
theorem psi_mono {a b : Nat} (hb : b ≤ dINF) (h : a ≤ b) (ha : wt a < 16777216) : psi a ≤ psi b := by
  have hI := dINF_v
  unfold wt at ha
  by_cases c : b = dINF
  · rw [c, psi_inf]
    exact psi_le (by omega)
  · rw [psi_fin (by omega), psi_fin (by omega)]
    omega
theorem wt_small {a : Nat} (h : wt a < 16777216) : a < 72057594054705152 := by unfold wt at h; omega
section BASE
variable {nr : Nat} {hd ln sg : Nat → Nat} {sy : Nat → Nat → Nat} {n : Nat} {D : Nat → Nat → Nat → Nat}
/-- every rule's price, too, is small or there is none -/
theorem wt_cnv (G : GW nr hd ln sy) (F : Fix nr hd ln sy n (lf32 sg) D) (hn : n ≤ 16) {r i j m : Nat} (hr : r < nr) (hm : m ≤ ln r) (hij : i ≤ j) (hjn : j ≤ n) (hf : cnv sy D r i m j < dINF) : wt (cnv sy D r i m j) < 16777216 := by
  have hI := dINF_v
  have g := G.2 r hr
  have hl := g.2.2.1
  have hm5 : m * 19531 ≤ 5 * 19531 := Nat.mul_le_mul_right _ (by omega)
  have hE : ∀ m', m' < m → ∀ b, i ≤ b → b ≤ j → D (sy r m') b b < dINF → wt (D (sy r m') b b) ≤ 19531 := by
    intro m' hm' b p1 p2 hfb
    have gm := g.2.2.2 m' (by omega)
    by_cases h8 : sy r m' ≤ 8
    · rw [F.1 _ b b gm.1 h8 (Nat.le_refl _) (by omega), wt_lf, lfc_0]; omega
    · have h9 := (wt_bound G F 0 b b (by omega) (Nat.le_refl _) (by omega) _ (sy r m') (by omega) gm.2 rfl hfb).1 rfl
      have h10 := rnk_6 (D := D) (a := b) (e := b) (k := sy r m') (by omega) gm.2
      have h11 := eb_mono (a := rnk D b b (sy r m')) (b := 5) (by omega)
      rw [eb_5] at h11
      omega
  by_cases c : i = j
  · subst c
    have := wcnv0 (sy := sy) (D := D) (r := r) (i := i) (m := m) (V := cnv sy D r i m i) (e := 19531) hf (fun m' hm' hle => hE m' hm' i (Nat.le_refl _) (Nat.le_refl _) (by omega)) (Nat.le_refl _)
    omega
  · have hw := wcnv (sy := sy) (D := D) (r := r) (i := i) (j := j) (m := m) (b := j) (V := cnv sy D r i m j) (M := 14238301) (by omega) hf hE
      (fun m' hm' b b' p1 p2 p3 p4 hfb => by
        have gm := g.2.2.2 m' (by omega)
        by_cases h8 : sy r m' ≤ 8
        · rw [F.1 _ b b' gm.1 h8 (by omega) (by omega), wt_lf]
          have := lfc_len (sg := sg) (s := sy r m') p2
          omega
        · have h9 := (wt_bound G F (b' - b) b b' rfl (by omega) (by omega) _ (sy r m') (by omega) gm.2 rfl hfb).2 (by omega)
          omega)
      (fun m' hm' hle => wt_all G F hn (g.2.2.2 m' (by omega)).1 (g.2.2.2 m' (by omega)).2 hij hjn (by omega)) hij (Nat.le_refl _) (Nat.le_refl _)
    rcases hw.2.2 rfl with q | q
    · omega
    · omega
theorem D_le (F : Fix nr hd ln sy n (lf32 sg) D) (hn : n ≤ 16) {s i j : Nat} (h1 : 1 ≤ s) (h14 : s ≤ 14) (hij : i ≤ j) (hjn : j ≤ n) : D s i j ≤ dINF := by
  by_cases h8 : s ≤ 8
  · rw [F.1 s i j h1 h8 hij hjn]; exact lf32_le hjn hn
  · exact F.2.1 s i j (by omega) h14 hij hjn
theorem cnv_psi (G : GW nr hd ln sy) (F : Fix nr hd ln sy n (lf32 sg) D) (hn : n ≤ 16) {r i j m : Nat} (hr : r < nr) (hm : m ≤ ln r) (hij : i ≤ j) (hjn : j ≤ n) : cnv sy (fun s i j => psi (D s i j)) r i m j = psi (cnv sy D r i m j) := by
  have hI := dINF_v
  have g := G.2 r hr
  induction m generalizing j with
  | zero =>
    show (if i = j then 0 else dINF) = psi (if i = j then 0 else dINF)
    by_cases c : i = j
    · rw [if_pos c, psi_fin (by omega)]
    · rw [if_neg c, psi_inf]
  | succ m ih =>
    have gm := g.2.2.2 m (by omega)
    have ihm : ∀ b, i ≤ b → b ≤ j → cnv sy (fun s i j => psi (D s i j)) r i m b = psi (cnv sy D r i m b) := fun b p1 p2 => ih (by omega) p1 (by omega)
    have hci := cnv_inf (sy := sy) (p := D) (r := r) (a := i) (m := m + 1) (e := j)
    have sumE : ∀ b, i ≤ b → b ≤ j → cnv sy D r i m b < dINF → D (sy r m) b j < dINF → psi (cnv sy D r i m b) + psi (D (sy r m) b j) = psi (cnv sy D r i m b + D (sy r m) b j) ∧ cnv sy D r i m b + D (sy r m) b j < dINF := by
      intro b p1 p2 f1 f2
      have w1 := wt_cnv G F hn hr (show m ≤ ln r by omega) p1 (by omega) f1
      have w2 := wt_all G F hn gm.1 gm.2 p2 hjn f2
      have s1 := wt_small w1
      have s2 := wt_small (a := D (sy r m) b j) (by omega)
      exact ⟨(psi_add w1 (by omega)).symm, by omega⟩
    have infE : ∀ b, i ≤ b → b ≤ j → ¬ (cnv sy D r i m b < dINF ∧ D (sy r m) b j < dINF) → dINF ≤ psi (cnv sy D r i m b) + psi (D (sy r m) b j) := by
      intro b p1 p2 hx
      by_cases f1 : cnv sy D r i m b < dINF
      · have f2 := D_le F hn gm.1 gm.2 p2 hjn
        have : D (sy r m) b j = dINF := by omega
        rw [this, psi_inf]
        omega
      · have f2 := cnv_inf (sy := sy) (p := D) (r := r) (a := i) (m := m) (e := b)
        have : cnv sy D r i m b = dINF := by omega
        rw [this, psi_inf]
        omega
    apply Nat.le_antisymm
    · rcases cnv_at (sy := sy) (p := D) (r := r) (a := i) (m := m) (e := j) with h | ⟨b, p1, p2, p3⟩
      · rw [h, psi_inf]
        exact cnv_inf
      · by_cases hx : cnv sy D r i m b < dINF ∧ D (sy r m) b j < dINF
        · refine Nat.le_trans (cnv_le p1 p2) ?_
          rw [ihm b p1 p2, (sumE b p1 p2 hx.1 hx.2).1, ← p3]
          exact Nat.le_refl _
        · have : cnv sy D r i (m + 1) j = dINF := by
            have f1 := cnv_inf (sy := sy) (p := D) (r := r) (a := i) (m := m) (e := b)
            have f2 := D_le F hn gm.1 gm.2 p2 hjn
            omega
          rw [this, psi_inf]
          exact cnv_inf
    · refine le_cnv (psi_le hci) (fun b p1 p2 => ?_)
      rw [ihm b p1 p2]
      by_cases hx : cnv sy D r i m b < dINF ∧ D (sy r m) b j < dINF
      · have hs := sumE b p1 p2 hx.1 hx.2
        have hle := cnv_le (sy := sy) (p := D) (r := r) (a := i) (m := m) (e := j) p1 p2
        rw [hs.1]
        exact psi_mono (by omega) hle (wt_cnv G F hn hr hm hij hjn (by omega))
      · exact Nat.le_trans (psi_le hci) (infE b p1 p2 hx)
theorem fix_psi (G : GW nr hd ln sy) (F : Fix nr hd ln sy n (lf32 sg) D) (hn : n ≤ 16) : Fix nr hd ln sy n (lf24 sg) (fun s i j => psi (D s i j)) := by
  have hI := dINF_v
  refine ⟨fun s i j h1 h8 hij hjn => ?_, fun k i j k9 k14 hij hjn => psi_le (F.2.1 k i j k9 k14 hij hjn), fun r i j hr hij hjn => ?_, fun k i j k9 k14 hij hjn => ?_⟩
  · have hc := lfc_le (sg := sg) (s := s) (i := i) hjn hn
    show psi (D s i j) = _
    rw [F.1 s i j h1 h8 hij hjn, psi_fin (by unfold lf32; omega)]
    unfold lf32 lf24
    omega
  · have g := G.2 r hr
    rw [cnv_psi G F hn hr (Nat.le_refl _) hij hjn]
    show psi (D (hd r) i j) ≤ _
    have h1 := F.2.2.1 r i j hr hij hjn
    have h2 := F.2.1 (hd r) i j g.1 g.2.1 hij hjn
    by_cases c : cnv sy D r i (ln r) j < dINF
    · have w1 := wt_cnv G F hn hr (Nat.le_refl _) hij hjn c
      have s1 := wt_small w1
      have e1 : psi (cnv sy D r i (ln r) j + 1) = psi (cnv sy D r i (ln r) j) + 1 := by
        unfold wt at w1
        rw [psi_fin (by omega), psi_fin (by omega)]
        omega
      rw [← e1]
      have w2 := wt_all G F hn (show 1 ≤ hd r by omega) g.2.1 hij hjn (by omega)
      exact psi_mono (by omega) h1 (by omega)
    · have h3 := cnv_inf (sy := sy) (p := D) (r := r) (a := i) (m := ln r) (e := j)
      have : cnv sy D r i (ln r) j = dINF := by omega
      rw [this, psi_inf]
      have := psi_le h2
      omega
  · rcases F.2.2.2 k i j k9 k14 hij hjn with c | ⟨r, hr, hk, c⟩
    · left
      show psi (D k i j) = _
      rw [c, psi_inf]
    · by_cases hf : D k i j < dINF
      · right
        refine ⟨r, hr, hk, ?_⟩
        rw [cnv_psi G F hn hr (Nat.le_refl _) hij hjn]
        show psi (D k i j) = _
        have w1 := wt_cnv G F hn hr (Nat.le_refl _) hij hjn (by omega)
        have s1 := wt_small w1
        rw [c]
        unfold wt at w1
        rw [psi_fin (by omega), psi_fin (by omega)]
        omega
      · left
        have := F.2.1 k i j k9 k14 hij hjn
        show psi (D k i j) = _
        rw [show D k i j = dINF by omega, psi_inf]
end BASE
