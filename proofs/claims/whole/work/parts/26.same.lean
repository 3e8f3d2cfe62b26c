/-! rule and cuts are the same on both sides; the tree's end -/
theorem isCut_unique {sy : Nat → Nat → Nat} {p : Nat → Nat → Nat → Nat} {l r i j : Nat} {cu cv : Nat → Nat} (h1 : isCut sy p l r i j cu) (h2 : isCut sy p l r i j cv) : ∀ m, m ≤ l → cu m = cv m := by
  have key : ∀ d m, m + d = l → cu m = cv m := by
    intro d
    induction d with
    | zero => intro m hm; have e : m = l := by omega
              rw [e, h1.1, h2.1]
    | succ d ih =>
      intro m hm
      have e := ih (m + 1) (by omega)
      obtain ⟨a1, a2, a3, a4⟩ := h1.2 m (by omega)
      obtain ⟨b1, b2, b3, b4⟩ := h2.2 m (by omega)
      rw [← e] at b2 b3 b4
      rcases Nat.lt_trichotomy (cu m) (cv m) with c | c | c
      · exact absurd b3 (a4 _ c b2)
      · exact c
      · exact absurd a3 (b4 _ c a2)
  intro m hm
  exact key (l - m) m (by omega)
theorem isCut_le {sy : Nat → Nat → Nat} {p : Nat → Nat → Nat → Nat} {l r i j : Nat} {cu : Nat → Nat} (h : isCut sy p l r i j cu) : ∀ m, m ≤ l → cu m ≤ j := by
  have key : ∀ d m, m + d = l → cu m ≤ j := by
    intro d
    induction d with
    | zero => intro m hm; have e : m = l := by omega
              rw [e, h.1]; exact Nat.le_refl _
    | succ d ih => intro m hm; exact Nat.le_trans (h.2 m (by omega)).2.1 (ih (m + 1) (by omega))
  intro m hm
  exact key (l - m) m (by omega)
theorem isCut_fin {sy : Nat → Nat → Nat} {p : Nat → Nat → Nat → Nat} {l r i j : Nat} {cu : Nat → Nat} (h : isCut sy p l r i j cu) (hf : cnv sy p r i l j < dINF) : ∀ m, m ≤ l → cnv sy p r i m (cu m) < dINF := by
  have key : ∀ d m, m + d = l → cnv sy p r i m (cu m) < dINF := by
    intro d
    induction d with
    | zero => intro m hm; have e : m = l := by omega
              rw [e, h.1]; exact hf
    | succ d ih => intro m hm
                   have := ih (m + 1) (by omega)
                   have := (h.2 m (by omega)).2.2.1
                   omega
  intro m hm
  exact key (l - m) m (by omega)
theorem isCut_0 {sy : Nat → Nat → Nat} {p : Nat → Nat → Nat → Nat} {l r i j : Nat} {cu : Nat → Nat} (h : isCut sy p l r i j cu) (hf : cnv sy p r i l j < dINF) : cu 0 = i := by
  have h1 := isCut_fin h hf 0 (Nat.zero_le _)
  have h2 : cnv sy p r i 0 (cu 0) = if i = cu 0 then 0 else dINF := rfl
  rw [h2] at h1
  by_cases c : i = cu 0
  · exact c.symm
  · rw [if_neg c] at h1; omega
theorem isCut_congr {sy : Nat → Nat → Nat} {p q : Nat → Nat → Nat → Nat} {l r i j : Nat} {cu : Nat → Nat} (h : ∀ m, m < l → ∀ a b, i ≤ a → a ≤ b → b ≤ j → p (sy r m) a b = q (sy r m) a b) (hc : isCut sy p l r i j cu) : isCut sy q l r i j cu := by
  have hcv : ∀ m b, m ≤ l → b ≤ j → cnv sy p r i m b = cnv sy q r i m b := fun m b hm hb => cnv_congr (fun m' hm' a b' h1 h2 h3 => h m' (by omega) a b' h1 h2 (by omega))
  refine ⟨hc.1, fun m hm => ?_⟩
  obtain ⟨a1, a2, a3, a4⟩ := hc.2 m hm
  have l1 := isCut_le hc (m + 1) (by omega)
  refine ⟨a1, a2, ?_, fun b p1 p2 => ?_⟩
  · rw [← hcv m _ (by omega) (by omega), ← hcv (m + 1) _ (by omega) l1, ← h m hm _ _ a1 a2 l1]
    exact a3
  · rw [← hcv m _ (by omega) (by omega), ← hcv (m + 1) _ (by omega) l1, ← h m hm _ _ (by omega) p2 l1]
    exact a4 b p1 p2
theorem psi_inj {a v : Nat} (ha : a < dINF) (h : v ≤ a) (hw : wt v < 16777216) (he : psi a = psi v) : a = v := by
  unfold wt at hw
  rw [psi_fin ha, psi_fin (by omega)] at he
  omega
section SAME
variable {nr : Nat} {hd ln sg : Nat → Nat} {sy : Nat → Nat → Nat} {n : Nat} {D : Nat → Nat → Nat → Nat}
theorem sum_iff (G : GW nr hd ln sy) (F : Fix nr hd ln sy n (lf32 sg) D) (hn : n ≤ 16) {r i m b e : Nat} (hr : r < nr) (hm : m < ln r) (hb : i ≤ b) (hbe : b ≤ e) (hen : e ≤ n) (hf : cnv sy D r i (m + 1) e < dINF) :
    cnv sy (fun s i j => psi (D s i j)) r i m b + psi (D (sy r m) b e) = cnv sy (fun s i j => psi (D s i j)) r i (m + 1) e ↔ cnv sy D r i m b + D (sy r m) b e = cnv sy D r i (m + 1) e := by
  have hI := dINF_v
  have g := G.2 r hr
  have gm := g.2.2.2 m hm
  rw [cnv_psi G F hn hr (show m ≤ ln r by omega) hb (by omega), cnv_psi G F hn hr (show m + 1 ≤ ln r by omega) (by omega) hen]
  have wv := wt_cnv G F hn hr (show m + 1 ≤ ln r by omega) (by omega) hen hf
  have hle := cnv_le (sy := sy) (p := D) (r := r) (a := i) (m := m) (e := e) hb hbe
  have hpv : psi (cnv sy D r i (m + 1) e) ≤ cnv sy D r i (m + 1) e := by rw [psi_fin hf]; omega
  by_cases hx : cnv sy D r i m b < dINF ∧ D (sy r m) b e < dINF
  · have w1 := wt_cnv G F hn hr (show m ≤ ln r by omega) hb (by omega) hx.1
    have w2 := wt_all G F hn gm.1 gm.2 hbe hen hx.2
    have s1 := wt_small w1
    have s2 := wt_small (a := D (sy r m) b e) (by omega)
    rw [← psi_add w1 (by omega)]
    constructor
    · intro h; exact psi_inj (by omega) hle wv h
    · intro h; rw [h]
  · have f1 := cnv_inf (sy := sy) (p := D) (r := r) (a := i) (m := m) (e := b)
    have f2 := D_le F hn gm.1 gm.2 hbe hen
    constructor
    · intro h
      by_cases c : cnv sy D r i m b < dINF
      · rw [show D (sy r m) b e = dINF by omega, psi_inf] at h
        omega
      · rw [show cnv sy D r i m b = dINF by omega, psi_inf] at h
        omega
    · intro h; omega
theorem isCut_psi (G : GW nr hd ln sy) (F : Fix nr hd ln sy n (lf32 sg) D) (hn : n ≤ 16) {r i j : Nat} {cu : Nat → Nat} (hr : r < nr) (hij : i ≤ j) (hjn : j ≤ n) (hf : cnv sy D r i (ln r) j < dINF) (h : isCut sy D (ln r) r i j cu) : isCut sy (fun s i j => psi (D s i j)) (ln r) r i j cu := by
  refine ⟨h.1, fun m hm => ?_⟩
  obtain ⟨a1, a2, a3, a4⟩ := h.2 m hm
  have l1 := isCut_le h (m + 1) (by omega)
  have f1 := isCut_fin h hf (m + 1) (by omega)
  exact ⟨a1, a2, (sum_iff G F hn hr hm a1 a2 (by omega) f1).mpr a3, fun b p1 p2 c => a4 b p1 p2 ((sum_iff G F hn hr hm (by omega) p2 (by omega) f1).mp c)⟩
theorem good_iff (G : GW nr hd ln sy) (F : Fix nr hd ln sy n (lf32 sg) D) (hn : n ≤ 16) {r k i j : Nat} (hr : r < nr) (hk : hd r = k) (hij : i ≤ j) (hjn : j ≤ n) (hf : D k i j < dINF) : cnv sy (fun s i j => psi (D s i j)) r i (ln r) j + 1 = psi (D k i j) ↔ good hd ln sy D i j r := by
  have hI := dINF_v
  have g := G.2 r hr
  unfold good
  rw [hk, cnv_psi G F hn hr (Nat.le_refl _) hij hjn]
  have h1 := F.2.2.1 r i j hr hij hjn
  rw [hk] at h1
  have wk := wt_all G F hn (show 1 ≤ k by omega) (by omega) hij hjn hf
  have hpk : psi (D k i j) ≤ D k i j := by rw [psi_fin hf]; omega
  by_cases c : cnv sy D r i (ln r) j < dINF
  · have w1 := wt_cnv G F hn hr (Nat.le_refl _) hij hjn c
    have s1 := wt_small w1
    have e1 : psi (cnv sy D r i (ln r) j + 1) = psi (cnv sy D r i (ln r) j) + 1 := by
      unfold wt at w1
      rw [psi_fin (by omega), psi_fin (by omega)]
      omega
    rw [← e1]
    constructor
    · intro h
      have := psi_inj (by omega) h1 (by omega) h
      exact ⟨by omega, this⟩
    · intro h; rw [h.2]
  · have f1 := cnv_inf (sy := sy) (p := D) (r := r) (a := i) (m := ln r) (e := j)
    rw [show cnv sy D r i (ln r) j = dINF by omega, psi_inf]
    constructor
    · intro h; omega
    · intro h; omega
/-- the class's choice is the reference's -/
theorem same_rule (G : GW nr hd ln sy) (F : Fix nr hd ln sy n (lf32 sg) D) (hn : n ≤ 16) {r k i j : Nat} {v : Int32} (hij : i ≤ j) (hjn : j ≤ n) (hf : D k i j < dINF) (hv : isCh nr hd ln sy D 0 k i j v) (hr : r < nr) (hk : hd r = k) (h1 : cnv sy (fun s i j => psi (D s i j)) r i (ln r) j + 1 = psi (D k i j)) (h2 : ∀ r', r' < r → hd r' = k → cnv sy (fun s i j => psi (D s i j)) r' i (ln r') j + 1 ≠ psi (D k i j)) : v = nI r := by
  have hg := (good_iff G F hn hr hk hij hjn hf).mp h1
  rcases hv with ⟨q1, q2⟩ | ⟨r1, q1, q2, q3, q4, q5, q6⟩
  · exact absurd hg (q2 r (Nat.zero_le _) hr hk)
  · rcases Nat.lt_trichotomy r1 r with c | c | c
    · exact absurd ((good_iff G F hn q2 q3 hij hjn hf).mpr q4) (h2 r1 c q3)
    · rw [q5, c]
    · exact absurd hg (q6 r (Nat.zero_le _) c hk)
end SAME
/-- the best end of the tree -/
def isEnd (T : Nat → Nat) (n e : Nat) : Prop := e ≤ n ∧ ∀ e', e' ≤ n → T e ≤ T e' ∧ (e < e' → T e < T e')
theorem isEnd_unique {T : Nat → Nat} {n e f : Nat} (h1 : isEnd T n e) (h2 : isEnd T n f) : e = f := by
  have a := h1.2 f h2.1
  have b := h2.2 e h1.1
  rcases Nat.lt_trichotomy e f with c | c | c
  · have := a.2 c; omega
  · exact c
  · have := b.2 c; omega
theorem isEnd_map {T U : Nat → Nat} {n e : Nat} (h : ∀ a b, a ≤ n → b ≤ n → T a < dINF → (T a ≤ T b → U a ≤ U b) ∧ (T a < T b → U a < U b)) (hf : T e < dINF) (h1 : isEnd T n e) : isEnd U n e := by
  refine ⟨h1.1, fun e' he' => ?_⟩
  have a := h1.2 e' he'
  have b := h e e' h1.1 he' hf
  exact ⟨b.1 a.1, fun c => b.2 (a.2 c)⟩
theorem lgc_gt {a b : Nat} (ha : a < 2 ^ 63) (hb : b < 2 ^ 63) : 0 < lg_cmp (lN a) (lN b) ↔ b < a := by
  unfold lg_cmp
  by_cases h1 : b < a
  · rw [if_pos (show lN a > lN b from (pk_lLT hb ha).mpr h1)]
    exact ⟨fun _ => h1, fun _ => by decide⟩
  · rw [if_neg (fun c : lN a > lN b => h1 ((pk_lLT hb ha).mp c))]
    by_cases h2 : a = b
    · rw [if_pos (by rw [h2])]
      exact ⟨fun c => absurd c (by decide), fun c => by omega⟩
    · rw [if_neg (fun c => h2 ((pk_lEQ ha hb).mp c))]
      exact ⟨fun c => absurd c (by decide), fun c => by omega⟩
theorem e_treeEnd {P : Nat → Nat} {n : Nat} (hn : n ≤ 16) (hP : ∀ x, P x ≤ dINF) (h0 : P (sp 9 0 0) + n * 4294967296 ≤ dINF) : ∃ e, isEnd (fun e => P (sp 9 0 e) + (n - e) * 4294967296) n e ∧ f_X0_treeEnd (nI n) (lA P) = some (nI e) := by
  have hI := dINF_v
  have key := loopE (fun N (t : Nat × Nat × Nat) => lp_X0_treeEnd_9 (nI n) (lA P) (fun x3 => some x3) N (lN t.2.1) (nI t.2.2) (nI t.1)) (fun Q => ∃ e, isEnd (fun e => P (sp 9 0 e) + (n - e) * 4294967296) n e ∧ Q = some (nI e)) (fun t => t.1 ≤ n + 1 ∧ t.2.1 ≤ dINF ∧ t.2.2 ≤ n ∧ (t.1 = 0 → t.2.1 = dINF) ∧ (0 < t.1 → t.2.2 < t.1 ∧ t.2.1 = P (sp 9 0 t.2.2) + (n - t.2.2) * 4294967296 ∧ ∀ e', e' < t.1 → t.2.1 ≤ P (sp 9 0 e') + (n - e') * 4294967296 ∧ (t.2.2 < e' → t.2.1 < P (sp 9 0 e') + (n - e') * 4294967296))) (fun t => n + 1 - t.1) (by
    rintro N ⟨t, l, b⟩ ⟨q1, q2, q3, q4, q5⟩
    dsimp only at q1 q2 q3 q4 q5 ⊢
    by_cases h : n < t
    · left
      obtain ⟨a1, a2, a3⟩ := q5 (by omega)
      refine ⟨b, ⟨q3, fun e' he' => ?_⟩, ?_⟩
      · have := a3 e' (by omega)
        rw [a2] at this
        exact this
      · simp only [lp_X0_treeEnd_9]
        rw [if_pos ((nI_ltI (by omega) (by omega)).mpr h)]
    · right
      have b1 := hP (sp 9 0 t)
      have unf : lp_X0_treeEnd_9 (nI n) (lA P) (fun x3 => some x3) (N + 1) (lN l) (nI b) (nI t) = if 0 < lg_cmp (lN (P (sp 9 0 t) + (n - t) * 4294967296)) (lN l) then lp_X0_treeEnd_9 (nI n) (lA P) (fun x3 => some x3) N (lN l) (nI b) (nI (t + 1)) else lp_X0_treeEnd_9 (nI n) (lA P) (fun x3 => some x3) N (lN (P (sp 9 0 t) + (n - t) * 4294967296)) (nI t) (nI (t + 1)) := by
        simp only [lp_X0_treeEnd_9, jn_X0_treeEnd_64, nm]
        rw [if_neg (fun c => h ((nI_ltI (by omega) (by omega)).mp c)), show (9 : Int32) = nI 9 from rfl, show (0 : Int32) = nI 0 from rfl, e_spot (by omega), ob, rd_lA (sp_lt (by omega) (by omega) (by omega) (by omega)) (by omega), ob, nI_sub (show t ≤ n by omega), nI_l (by omega), shl32 _ (by omega), lN_add, of1, nI_add]
      by_cases hc : l < P (sp 9 0 t) + (n - t) * 4294967296
      · have ht : 0 < t := by
          rcases Nat.eq_zero_or_pos t with c | c
          · subst c
            have := q4 rfl
            rw [Nat.sub_zero] at hc
            omega
          · exact c
        refine ⟨(t + 1, l, b), ⟨by dsimp only; omega, q2, q3, fun c => by dsimp only at c; omega, fun _ => ?_⟩, by dsimp only; omega, ?_⟩
        · obtain ⟨a1, a2, a3⟩ := q5 ht
          refine ⟨by dsimp only; omega, a2, fun e' p1 => ?_⟩
          dsimp only at p1 ⊢
          by_cases e1 : e' = t
          · subst e1; exact ⟨by omega, fun _ => hc⟩
          · exact a3 e' (by omega)
        · dsimp only
          rw [unf, if_pos ((lgc_gt (by omega) (by omega)).mpr hc)]
      · refine ⟨(t + 1, P (sp 9 0 t) + (n - t) * 4294967296, t), ⟨by dsimp only; omega, by dsimp only; omega, by dsimp only; omega, fun c => by dsimp only at c; omega, fun _ => ⟨by dsimp only; omega, rfl, fun e' p1 => ?_⟩⟩, by dsimp only; omega, ?_⟩
        · dsimp only at p1 ⊢
          by_cases e1 : e' = t
          · subst e1; exact ⟨Nat.le_refl _, fun c => by omega⟩
          · obtain ⟨a1, a2, a3⟩ := q5 (by omega)
            have := (a3 e' (by omega)).1
            exact ⟨by omega, fun c => by omega⟩
        · dsimp only
          rw [unf, if_neg (fun c => hc ((lgc_gt (by omega) (by omega)).mp c))])
  have fin := key FU (0, dINF, 0) (FU_gt (by dsimp only; omega)) ⟨Nat.zero_le _, Nat.le_refl _, Nat.zero_le _, fun _ => rfl, fun c => by dsimp only at c; omega⟩
  obtain ⟨e, c1, c2⟩ := fin
  refine ⟨e, c1, ?_⟩
  unfold f_X0_treeEnd
  simp only [nm]
  rw [dINF_l]
  exact c2
