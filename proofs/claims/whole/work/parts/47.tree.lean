/-! the tree in its order: what print needs of it -/
def posA (t : Nat) (P : Nat → PE) : Nat := if t = 0 then 0 else if pSy (P (t - 1)) ≤ 8 then pTo (P (t - 1)) else pFr (P (t - 1))
def AI2 (e t : Nat) (a : AST) : Prop :=
  (0 < a.1 → sFr (a.2.1 (a.1 - 1)) = posA t a.2.2) ∧ (a.1 = 0 → posA t a.2.2 = e) ∧
  (∀ w, w + 1 < a.1 → sTo (a.2.1 (w + 1)) = sFr (a.2.1 w) ∧ aDp a.2.2 (a.2.1 w) ≤ aDp a.2.2 (a.2.1 (w + 1))) ∧
  (0 < a.1 → sTo (a.2.1 0) = e) ∧
  (∀ w, w < a.1 → 0 < t → sPa (a.2.1 w) < t ∧ pFr (a.2.2 (sPa (a.2.1 w))) ≤ sFr (a.2.1 w) ∧ sTo (a.2.1 w) ≤ pTo (a.2.2 (sPa (a.2.1 w))) ∧ ∀ j, sPa (a.2.1 w) < j → j < t → aDp a.2.2 (a.2.1 w) ≤ pDp (a.2.2 j)) ∧
  (∀ k, k < t → (∀ j, k < j → j < t → pDp (a.2.2 k) < pDp (a.2.2 j)) → (∀ w, w < a.1 → aDp a.2.2 (a.2.1 w) ≤ pDp (a.2.2 k) → (∀ w', w < w' → w' < a.1 → pDp (a.2.2 k) < aDp a.2.2 (a.2.1 w')) → sFr (a.2.1 w) = pTo (a.2.2 k)) ∧ ((∀ w, w < a.1 → pDp (a.2.2 k) < aDp a.2.2 (a.2.1 w)) → pTo (a.2.2 k) = e)) ∧
  (∀ k, 0 < k → k < t → pPa (a.2.2 k) < k ∧ pFr (a.2.2 (pPa (a.2.2 k))) ≤ pFr (a.2.2 k) ∧ pTo (a.2.2 k) ≤ pTo (a.2.2 (pPa (a.2.2 k))) ∧ pDp (a.2.2 k) = pDp (a.2.2 (pPa (a.2.2 k))) + 1 ∧ ∀ j, pPa (a.2.2 k) < j → j < k → pDp (a.2.2 k) ≤ pDp (a.2.2 j)) ∧
  (∀ k, k + 1 < t → pFr (a.2.2 (k + 1)) = posA (k + 1) a.2.2) ∧
  (∀ k t', k < t' → t' < t → (∀ j, k < j → j < t' → pDp (a.2.2 k) < pDp (a.2.2 j)) → pDp (a.2.2 t') ≤ pDp (a.2.2 k) → pFr (a.2.2 t') = pTo (a.2.2 k)) ∧
  (0 < t → pFr (a.2.2 0) = 0 ∧ pTo (a.2.2 0) = e ∧ pPa (a.2.2 0) = 999 ∧ pDp (a.2.2 0) = 0 ∧ pSy (a.2.2 0) = 9) ∧
  (t = 0 → a.1 = 1 ∧ a.2.1 0 = (9, 0, e, 999, 0)) ∧
  (∀ k, k < t → 9 ≤ pSy (a.2.2 k) → pDp (a.2.2 k) ≤ 36)
theorem cnv0_eq {sy : Nat → Nat → Nat} {p : Nat → Nat → Nat → Nat} {r i j : Nat} (h : cnv sy p r i 0 j < dINF) : i = j := by
  unfold cnv at h
  by_cases c : i = j
  · exact c
  · rw [if_neg c] at h; omega
theorem AI2.step {nr : Nat} {hd ln sg : Nat → Nat} {sy : Nat → Nat → Nat} {n : Nat} {D : Nat → Nat → Nat → Nat} (G : GW nr hd ln sy) (F : Fix nr hd ln sy n (lf32 sg) D) (hn : n ≤ 16) {e t : Nat} {a : AST} (ht : t < 150) (h : AI nr ln n D t a) (hW : 0 < a.1) (h2 : AI2 e t a) (hok : okStep nr hd ln sy D t a) : AI2 e (t + 1) (astep nr hd ln sy D t a) := by
  have node0 := (AI.step G F hn ht h hW).2
  have hA := h.2.1 (a.1 - 1) (by omega)
  obtain ⟨W, S, P⟩ := a
  obtain ⟨i1, i2, i3, i4, i5, i6, i7, i8, i9, i10, i11, i12⟩ := h2
  have hok1 := hok.1
  dsimp only at hW i1 i2 i3 i4 i5 i6 i7 i8 i9 i10 i11 i12 hA node0 hok1
  generalize hq : S (W - 1) = q at *
  obtain ⟨s, i, e1, p, l⟩ := q
  have node : 9 ≤ s → isRf nr hd ln sy D s i e1 (rfn nr hd ln sy D s i e1) ∧ isCut sy D (ln (rfn nr hd ln sy D s i e1)) (rfn nr hd ln sy D s i e1) i e1 (cfn ln sy D (rfn nr hd ln sy D s i e1) i e1) ∧ cnv sy D (rfn nr hd ln sy D s i e1) i (ln (rfn nr hd ln sy D s i e1)) e1 < dINF := node0
  have qft : i ≤ e1 := hA.2.2.1
  have hal : aLn nr hd ln sy D (s, i, e1, p, l) = if s ≤ 8 then 0 else ln (rfn nr hd ln sy D s i e1) := rfl
  generalize hr : rfn nr hd ln sy D s i e1 = r at *
  generalize hcu : cfn ln sy D r i e1 = cu at *
  generalize hL : aLn nr hd ln sy D (s, i, e1, p, l) = L at *
  generalize hdp : aDp P (s, i, e1, p, l) = dp at *
  have hst : astep nr hd ln sy D t (W, S, P) = (W - 1 + L, fun x => if x < W - 1 then S x else (sy r (L - 1 - (x - (W - 1))), cu (L - 1 - (x - (W - 1))), cu (L - 1 - (x - (W - 1)) + 1), t, L - 1 - (x - (W - 1))), fun k => if k = t then (s, i, e1, p, l, r, dp) else P k) := by
    unfold astep
    dsimp only
    rw [hq, hL]
    simp only [sSy, sFr, sTo, sPa, sPl]
    rw [hr, hcu, hdp]
  rw [hst]
  have hPt : (fun k => if k = t then (s, i, e1, p, l, r, dp) else P k) t = (s, i, e1, p, l, r, dp) := if_pos rfl
  have hPo : ∀ k, k ≠ t → (fun k => if k = t then (s, i, e1, p, l, r, dp) else P k) k = P k := fun k hk => if_neg hk
  generalize hP' : (fun k => if k = t then (s, i, e1, p, l, r, dp) else P k) = P' at *
  have hSo : ∀ x, x < W - 1 → (fun x => if x < W - 1 then S x else (sy r (L - 1 - (x - (W - 1))), cu (L - 1 - (x - (W - 1))), cu (L - 1 - (x - (W - 1)) + 1), t, L - 1 - (x - (W - 1)))) x = S x := fun x hx => if_pos hx
  have hSn : ∀ x, W - 1 ≤ x → (fun x => if x < W - 1 then S x else (sy r (L - 1 - (x - (W - 1))), cu (L - 1 - (x - (W - 1))), cu (L - 1 - (x - (W - 1)) + 1), t, L - 1 - (x - (W - 1)))) x = (sy r (L - 1 - (x - (W - 1))), cu (L - 1 - (x - (W - 1))), cu (L - 1 - (x - (W - 1)) + 1), t, L - 1 - (x - (W - 1))) := fun x hx => if_neg (by omega)
  generalize hS' : (fun x => if x < W - 1 then S x else (sy r (L - 1 - (x - (W - 1))), cu (L - 1 - (x - (W - 1))), cu (L - 1 - (x - (W - 1)) + 1), t, L - 1 - (x - (W - 1)))) = S' at *
  -- the new entries' places
  have cuts : L = 0 ∨ (cu 0 = i ∧ cu L = e1 ∧ ∀ m, m < L → i ≤ cu m ∧ cu m ≤ cu (m + 1) ∧ cu (m + 1) ≤ e1) := by
    by_cases h8 : s ≤ 8
    · left; rw [hal, if_pos h8]
    · right
      rw [if_neg h8] at hal
      obtain ⟨n1, n2, n3⟩ := node (by omega)
      rw [← hal] at n2 n3
      have f0 := isCut_fin n2 n3 0 (Nat.zero_le _)
      have := cnv0_eq f0
      exact ⟨this.symm, n2.1, fun m hm => ⟨(n2.2 m hm).1, (n2.2 m hm).2.1, isCut_le n2 (m + 1) (by omega)⟩⟩
  have leaf0 : ¬ s ≤ 8 → L = 0 → i = e1 := by
    intro h8 h0
    rw [if_neg h8] at hal
    obtain ⟨n1, n2, n3⟩ := node (by omega)
    rw [← hal, h0] at n3
    exact cnv0_eq n3
  have kid : ¬ s ≤ 8 ∨ L = 0 := by
    by_cases h8 : s ≤ 8
    · right; rw [hal, if_pos h8]
    · exact Or.inl h8
  have hpos : posA (t + 1) P' = if s ≤ 8 then e1 else i := by
    unfold posA
    rw [if_neg (by omega), Nat.add_sub_cancel, hPt]
    rfl
  have i1' : i = posA t P := i1 hW
  have oldD : ∀ w, w < W - 1 → aDp P' (S w) = aDp P (S w) := by
    intro w hw
    unfold aDp
    by_cases c : sPa (S w) = 999
    · rw [if_pos c, if_pos c]
    · rw [if_neg c, if_neg c]
      have : sPa (S w) ≠ t := by
        rcases Nat.eq_zero_or_pos t with z | z
        · have := (i11 z).1
          omega
        · have := (i5 w (by omega) z).1
          omega
      rw [hPo _ this]
  have newD : ∀ w, W - 1 ≤ w → aDp P' (S' w) = dp + 1 := by
    intro w hw
    rw [hSn w hw]
    unfold aDp
    show (if t = 999 then 0 else pDp (P' t) + 1) = dp + 1
    rw [if_neg (by omega), hPt]
    rfl
  have dpo : ∀ w, w < W - 1 → aDp P (S w) ≤ dp := by
    intro w hw
    have key : ∀ d, w + d < W → aDp P (S w) ≤ aDp P (S (w + d)) := by
      intro d
      induction d with
      | zero => intro _; exact Nat.le_refl _
      | succ d ih =>
        intro hd
        exact Nat.le_trans (ih (by omega)) (i3 (w + d) (by omega)).2
    have := key (W - 1 - w) (by omega)
    rw [show w + (W - 1 - w) = W - 1 by omega, hq, hdp] at this
    exact this
  have below : 0 < W - 1 → sFr (S (W - 2)) = e1 := by
    intro hw
    have := (i3 (W - 2) (by omega)).1
    rw [show W - 2 + 1 = W - 1 by omega, hq] at this
    exact this.symm
  have bot : W - 1 = 0 → e1 = e := by
    intro hw
    have := i4 hW
    rw [← hw, hq] at this
    exact this
  have pt : 0 < t → p < t ∧ pFr (P p) ≤ i ∧ e1 ≤ pTo (P p) ∧ (∀ j, p < j → j < t → dp ≤ pDp (P j)) ∧ dp = pDp (P p) + 1 := by
    intro z
    have := i5 (W - 1) (by omega) z
    rw [hq] at this
    obtain ⟨a1, a2, a3, a4⟩ := this
    refine ⟨a1, a2, a3, fun j hj hj2 => ?_, ?_⟩
    · have := a4 j hj hj2
      rw [hdp] at this
      exact this
    · have a1' : p < t := a1
      rw [← hdp]
      show (if p = 999 then 0 else pDp (P p) + 1) = _
      rw [if_neg (by omega)]
  refine ⟨fun hw => ?_, fun hw => ?_, fun w hw => ?_, fun hw => ?_, fun w hw _ => ?_, fun k hk ho => ⟨fun w hw hle hab => ?_, fun hall => ?_⟩, fun k hk0 hk => ?_, fun k hk => ?_, fun k t' hkt ht' ho hle => ?_, fun _ => ?_, fun c => by omega, fun k hk h9 => ?_⟩
  · dsimp only at hw ⊢
    rw [hpos]
    by_cases hL0 : L = 0
    · rw [hL0, Nat.add_zero, hSo _ (by omega), show W - 1 - 1 = W - 2 by omega, below (by omega)]
      by_cases h8 : s ≤ 8
      · rw [if_pos h8]
      · rw [if_neg h8]; exact (leaf0 h8 hL0).symm
    · rcases kid with h8 | c
      · rw [if_neg h8, hSn _ (by omega)]
        rcases cuts with c | ⟨c1, c2, c3⟩
        · omega
        · show cu (L - 1 - (W - 1 + L - 1 - (W - 1))) = i
          rw [show L - 1 - (W - 1 + L - 1 - (W - 1)) = 0 by omega]
          exact c1
      · omega
  · dsimp only at hw ⊢
    rw [hpos]
    have hb := bot (by omega)
    by_cases h8 : s ≤ 8
    · rw [if_pos h8]; exact hb
    · rw [if_neg h8, leaf0 h8 (by omega)]; exact hb
  · dsimp only at hw ⊢
    by_cases c1 : w + 1 < W - 1
    · rw [hSo _ c1, hSo _ (by omega), oldD _ c1, oldD _ (by omega)]
      exact i3 w (by omega)
    · by_cases c2 : w + 1 = W - 1
      · rw [newD (w + 1) (by omega), hSn (w + 1) (by omega), hSo w (by omega), oldD w (by omega)]
        refine ⟨?_, by have := dpo w (by omega); omega⟩
        rcases cuts with c | ⟨c3, c4, c5⟩
        · omega
        · show cu (L - 1 - (w + 1 - (W - 1)) + 1) = sFr (S w)
          rw [show L - 1 - (w + 1 - (W - 1)) + 1 = L by omega, c4, show w = W - 2 by omega, below (by omega)]
      · rw [newD (w + 1) (by omega), newD w (by omega), hSn (w + 1) (by omega), hSn w (by omega)]
        refine ⟨?_, Nat.le_refl _⟩
        show cu (L - 1 - (w + 1 - (W - 1)) + 1) = cu (L - 1 - (w - (W - 1)))
        rw [show L - 1 - (w + 1 - (W - 1)) + 1 = L - 1 - (w - (W - 1)) by omega]
  · dsimp only at hw ⊢
    by_cases c : 0 < W - 1
    · rw [hSo 0 c]; exact i4 hW
    · rw [hSn 0 (by omega)]
      rcases cuts with c1 | ⟨c3, c4, c5⟩
      · omega
      · show cu (L - 1 - (0 - (W - 1)) + 1) = e
        rw [show L - 1 - (0 - (W - 1)) + 1 = L by omega, c4]
        exact bot (by omega)
  · dsimp only at hw ⊢
    by_cases c : w < W - 1
    · rw [hSo w c, oldD w c]
      have z : 0 < t := by
        rcases Nat.eq_zero_or_pos t with z | z
        · have := (i11 z).1; omega
        · exact z
      obtain ⟨a1, a2, a3, a4⟩ := i5 w (by omega) z
      rw [hPo _ (by omega)]
      refine ⟨by omega, a2, a3, fun j hj hj2 => ?_⟩
      by_cases c2 : j = t
      · rw [c2, hPt]; exact dpo w c
      · rw [hPo _ c2]; exact a4 j hj (by omega)
    · rw [newD w (by omega), hSn w (by omega)]
      rcases cuts with c1 | ⟨c3, c4, c5⟩
      · omega
      · have hm := c5 (L - 1 - (w - (W - 1))) (by omega)
        show t < t + 1 ∧ pFr (P' t) ≤ cu (L - 1 - (w - (W - 1))) ∧ cu (L - 1 - (w - (W - 1)) + 1) ≤ pTo (P' t) ∧ ∀ j, t < j → j < t + 1 → dp + 1 ≤ pDp (P' j)
        rw [hPt]
        exact ⟨by omega, hm.1, hm.2.2, fun j hj hj2 => by omega⟩
  · dsimp only at hw hle hab ho ⊢
    by_cases c : k = t
    · rw [c, hPt] at hle hab
      rw [c, hPt]
      have hle' : aDp P' (S' w) ≤ dp := hle
      have hab' : ∀ w', w < w' → w' < W - 1 + L → dp < aDp P' (S' w') := hab
      have w1 : w < W - 1 := by
        rcases Nat.lt_or_ge w (W - 1) with x | x
        · exact x
        · rw [newD w x] at hle'; omega
      have w2 : w = W - 2 := by
        rcases Nat.lt_or_ge w (W - 2) with x | x
        · have y := hab' (W - 2) x (by omega)
          rw [hSo (W - 2) (by omega), oldD (W - 2) (by omega)] at y
          have := dpo (W - 2) (by omega)
          omega
        · omega
      rw [hSo w w1, w2]
      exact below (by omega)
    · have hkt : k < t := by omega
      rw [hPo _ c] at hle hab ⊢
      have hkd : pDp (P k) < dp := by
        have := ho t hkt (by omega)
        rw [hPo _ c, hPt] at this
        exact this
      have w1 : w < W - 1 := by
        rcases Nat.lt_or_ge w (W - 1) with x | x
        · exact x
        · rw [newD w x] at hle; omega
      rw [hSo w w1] at hle ⊢
      rw [oldD w w1] at hle
      refine (i6 k hkt (fun j hj hj2 => ?_)).1 w (by omega) hle (fun w' hw' hw2 => ?_)
      · have := ho j hj (by omega)
        rw [hPo _ c, hPo _ (by omega)] at this
        exact this
      · by_cases x : w' < W - 1
        · have := hab w' hw' (by omega)
          rw [hSo w' x, oldD w' x] at this
          exact this
        · rw [show w' = W - 1 by omega, hq, hdp]; exact hkd
  · dsimp only at hall ho ⊢
    by_cases c : k = t
    · rw [c, hPt] at hall
      rw [c, hPt]
      have hall' : ∀ w, w < W - 1 + L → dp < aDp P' (S' w) := hall
      refine bot ?_
      rcases Nat.eq_zero_or_pos (W - 1) with z | z
      · exact z
      · have := hall' 0 (by omega)
        rw [hSo 0 z, oldD 0 z] at this
        have := dpo 0 z
        omega
    · have hkt : k < t := by omega
      rw [hPo _ c] at hall ⊢
      have hkd : pDp (P k) < dp := by
        have := ho t hkt (by omega)
        rw [hPo _ c, hPt] at this
        exact this
      refine (i6 k hkt (fun j hj hj2 => ?_)).2 (fun w hw => ?_)
      · have := ho j hj (by omega)
        rw [hPo _ c, hPo _ (by omega)] at this
        exact this
      · by_cases x : w < W - 1
        · have := hall w (by omega)
          rw [hSo w x, oldD w x] at this
          exact this
        · rw [show w = W - 1 by omega, hq, hdp]; exact hkd
  · dsimp only
    by_cases c : k = t
    · obtain ⟨a1, a2, a3, a4, a5⟩ := pt (by omega)
      rw [c, hPt]
      show p < t ∧ pFr (P' p) ≤ i ∧ e1 ≤ pTo (P' p) ∧ dp = pDp (P' p) + 1 ∧ ∀ j, p < j → j < t → dp ≤ pDp (P' j)
      rw [hPo p (by omega)]
      exact ⟨a1, a2, a3, a5, fun j hj hj2 => by rw [hPo j (by omega)]; exact a4 j hj hj2⟩
    · obtain ⟨a1, a2, a3, a4, a5⟩ := i7 k hk0 (by omega)
      rw [hPo k c, hPo _ (by omega)]
      exact ⟨a1, a2, a3, a4, fun j hj hj2 => by rw [hPo j (by omega)]; exact a5 j hj hj2⟩
  · dsimp only
    by_cases c : k + 1 = t
    · rw [c, hPt]
      show i = _
      rw [i1']
      unfold posA
      rw [if_neg (show ¬ t = 0 by omega), if_neg (show ¬ t = 0 by omega), hPo _ (by omega)]
    · rw [hPo _ c, i8 k (by omega)]
      unfold posA
      rw [if_neg (show ¬ k + 1 = 0 by omega), if_neg (show ¬ k + 1 = 0 by omega), Nat.add_sub_cancel, hPo _ (by omega)]
  · dsimp only at ho hle ⊢
    by_cases c : t' = t
    · rw [c] at hkt ho hle ⊢
      rw [hPt] at hle ⊢
      rw [hPo _ (by omega)] at hle ⊢
      have hle' : dp ≤ pDp (P k) := hle
      have := (i6 k hkt (fun j hj hj2 => by
        have := ho j hj hj2
        rw [hPo _ (by omega), hPo _ (by omega)] at this
        exact this)).1 (W - 1) (by omega) (by rw [hq, hdp]; exact hle') (fun w' h1 h2 => by omega)
      rw [hq] at this
      exact this
    · rw [hPo _ (by omega), hPo _ (by omega)] at hle ⊢
      exact i9 k t' hkt (by omega) (fun j hj hj2 => by
        have := ho j hj hj2
        rw [hPo _ (by omega), hPo _ (by omega)] at this
        exact this) hle
  · dsimp only
    rcases Nat.eq_zero_or_pos t with z | z
    · have hp0 : P' 0 = (s, i, e1, p, l, r, dp) := by
        have := hPt
        rw [z] at this
        exact this
      rw [hp0]
      have hq0 := (i11 z).2
      have hW1 := (i11 z).1
      rw [hW1] at hq
      have hq' : S 0 = (s, i, e1, p, l) := hq
      rw [hq'] at hq0
      obtain ⟨rfl, rfl, rfl, rfl, rfl⟩ : s = 9 ∧ i = 0 ∧ e1 = e ∧ p = 999 ∧ l = 0 := by
        simpa using hq0
      exact ⟨rfl, rfl, rfl, by rw [← hdp]; rfl, rfl⟩
    · rw [hPo _ (by omega)]; exact i10 z
  · dsimp only at h9 ⊢
    by_cases c : k = t
    · rw [c, hPt] at h9 ⊢
      have h9' : 9 ≤ s := h9
      rcases hok1 with o | o
      · have o' : s ≤ 8 := o
        omega
      · exact o
    · rw [hPo _ c] at h9 ⊢
      exact i12 k (by omega) h9
