/-! the least prices: theory over Nat -/
noncomputable def dINF : Nat := Classical.choose (⟨1152921504606846976, rfl⟩ : ∃ n : Nat, n = 1152921504606846976)
theorem dINF_v : dINF = 1152921504606846976 := Classical.choose_spec (⟨1152921504606846976, rfl⟩ : ∃ n : Nat, n = 1152921504606846976)
/-- the least of f over the d places from a on, at most INF -/
noncomputable def mnr (f : Nat → Nat) (a : Nat) : Nat → Nat
  | 0 => dINF
  | d + 1 => min (mnr f a d) (f (a + d))
theorem mnr_inf (f : Nat → Nat) (a d : Nat) : mnr f a d ≤ dINF := by
  induction d with
  | zero => exact Nat.le_refl _
  | succ d ih => exact Nat.le_trans (Nat.min_le_left _ _) ih
theorem mnr_le {f : Nat → Nat} {a d t : Nat} (h : t < d) : mnr f a d ≤ f (a + t) := by
  induction d with
  | zero => omega
  | succ d ih =>
    by_cases e : t = d
    · subst e; exact Nat.min_le_right _ _
    · exact Nat.le_trans (Nat.min_le_left _ _) (ih (by omega))
theorem le_mnr {f : Nat → Nat} {a d v : Nat} (h0 : v ≤ dINF) (h : ∀ t, t < d → v ≤ f (a + t)) : v ≤ mnr f a d := by
  induction d with
  | zero => exact h0
  | succ d ih => exact Nat.le_min.mpr ⟨ih (fun t ht => h t (by omega)), h d (by omega)⟩
theorem mnr_at (f : Nat → Nat) (a d : Nat) : mnr f a d = dINF ∨ ∃ t, t < d ∧ mnr f a d = f (a + t) := by
  induction d with
  | zero => exact Or.inl rfl
  | succ d ih =>
    by_cases e : mnr f a d ≤ f (a + d)
    · have e1 : mnr f a (d + 1) = mnr f a d := Nat.min_eq_left e
      rcases ih with h | ⟨t, ht, h⟩
      · exact Or.inl (e1.trans h)
      · exact Or.inr ⟨t, by omega, e1.trans h⟩
    · exact Or.inr ⟨d, by omega, Nat.min_eq_right (by omega)⟩
theorem mnr_congr {f g : Nat → Nat} {a d : Nat} (h : ∀ t, t < d → f (a + t) = g (a + t)) : mnr f a d = mnr g a d := by
  induction d with
  | zero => rfl
  | succ d ih =>
    show min _ _ = min _ _
    rw [ih (fun t ht => h t (by omega)), h d (by omega)]
/-- a rule's first m symbols over the tokens from a to e, at the prices pr -/
noncomputable def cnv (sy : Nat → Nat → Nat) (pr : Nat → Nat → Nat → Nat) (r a : Nat) : Nat → Nat → Nat
  | 0, e => if a = e then 0 else dINF
  | m + 1, e => mnr (fun b => cnv sy pr r a m b + pr (sy r m) b e) a (e + 1 - a)
section DP
variable {sy : Nat → Nat → Nat} {p q : Nat → Nat → Nat → Nat} {r a m e : Nat}
theorem cnv_inf : cnv sy p r a m e ≤ dINF := by
  cases m with
  | zero =>
    unfold cnv
    split
    · exact Nat.zero_le _
    · exact Nat.le_refl _
  | succ m => exact mnr_inf _ _ _
theorem cnv_le {b : Nat} (h1 : a ≤ b) (h2 : b ≤ e) : cnv sy p r a (m + 1) e ≤ cnv sy p r a m b + p (sy r m) b e := by
  have := mnr_le (f := fun b => cnv sy p r a m b + p (sy r m) b e) (a := a) (d := e + 1 - a) (t := b - a) (by omega)
  have e1 : a + (b - a) = b := by omega
  rw [e1] at this
  exact this
theorem cnv_at : cnv sy p r a (m + 1) e = dINF ∨ ∃ b, a ≤ b ∧ b ≤ e ∧ cnv sy p r a (m + 1) e = cnv sy p r a m b + p (sy r m) b e := by
  rcases mnr_at (fun b => cnv sy p r a m b + p (sy r m) b e) a (e + 1 - a) with h | ⟨t, ht, h⟩
  · exact Or.inl h
  · exact Or.inr ⟨a + t, by omega, by omega, h⟩
theorem le_cnv {v : Nat} (h0 : v ≤ dINF) (h : ∀ b, a ≤ b → b ≤ e → v ≤ cnv sy p r a m b + p (sy r m) b e) : v ≤ cnv sy p r a (m + 1) e :=
  le_mnr h0 (fun t ht => h (a + t) (by omega) (by omega))
theorem cnv_mono (h : ∀ m', m' < m → ∀ i j, a ≤ i → i ≤ j → j ≤ e → p (sy r m') i j ≤ q (sy r m') i j) : cnv sy p r a m e ≤ cnv sy q r a m e := by
  induction m generalizing e with
  | zero => exact Nat.le_refl _
  | succ m ih =>
    refine le_cnv cnv_inf (fun b h1 h2 => ?_)
    refine Nat.le_trans (cnv_le h1 h2) (Nat.add_le_add (ih (fun m' hm' i j hi hij hj => h m' (by omega) i j hi hij (by omega))) (h m (by omega) b e h1 h2 (Nat.le_refl _)))
theorem cnv_congr (h : ∀ m', m' < m → ∀ i j, a ≤ i → i ≤ j → j ≤ e → p (sy r m') i j = q (sy r m') i j) : cnv sy p r a m e = cnv sy q r a m e :=
  Nat.le_antisymm (cnv_mono (fun m' h1 i j h2 h3 h4 => Nat.le_of_eq (h m' h1 i j h2 h3 h4))) (cnv_mono (fun m' h1 i j h2 h3 h4 => Nat.le_of_eq (h m' h1 i j h2 h3 h4).symm))
theorem cnv_below {v : Nat} (hv : v < dINF) (h : ∀ m', m' < m → ∀ i j, a ≤ i → i ≤ j → j ≤ e → p (sy r m') i j ≤ v → q (sy r m') i j ≤ p (sy r m') i j) (hc : cnv sy p r a m e ≤ v) : cnv sy q r a m e ≤ cnv sy p r a m e := by
  induction m generalizing e with
  | zero => exact Nat.le_refl _
  | succ m ih =>
    rcases cnv_at (sy := sy) (p := p) (r := r) (a := a) (m := m) (e := e) with h1 | ⟨b, h1, h2, h3⟩
    · omega
    · have h4 : cnv sy p r a m b ≤ v := by omega
      have h5 : p (sy r m) b e ≤ v := by omega
      rw [h3]
      refine Nat.le_trans (cnv_le h1 h2) (Nat.add_le_add (ih (fun m' hm' i j hi hij hj => h m' (by omega) i j hi hij (by omega)) h4) (h m (by omega) b e h1 h2 (Nat.le_refl _) h5))
end DP
/-- a grammar: nr rules, heads, lengths, symbols -/
def GW (nr : Nat) (hd ln : Nat → Nat) (sy : Nat → Nat → Nat) : Prop := nr ≤ 20 ∧ ∀ r, r < nr → 9 ≤ hd r ∧ hd r ≤ 14 ∧ ln r ≤ 5 ∧ ∀ m, m < ln r → 1 ≤ sy r m ∧ sy r m ≤ 14
/-- the prices of the signs (lf) and of the kinds agree with the grammar, for the tokens up to n -/
def Fix (nr : Nat) (hd ln : Nat → Nat) (sy : Nat → Nat → Nat) (n : Nat) (lf p : Nat → Nat → Nat → Nat) : Prop :=
  (∀ s i j, 1 ≤ s → s ≤ 8 → i ≤ j → j ≤ n → p s i j = lf s i j) ∧
  (∀ k i j, 9 ≤ k → k ≤ 14 → i ≤ j → j ≤ n → p k i j ≤ dINF) ∧
  (∀ r i j, r < nr → i ≤ j → j ≤ n → p (hd r) i j ≤ cnv sy p r i (ln r) j + 1) ∧
  (∀ k i j, 9 ≤ k → k ≤ 14 → i ≤ j → j ≤ n → p k i j = dINF ∨ ∃ r, r < nr ∧ hd r = k ∧ p k i j = cnv sy p r i (ln r) j + 1)
section FIX
variable {nr : Nat} {hd ln : Nat → Nat} {sy : Nat → Nat → Nat} {n : Nat} {lf p q : Nat → Nat → Nat → Nat}
theorem fix_le (G : GW nr hd ln sy) (FP : Fix nr hd ln sy n lf p) (FQ : Fix nr hd ln sy n lf q) : ∀ v, v < dINF → ∀ k i j, 9 ≤ k → k ≤ 14 → i ≤ j → j ≤ n → p k i j = v → q k i j ≤ v := by
  intro v
  induction v using Nat.strongRecOn with
  | _ v ih =>
    intro hv k i j h9 h14 hij hjn hp
    rcases FP.2.2.2 k i j h9 h14 hij hjn with h | ⟨r, hr, hk, h⟩
    · omega
    · have h2 := FQ.2.2.1 r i j hr hij hjn
      rw [hk] at h2
      have h3 : cnv sy q r i (ln r) j ≤ cnv sy p r i (ln r) j := by
        refine cnv_below (v := v - 1) (by omega) (fun m' hm' i' j' hi' hij' hj' hle => ?_) (by omega)
        have gs := (G.2 r hr).2.2.2 m' hm'
        by_cases h8 : sy r m' ≤ 8
        · rw [FP.1 _ i' j' gs.1 h8 hij' (by omega), FQ.1 _ i' j' gs.1 h8 hij' (by omega)]
          exact Nat.le_refl _
        · exact ih (p (sy r m') i' j') (by omega) (by omega) _ i' j' (by omega) gs.2 hij' (by omega) rfl
      omega
theorem fix_unique (G : GW nr hd ln sy) (FP : Fix nr hd ln sy n lf p) (FQ : Fix nr hd ln sy n lf q) {s i j : Nat} (h1 : 1 ≤ s) (h14 : s ≤ 14) (hij : i ≤ j) (hjn : j ≤ n) : p s i j = q s i j := by
  by_cases h8 : s ≤ 8
  · rw [FP.1 s i j h1 h8 hij hjn, FQ.1 s i j h1 h8 hij hjn]
  · have a1 := FP.2.1 s i j (by omega) h14 hij hjn
    have a2 := FQ.2.1 s i j (by omega) h14 hij hjn
    by_cases b1 : p s i j < dINF
    · have c1 := fix_le G FP FQ _ b1 s i j (by omega) h14 hij hjn rfl
      have c2 := fix_le G FQ FP _ (by omega) s i j (by omega) h14 hij hjn rfl
      omega
    · by_cases b2 : q s i j < dINF
      · have c2 := fix_le G FQ FP _ b2 s i j (by omega) h14 hij hjn rfl
        omega
      · omega
end FIX
/-! there is one -/
def sumR (f : Nat → Nat) : Nat → Nat
  | 0 => 0
  | n + 1 => sumR f n + f n
theorem sumR_le {f g : Nat → Nat} {n : Nat} (h : ∀ x, x < n → f x ≤ g x) : sumR f n ≤ sumR g n := by
  induction n with
  | zero => exact Nat.le_refl _
  | succ n ih => exact Nat.add_le_add (ih (fun x hx => h x (by omega))) (h n (by omega))
theorem sumR_eq {f g : Nat → Nat} {n : Nat} (h : ∀ x, x < n → f x ≤ g x) (he : sumR g n ≤ sumR f n) : ∀ x, x < n → f x = g x := by
  induction n with
  | zero => intro x hx; omega
  | succ n ih =>
    have h1 := sumR_le (fun x hx => h x (Nat.lt_succ_of_lt hx)) (n := n)
    have h2 := h n (by omega)
    have h3 : sumR g n + g n ≤ sumR f n + f n := he
    intro x hx
    by_cases e : x = n
    · subst e; omega
    · exact ih (fun x hx => h x (by omega)) (by omega) x (by omega)
theorem sumR_lt {f g : Nat → Nat} {n y : Nat} (h : ∀ x, x < n → f x ≤ g x) (hy : y < n) (hl : f y < g y) : sumR f n < sumR g n := by
  rcases Nat.lt_or_ge (sumR f n) (sumR g n) with h1 | h1
  · exact h1
  · have := sumR_eq h h1 y hy
    omega
/-- the least over the first c rules whose head is k -/
noncomputable def rul (hd : Nat → Nat) (k : Nat) (f : Nat → Nat) : Nat → Nat
  | 0 => dINF
  | c + 1 => if hd c = k then min (rul hd k f c) (f c) else rul hd k f c
theorem rul_pos {hd : Nat → Nat} {k : Nat} {f : Nat → Nat} {c : Nat} (h : hd c = k) : rul hd k f (c + 1) = min (rul hd k f c) (f c) := if_pos h
theorem rul_neg {hd : Nat → Nat} {k : Nat} {f : Nat → Nat} {c : Nat} (h : ¬ hd c = k) : rul hd k f (c + 1) = rul hd k f c := if_neg h
theorem rul_inf (hd : Nat → Nat) (k : Nat) (f : Nat → Nat) (c : Nat) : rul hd k f c ≤ dINF := by
  induction c with
  | zero => exact Nat.le_refl _
  | succ c ih =>
    unfold rul
    split
    · exact Nat.le_trans (Nat.min_le_left _ _) ih
    · exact ih
theorem rul_le {hd : Nat → Nat} {k : Nat} {f : Nat → Nat} {c r : Nat} (hr : r < c) (hk : hd r = k) : rul hd k f c ≤ f r := by
  induction c with
  | zero => omega
  | succ c ih =>
    unfold rul
    by_cases e : r = c
    · subst e
      rw [if_pos hk]
      exact Nat.min_le_right _ _
    · have := ih (by omega)
      split
      · exact Nat.le_trans (Nat.min_le_left _ _) this
      · exact this
theorem rul_at (hd : Nat → Nat) (k : Nat) (f : Nat → Nat) (c : Nat) : rul hd k f c = dINF ∨ ∃ r, r < c ∧ hd r = k ∧ rul hd k f c = f r := by
  induction c with
  | zero => exact Or.inl rfl
  | succ c ih =>
    by_cases hk : hd c = k
    · by_cases e : rul hd k f c ≤ f c
      · have e1 : rul hd k f (c + 1) = rul hd k f c := by rw [rul_pos hk]; exact Nat.min_eq_left e
        rcases ih with h | ⟨r, h1, h2, h3⟩
        · exact Or.inl (e1.trans h)
        · exact Or.inr ⟨r, by omega, h2, e1.trans h3⟩
      · exact Or.inr ⟨c, by omega, hk, by rw [rul_pos hk]; exact Nat.min_eq_right (by omega)⟩
    · have e1 : rul hd k f (c + 1) = rul hd k f c := rul_neg hk
      rcases ih with h | ⟨r, h1, h2, h3⟩
      · exact Or.inl (e1.trans h)
      · exact Or.inr ⟨r, by omega, h2, e1.trans h3⟩
theorem rul_mono {hd : Nat → Nat} {k : Nat} {f g : Nat → Nat} {c : Nat} (h : ∀ r, r < c → hd r = k → f r ≤ g r) : rul hd k f c ≤ rul hd k g c := by
  rcases rul_at hd k g c with h1 | ⟨r, h1, h2, h3⟩
  · rw [h1]; exact rul_inf _ _ _ _
  · rw [h3]; exact Nat.le_trans (rul_le h1 h2) (h r h1 h2)
/-- the prices after t rounds for all at once -/
noncomputable def itr (nr : Nat) (hd ln : Nat → Nat) (sy : Nat → Nat → Nat) (lf : Nat → Nat → Nat → Nat) : Nat → Nat → Nat → Nat → Nat
  | 0 => fun s i j => if s ≤ 8 then lf s i j else dINF
  | t + 1 => fun s i j => if s ≤ 8 then lf s i j else rul hd s (fun r => cnv sy (itr nr hd ln sy lf t) r i (ln r) j + 1) nr
section EX
variable {nr : Nat} {hd ln : Nat → Nat} {sy : Nat → Nat → Nat} {lf : Nat → Nat → Nat → Nat}
theorem itr_down (t : Nat) (s i j : Nat) : itr nr hd ln sy lf (t + 1) s i j ≤ itr nr hd ln sy lf t s i j := by
  induction t generalizing s i j with
  | zero =>
    unfold itr
    by_cases h : s ≤ 8
    · simp [h]
    · simp only [h, if_false]
      exact rul_inf _ _ _ _
  | succ t ih =>
    show (if s ≤ 8 then lf s i j else _) ≤ (if s ≤ 8 then lf s i j else _)
    by_cases h : s ≤ 8
    · simp [h]
    · simp only [h, if_false]
      exact rul_mono (fun r _ _ => Nat.add_le_add_right (cnv_mono (fun m' _ i j _ _ _ => ih _ i j)) 1)
noncomputable def itrS (nr : Nat) (hd ln : Nat → Nat) (sy : Nat → Nat → Nat) (lf : Nat → Nat → Nat → Nat) (t : Nat) : Nat := sumR (fun x => itr nr hd ln sy lf t (x / 289 + 9) (x / 17 % 17) (x % 17)) 1734
theorem fix_exists (G : GW nr hd ln sy) {n : Nat} (hn : n ≤ 16) : ∃ p, Fix nr hd ln sy n lf p := by
  obtain ⟨v, ⟨t, ht⟩, hmin⟩ := pk_least (fun v => ∃ t, itrS nr hd ln sy lf t = v) ⟨_, 0, rfl⟩
  have hge : itrS nr hd ln sy lf t ≤ itrS nr hd ln sy lf (t + 1) := by
    rcases Nat.lt_or_ge (itrS nr hd ln sy lf (t + 1)) v with h | h
    · exact absurd ⟨t + 1, rfl⟩ (hmin _ h)
    · omega
  have heq := sumR_eq (f := fun x => itr nr hd ln sy lf (t + 1) (x / 289 + 9) (x / 17 % 17) (x % 17)) (g := fun x => itr nr hd ln sy lf t (x / 289 + 9) (x / 17 % 17) (x % 17)) (n := 1734) (fun x _ => itr_down t _ _ _) hge
  have hst : ∀ k i j, 9 ≤ k → k ≤ 14 → i ≤ 16 → j ≤ 16 → itr nr hd ln sy lf (t + 1) k i j = itr nr hd ln sy lf t k i j := by
    intro k i j h1 h2 h3 h4
    have := heq ((k - 9) * 289 + i * 17 + j) (by omega)
    have e1 : ((k - 9) * 289 + i * 17 + j) / 289 + 9 = k := by omega
    have e2 : ((k - 9) * 289 + i * 17 + j) / 17 % 17 = i := by omega
    have e3 : ((k - 9) * 289 + i * 17 + j) % 17 = j := by omega
    simp only [e1, e2, e3] at this
    exact this
  refine ⟨itr nr hd ln sy lf t, ?_, ?_, ?_, ?_⟩
  · intro s i j h1 h8 _ _
    cases t with
    | zero => simp [itr, h8]
    | succ t => simp [itr, h8]
  · intro k i j h1 h2 h3 h4
    rw [← hst k i j h1 h2 (by omega) (by omega)]
    have h : ¬ k ≤ 8 := by omega
    unfold itr
    simp only [h, if_false]
    exact rul_inf _ _ _ _
  · intro r i j hr h3 h4
    have g := G.2 r hr
    rw [← hst (hd r) i j g.1 g.2.1 (by omega) (by omega)]
    have h : ¬ hd r ≤ 8 := by omega
    rw [show itr nr hd ln sy lf (t + 1) (hd r) i j = if hd r ≤ 8 then lf (hd r) i j else rul hd (hd r) (fun r => cnv sy (itr nr hd ln sy lf t) r i (ln r) j + 1) nr from rfl, if_neg h]
    exact rul_le hr rfl
  · intro k i j h1 h2 h3 h4
    have h : ¬ k ≤ 8 := by omega
    have e1 := hst k i j h1 h2 (by omega) (by omega)
    rw [show itr nr hd ln sy lf (t + 1) k i j = if k ≤ 8 then lf k i j else rul hd k (fun r => cnv sy (itr nr hd ln sy lf t) r i (ln r) j + 1) nr from rfl, if_neg h] at e1
    rw [← e1]
    rcases rul_at hd k (fun r => cnv sy (itr nr hd ln sy lf t) r i (ln r) j + 1) nr with h5 | ⟨r, h5, h6, h7⟩
    · exact Or.inl h5
    · exact Or.inr ⟨r, h5, h6, h7⟩
end EX
