/-! how many rounds settle a span -/
def rnk (D : Nat → Nat → Nat → Nat) (a e k : Nat) : Nat := sumR (fun x => if D (9 + x) a e < D k a e then 1 else 0) 6
theorem rnk_lt {D : Nat → Nat → Nat → Nat} {a e k k' : Nat} (h9 : 9 ≤ k') (h14 : k' ≤ 14) (h : D k' a e < D k a e) : rnk D a e k' < rnk D a e k := by
  refine sumR_lt (y := k' - 9) (fun x _ => ?_) (by omega) ?_
  · by_cases h1 : D (9 + x) a e < D k' a e
    · rw [if_pos h1, if_pos (by omega)]; exact Nat.le_refl _
    · rw [if_neg h1]; exact Nat.zero_le _
  · have e1 : 9 + (k' - 9) = k' := by omega
    show (if D (9 + (k' - 9)) a e < D k' a e then 1 else 0) < (if D (9 + (k' - 9)) a e < D k a e then 1 else 0)
    rw [e1, if_neg (Nat.lt_irrefl _), if_pos h]
    exact Nat.zero_lt_one
theorem sumR_one {n : Nat} {f : Nat → Nat} (h : ∀ x, x < n → f x ≤ 1) : sumR f n ≤ n := by
  induction n with
  | zero => exact Nat.le_refl _
  | succ n ih => exact Nat.add_le_add (ih (fun x hx => h x (by omega))) (h n (by omega))
theorem rnk_6 {D : Nat → Nat → Nat → Nat} {a e k : Nat} (h9 : 9 ≤ k) (h14 : k ≤ 14) : rnk D a e k < 6 := by
  have h := sumR_lt (f := fun x => if D (9 + x) a e < D k a e then 1 else 0) (g := fun _ => 1) (n := 6) (y := k - 9) (fun x _ => by
    show (if D (9 + x) a e < D k a e then 1 else 0) ≤ 1
    split <;> omega) (by omega) (by
    have e1 : 9 + (k - 9) = k := by omega
    show (if D (9 + (k - 9)) a e < D k a e then 1 else 0) < 1
    rw [e1, if_neg (Nat.lt_irrefl _)]
    exact Nat.zero_lt_one)
  have h2 : sumR (fun _ => 1) 6 ≤ 6 := sumR_one (fun _ _ => Nat.le_refl _)
  unfold rnk
  omega
section RANK
variable {nr : Nat} {hd ln : Nat → Nat} {sy : Nat → Nat → Nat} {n : Nat} {lf D p : Nat → Nat → Nat → Nat} {a e : Nat}
/-- off the span (a, e) the prices p are D's, and the signs' everywhere -/
def offS (D p : Nat → Nat → Nat → Nat) (a e : Nat) : Prop := ∀ s i j, 1 ≤ s → s ≤ 14 → a ≤ i → i ≤ j → j ≤ e → (s ≤ 8 ∨ ¬ (i = a ∧ j = e)) → p s i j = D s i j
theorem rank_step (G : GW nr hd ln sy) (F : Fix nr hd ln sy n lf D) (hae : a ≤ e) (hen : e ≤ n) (ho : offS D p a e) {t : Nat} (hx : ∀ k, 9 ≤ k → k ≤ 14 → rnk D a e k < t → p k a e = D k a e)
    {k : Nat} (h9 : 9 ≤ k) (h14 : k ≤ 14) (hk : rnk D a e k < t + 1) (hf : D k a e < dINF) : ∃ r, r < nr ∧ hd r = k ∧ cnv sy p r a (ln r) e + 1 ≤ D k a e := by
  rcases F.2.2.2 k a e h9 h14 hae hen with h | ⟨r, hr, hk2, h⟩
  · omega
  · refine ⟨r, hr, hk2, ?_⟩
    have : cnv sy p r a (ln r) e ≤ cnv sy D r a (ln r) e := by
      refine cnv_below (v := cnv sy D r a (ln r) e) (by omega) (fun m' hm' i j h1 h2 h3 h4 => ?_) (Nat.le_refl _)
      have gs := (G.2 r hr).2.2.2 m' hm'
      by_cases h8 : sy r m' ≤ 8
      · exact Nat.le_of_eq (ho _ i j gs.1 gs.2 h1 h2 h3 (Or.inl h8))
      · by_cases hij : i = a ∧ j = e
        · obtain ⟨rfl, rfl⟩ := hij
          refine Nat.le_of_eq (hx _ (by omega) gs.2 ?_)
          have := rnk_lt (D := D) (a := i) (e := j) (k := k) (k' := sy r m') (by omega) gs.2 (by omega)
          omega
        · exact Nat.le_of_eq (ho _ i j gs.1 gs.2 h1 h2 h3 (Or.inr hij))
    omega
/-- where no rule can better a span any more, it has its least prices -/
theorem rank_stable (G : GW nr hd ln sy) (F : Fix nr hd ln sy n lf D) (hae : a ≤ e) (hen : e ≤ n) (ho : offS D p a e) (hge : ∀ k, 9 ≤ k → k ≤ 14 → D k a e ≤ p k a e ∧ p k a e ≤ dINF)
    (hs : ∀ r, r < nr → p (hd r) a e ≤ cnv sy p r a (ln r) e + 1) : ∀ k, 9 ≤ k → k ≤ 14 → p k a e = D k a e := by
  have key : ∀ t k, 9 ≤ k → k ≤ 14 → rnk D a e k < t → p k a e = D k a e := by
    intro t
    induction t with
    | zero => intro k _ _ h; omega
    | succ t ih =>
      intro k h9 h14 hk
      have hg := hge k h9 h14
      by_cases hf : D k a e < dINF
      · obtain ⟨r, hr, hk2, hle⟩ := rank_step G F hae hen ho ih h9 h14 hk hf
        have := hs r hr
        rw [hk2] at this
        omega
      · omega
  intro k h9 h14
  exact key 6 k h9 h14 (rnk_6 h9 h14)
end RANK
