/-! the tree, grown step by step: an abstract machine that both sides follow -/
abbrev SE : Type := Nat × Nat × Nat × Nat × Nat
abbrev PE : Type := Nat × Nat × Nat × Nat × Nat × Nat × Nat
abbrev AST : Type := Nat × (Nat → SE) × (Nat → PE)
def pSy (q : PE) : Nat := q.1
def pFr (q : PE) : Nat := q.2.1
def pTo (q : PE) : Nat := q.2.2.1
def pPa (q : PE) : Nat := q.2.2.2.1
def pPl (q : PE) : Nat := q.2.2.2.2.1
def pRu (q : PE) : Nat := q.2.2.2.2.2.1
def pDp (q : PE) : Nat := q.2.2.2.2.2.2
def sSy (q : SE) : Nat := q.1
def sFr (q : SE) : Nat := q.2.1
def sTo (q : SE) : Nat := q.2.2.1
def sPa (q : SE) : Nat := q.2.2.2.1
def sPl (q : SE) : Nat := q.2.2.2.2
/-- the rule of the best node, and where its parts begin -/
def isRf (nr : Nat) (hd ln : Nat → Nat) (sy : Nat → Nat → Nat) (D : Nat → Nat → Nat → Nat) (k i j r : Nat) : Prop := r < nr ∧ hd r = k ∧ good hd ln sy D i j r ∧ ∀ r', r' < r → hd r' = k → ¬ good hd ln sy D i j r'
noncomputable def rfn (nr : Nat) (hd ln : Nat → Nat) (sy : Nat → Nat → Nat) (D : Nat → Nat → Nat → Nat) (k i j : Nat) : Nat := Classical.epsilon (fun r => isRf nr hd ln sy D k i j r)
noncomputable def cfn (ln : Nat → Nat) (sy : Nat → Nat → Nat) (D : Nat → Nat → Nat → Nat) (r i j : Nat) : Nat → Nat := Classical.epsilon (fun cu => isCut sy D (ln r) r i j cu)
theorem isRf_unique {nr : Nat} {hd ln : Nat → Nat} {sy : Nat → Nat → Nat} {D : Nat → Nat → Nat → Nat} {k i j r r' : Nat} (h : isRf nr hd ln sy D k i j r) (h' : isRf nr hd ln sy D k i j r') : r = r' := by
  rcases Nat.lt_trichotomy r r' with c | c | c
  · exact absurd h.2.2.1 (h'.2.2.2 r c h.2.1)
  · exact c
  · exact absurd h'.2.2.1 (h.2.2.2 r' c h'.2.1)
theorem rfn_eq {nr : Nat} {hd ln : Nat → Nat} {sy : Nat → Nat → Nat} {D : Nat → Nat → Nat → Nat} {k i j r : Nat} (h : isRf nr hd ln sy D k i j r) : rfn nr hd ln sy D k i j = r := isRf_unique (Classical.epsilon_spec ⟨r, h⟩) h
theorem cfn_is {ln : Nat → Nat} {sy : Nat → Nat → Nat} {D : Nat → Nat → Nat → Nat} {r i j : Nat} {cu : Nat → Nat} (h : isCut sy D (ln r) r i j cu) : isCut sy D (ln r) r i j (cfn ln sy D r i j) := Classical.epsilon_spec (p := fun cu => isCut sy D (ln r) r i j cu) ⟨cu, h⟩
theorem cfn_eq {ln : Nat → Nat} {sy : Nat → Nat → Nat} {D : Nat → Nat → Nat → Nat} {r i j : Nat} {cu : Nat → Nat} (h : isCut sy D (ln r) r i j cu) : ∀ m, m ≤ ln r → cfn ln sy D r i j m = cu m := isCut_unique (cfn_is h) h
section AST
variable {nr : Nat} {hd ln sg : Nat → Nat} {sy : Nat → Nat → Nat} {n : Nat} {D : Nat → Nat → Nat → Nat}
theorem isRf_ex (G : GW nr hd ln sy) (F : Fix nr hd ln sy n (lf32 sg) D) {k i j : Nat} (k9 : 9 ≤ k) (k14 : k ≤ 14) (hij : i ≤ j) (hjn : j ≤ n) (hf : D k i j < dINF) : ∃ r, isRf nr hd ln sy D k i j r := by
  have hex : ∃ r, r < nr ∧ hd r = k ∧ good hd ln sy D i j r := by
    rcases F.2.2.2 k i j k9 k14 hij hjn with c | ⟨r, hr, hk, c⟩
    · omega
    · exact ⟨r, hr, hk, by omega, by rw [hk]; exact c.symm⟩
  obtain ⟨r, h1, h2⟩ := pk_least (fun r => r < nr ∧ hd r = k ∧ good hd ln sy D i j r) hex
  exact ⟨r, h1.1, h1.2.1, h1.2.2, fun r' hr' hk' hg => h2 r' hr' ⟨by have := h1.1; omega, hk', hg⟩⟩
/-- the cuts of a finite rule are there -/
theorem isCut_ex {p : Nat → Nat → Nat → Nat} {r i : Nat} : ∀ l j, i ≤ j → cnv sy p r i l j < dINF → ∃ cu, isCut sy p l r i j cu := by
  intro l
  induction l with
  | zero => intro j hij hf; exact ⟨fun _ => j, rfl, fun m hm => by omega⟩
  | succ l ih =>
    intro j hij hf
    have hex : ∃ d, d ≤ j - i ∧ cnv sy p r i l (j - d) + p (sy r l) (j - d) j = cnv sy p r i (l + 1) j := by
      rcases cnv_at (sy := sy) (p := p) (r := r) (a := i) (m := l) (e := j) with c | ⟨b, p1, p2, p3⟩
      · omega
      · exact ⟨j - b, by omega, by rw [show j - (j - b) = b by omega]; exact p3.symm⟩
    obtain ⟨d, ⟨h1, h2⟩, h3⟩ := pk_least (fun d => d ≤ j - i ∧ cnv sy p r i l (j - d) + p (sy r l) (j - d) j = cnv sy p r i (l + 1) j) hex
    obtain ⟨cu, c1, c2⟩ := ih (j - d) (by omega) (by omega)
    refine ⟨fun m => if m ≤ l then cu m else j, ?_, fun m hm => ?_⟩
    · show (if l + 1 ≤ l then _ else j) = j
      rw [if_neg (by omega)]
    · by_cases e1 : m = l
      · subst e1
        show i ≤ (if m ≤ m then cu m else j) ∧ (if m ≤ m then cu m else j) ≤ (if m + 1 ≤ m then cu (m + 1) else j) ∧ cnv sy p r i m (if m ≤ m then cu m else j) + p _ (if m ≤ m then cu m else j) (if m + 1 ≤ m then cu (m + 1) else j) = cnv sy p r i (m + 1) (if m + 1 ≤ m then cu (m + 1) else j) ∧ ∀ b, (if m ≤ m then cu m else j) < b → b ≤ (if m + 1 ≤ m then cu (m + 1) else j) → _ + p _ b (if m + 1 ≤ m then cu (m + 1) else j) ≠ cnv sy p r i (m + 1) (if m + 1 ≤ m then cu (m + 1) else j)
        rw [if_pos (Nat.le_refl _), if_neg (by omega), c1]
        refine ⟨by omega, by omega, h2, fun b p1 p2 c => h3 (j - b) (by omega) ⟨by omega, ?_⟩⟩
        rw [show j - (j - b) = b by omega]
        exact c
      · show i ≤ (if m ≤ l then cu m else j) ∧ (if m ≤ l then cu m else j) ≤ (if m + 1 ≤ l then cu (m + 1) else j) ∧ cnv sy p r i m (if m ≤ l then cu m else j) + p _ (if m ≤ l then cu m else j) (if m + 1 ≤ l then cu (m + 1) else j) = cnv sy p r i (m + 1) (if m + 1 ≤ l then cu (m + 1) else j) ∧ ∀ b, (if m ≤ l then cu m else j) < b → b ≤ (if m + 1 ≤ l then cu (m + 1) else j) → _ + p _ b (if m + 1 ≤ l then cu (m + 1) else j) ≠ cnv sy p r i (m + 1) (if m + 1 ≤ l then cu (m + 1) else j)
        rw [if_pos (by omega), if_pos (by omega)]
        exact c2 m (by omega)
end AST
/-- the length of what a popped entry brings -/
noncomputable def aLn (nr : Nat) (hd ln : Nat → Nat) (sy : Nat → Nat → Nat) (D : Nat → Nat → Nat → Nat) (q : SE) : Nat := if sSy q ≤ 8 then 0 else ln (rfn nr hd ln sy D (sSy q) (sFr q) (sTo q))
def aDp (P : Nat → PE) (q : SE) : Nat := if sPa q = 999 then 0 else pDp (P (sPa q)) + 1
/-- one step: the entry on top becomes part t -/
noncomputable def astep (nr : Nat) (hd ln : Nat → Nat) (sy : Nat → Nat → Nat) (D : Nat → Nat → Nat → Nat) (t : Nat) (a : AST) : AST :=
  (a.1 - 1 + aLn nr hd ln sy D (a.2.1 (a.1 - 1)),
   fun x => if x < a.1 - 1 then a.2.1 x else
     (sy (rfn nr hd ln sy D (sSy (a.2.1 (a.1 - 1))) (sFr (a.2.1 (a.1 - 1))) (sTo (a.2.1 (a.1 - 1)))) (aLn nr hd ln sy D (a.2.1 (a.1 - 1)) - 1 - (x - (a.1 - 1))),
      cfn ln sy D (rfn nr hd ln sy D (sSy (a.2.1 (a.1 - 1))) (sFr (a.2.1 (a.1 - 1))) (sTo (a.2.1 (a.1 - 1)))) (sFr (a.2.1 (a.1 - 1))) (sTo (a.2.1 (a.1 - 1))) (aLn nr hd ln sy D (a.2.1 (a.1 - 1)) - 1 - (x - (a.1 - 1))),
      cfn ln sy D (rfn nr hd ln sy D (sSy (a.2.1 (a.1 - 1))) (sFr (a.2.1 (a.1 - 1))) (sTo (a.2.1 (a.1 - 1)))) (sFr (a.2.1 (a.1 - 1))) (sTo (a.2.1 (a.1 - 1))) (aLn nr hd ln sy D (a.2.1 (a.1 - 1)) - 1 - (x - (a.1 - 1)) + 1),
      t, aLn nr hd ln sy D (a.2.1 (a.1 - 1)) - 1 - (x - (a.1 - 1))),
   fun k => if k = t then (sSy (a.2.1 (a.1 - 1)), sFr (a.2.1 (a.1 - 1)), sTo (a.2.1 (a.1 - 1)), sPa (a.2.1 (a.1 - 1)), sPl (a.2.1 (a.1 - 1)), rfn nr hd ln sy D (sSy (a.2.1 (a.1 - 1))) (sFr (a.2.1 (a.1 - 1))) (sTo (a.2.1 (a.1 - 1))), aDp a.2.2 (a.2.1 (a.1 - 1))) else a.2.2 k)
/-- what holds of the machine after t steps -/
def AI (nr : Nat) (ln : Nat → Nat) (n : Nat) (D : Nat → Nat → Nat → Nat) (t : Nat) (a : AST) : Prop :=
  a.1 ≤ 1 + 4 * t ∧
  (∀ w, w < a.1 → 1 ≤ sSy (a.2.1 w) ∧ sSy (a.2.1 w) ≤ 14 ∧ sFr (a.2.1 w) ≤ sTo (a.2.1 w) ∧ sTo (a.2.1 w) ≤ n ∧ D (sSy (a.2.1 w)) (sFr (a.2.1 w)) (sTo (a.2.1 w)) < dINF ∧ (sPa (a.2.1 w) = 999 ∨ (sPa (a.2.1 w) < t ∧ 9 ≤ pSy (a.2.2 (sPa (a.2.1 w))) ∧ sPl (a.2.1 w) < ln (pRu (a.2.2 (sPa (a.2.1 w))))))) ∧
  (∀ k, k < t → 1 ≤ pSy (a.2.2 k) ∧ pSy (a.2.2 k) ≤ 14 ∧ pFr (a.2.2 k) ≤ pTo (a.2.2 k) ∧ pTo (a.2.2 k) ≤ n ∧ (9 ≤ pSy (a.2.2 k) → pRu (a.2.2 k) < nr) ∧ pDp (a.2.2 k) ≤ t ∧ (pPa (a.2.2 k) = 999 ∨ (pPa (a.2.2 k) < k ∧ 9 ≤ pSy (a.2.2 (pPa (a.2.2 k))) ∧ pPl (a.2.2 k) < ln (pRu (a.2.2 (pPa (a.2.2 k)))))))

theorem AI.step {nr : Nat} {hd ln sg : Nat → Nat} {sy : Nat → Nat → Nat} {n : Nat} {D : Nat → Nat → Nat → Nat} (G : GW nr hd ln sy) (F : Fix nr hd ln sy n (lf32 sg) D) (hn : n ≤ 16) {t : Nat} {a : AST} (ht : t < 150) (h : AI nr ln n D t a) (hW : 0 < a.1) : AI nr ln n D (t + 1) (astep nr hd ln sy D t a) ∧ (9 ≤ sSy (a.2.1 (a.1 - 1)) → isRf nr hd ln sy D (sSy (a.2.1 (a.1 - 1))) (sFr (a.2.1 (a.1 - 1))) (sTo (a.2.1 (a.1 - 1))) (rfn nr hd ln sy D (sSy (a.2.1 (a.1 - 1))) (sFr (a.2.1 (a.1 - 1))) (sTo (a.2.1 (a.1 - 1)))) ∧ isCut sy D (ln (rfn nr hd ln sy D (sSy (a.2.1 (a.1 - 1))) (sFr (a.2.1 (a.1 - 1))) (sTo (a.2.1 (a.1 - 1))))) (rfn nr hd ln sy D (sSy (a.2.1 (a.1 - 1))) (sFr (a.2.1 (a.1 - 1))) (sTo (a.2.1 (a.1 - 1)))) (sFr (a.2.1 (a.1 - 1))) (sTo (a.2.1 (a.1 - 1))) (cfn ln sy D (rfn nr hd ln sy D (sSy (a.2.1 (a.1 - 1))) (sFr (a.2.1 (a.1 - 1))) (sTo (a.2.1 (a.1 - 1)))) (sFr (a.2.1 (a.1 - 1))) (sTo (a.2.1 (a.1 - 1)))) ∧ cnv sy D (rfn nr hd ln sy D (sSy (a.2.1 (a.1 - 1))) (sFr (a.2.1 (a.1 - 1))) (sTo (a.2.1 (a.1 - 1)))) (sFr (a.2.1 (a.1 - 1))) (ln (rfn nr hd ln sy D (sSy (a.2.1 (a.1 - 1))) (sFr (a.2.1 (a.1 - 1))) (sTo (a.2.1 (a.1 - 1))))) (sTo (a.2.1 (a.1 - 1))) < dINF) := by
  obtain ⟨h1, h2, h3⟩ := h
  obtain ⟨W, S, P⟩ := a
  dsimp only at h1 h2 h3 hW ⊢
  obtain ⟨q1, q14, qft, qtn, qD, qp⟩ := h2 (W - 1) (by omega)
  generalize hq : S (W - 1) = q at q1 q14 qft qtn qD qp
  obtain ⟨s, i, e, p, l⟩ := q
  have hs : sSy (s, i, e, p, l) = s := rfl
  have hi : sFr (s, i, e, p, l) = i := rfl
  have he : sTo (s, i, e, p, l) = e := rfl
  have hp : sPa (s, i, e, p, l) = p := rfl
  have hl : sPl (s, i, e, p, l) = l := rfl
  rw [hs] at q1 q14 qD
  rw [hi] at qft qD
  rw [he] at qft qtn qD
  rw [hp, hl] at qp
  have node : 9 ≤ s → isRf nr hd ln sy D s i e (rfn nr hd ln sy D s i e) ∧ isCut sy D (ln (rfn nr hd ln sy D s i e)) (rfn nr hd ln sy D s i e) i e (cfn ln sy D (rfn nr hd ln sy D s i e) i e) ∧ cnv sy D (rfn nr hd ln sy D s i e) i (ln (rfn nr hd ln sy D s i e)) e < dINF := by
    intro h9
    obtain ⟨r, hr⟩ := isRf_ex G F h9 q14 qft qtn qD
    rw [rfn_eq hr]
    have hf : cnv sy D r i (ln r) e < dINF := by have := hr.2.2.1.1; omega
    obtain ⟨cu, hc⟩ := isCut_ex (sy := sy) (p := D) (r := r) (i := i) (ln r) e qft hf
    exact ⟨hr, cfn_is hc, hf⟩
  refine ⟨?_, node⟩
  have hal : aLn nr hd ln sy D (s, i, e, p, l) = if s ≤ 8 then 0 else ln (rfn nr hd ln sy D s i e) := rfl
  have hst : astep nr hd ln sy D t (W, S, P) = (W - 1 + aLn nr hd ln sy D (s, i, e, p, l), fun x => if x < W - 1 then S x else (sy (rfn nr hd ln sy D s i e) (aLn nr hd ln sy D (s, i, e, p, l) - 1 - (x - (W - 1))), cfn ln sy D (rfn nr hd ln sy D s i e) i e (aLn nr hd ln sy D (s, i, e, p, l) - 1 - (x - (W - 1))), cfn ln sy D (rfn nr hd ln sy D s i e) i e (aLn nr hd ln sy D (s, i, e, p, l) - 1 - (x - (W - 1)) + 1), t, aLn nr hd ln sy D (s, i, e, p, l) - 1 - (x - (W - 1))), fun k => if k = t then (s, i, e, p, l, rfn nr hd ln sy D s i e, aDp P (s, i, e, p, l)) else P k) := by
    show astep nr hd ln sy D t (W, S, P) = _
    unfold astep
    dsimp only
    rw [hq]
    rfl
  have hP : ∀ k, k < t → (if k = t then (s, i, e, p, l, rfn nr hd ln sy D s i e, aDp P (s, i, e, p, l)) else P k) = P k := fun k hk => if_neg (by omega)
  have hdp : aDp P (s, i, e, p, l) ≤ t + 1 := by
    show (if p = 999 then 0 else pDp (P p) + 1) ≤ t + 1
    split
    · omega
    · next c =>
      have := (h3 p (by omega)).2.2.2.2.2.1
      omega
  rw [hst]
  refine ⟨?_, fun w hw => ?_, fun k hk => ?_⟩
  · dsimp only
    rw [hal]
    split
    · omega
    · next c =>
      have hr := (node (by omega)).1
      have := (G.2 _ hr.1).2.2.1
      omega
  · dsimp only at hw ⊢
    by_cases c : w < W - 1
    · rw [if_pos c]
      obtain ⟨a1, a2, a3, a4, a5, a6⟩ := h2 w (by omega)
      refine ⟨a1, a2, a3, a4, a5, ?_⟩
      rcases a6 with a6 | ⟨b1, b2, b3⟩
      · exact Or.inl a6
      · right
        rw [hP _ b1]
        exact ⟨by omega, b2, b3⟩
    · rw [if_neg c]
      have h8 : ¬ s ≤ 8 := fun c8 => by
        rw [hal, if_pos c8] at hw
        omega
      rw [hal, if_neg h8] at hw ⊢
      obtain ⟨n1, n2, n3⟩ := node (by omega)
      generalize hr : rfn nr hd ln sy D s i e = r at n1 n2 n3 hw ⊢
      generalize hm : ln r - 1 - (w - (W - 1)) = m
      have hml : m < ln r := by omega
      have gm := (G.2 r n1.1).2.2.2 m hml
      obtain ⟨b1, b2, b3, b4⟩ := n2.2 m hml
      have b5 := isCut_le n2 (m + 1) (by omega)
      have b6 := isCut_fin n2 n3 (m + 1) (by omega)
      refine ⟨gm.1, gm.2, b2, Nat.le_trans b5 qtn, ?_, Or.inr ⟨?_, ?_, ?_⟩⟩
      · show D (sy r m) (cfn ln sy D r i e m) (cfn ln sy D r i e (m + 1)) < dINF
        omega
      · show t < t + 1
        omega
      · show 9 ≤ pSy (if t = t then _ else _)
        rw [if_pos rfl]
        show 9 ≤ s
        omega
      · show m < ln (pRu (if t = t then _ else _))
        rw [if_pos rfl]
        exact hml
  · dsimp only
    by_cases c : k = t
    · subst c
      rw [if_pos rfl]
      refine ⟨q1, q14, qft, qtn, fun h9 => (node h9).1.1, hdp, ?_⟩
      show p = 999 ∨ (p < k ∧ 9 ≤ pSy (if p = k then _ else P p) ∧ l < ln (pRu (if p = k then _ else P p)))
      rcases qp with c | ⟨c1, c2, c3⟩
      · exact Or.inl c
      · right
        rw [if_neg (by omega)]
        exact ⟨c1, c2, c3⟩
    · rw [if_neg c]
      obtain ⟨a1, a2, a3, a4, a5, a6, a7⟩ := h3 k (by omega)
      refine ⟨a1, a2, a3, a4, a5, by omega, ?_⟩
      rcases a7 with a7 | ⟨b1, b2, b3⟩
      · exact Or.inl a7
      · right
        rw [hP _ (by omega)]
        exact ⟨b1, b2, b3⟩
