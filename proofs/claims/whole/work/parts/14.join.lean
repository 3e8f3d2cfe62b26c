/-! joinInside -/
def bx (r m e : Nat) : Nat := (r * 6 + m) * 17 + e
def rsy (gs : Nat → Nat) (r m : Nat) : Nat := gs (r * 5 + m)
/-- a rule's price of its first m + 1 symbols, where none has the whole span and the last is not empty -/
noncomputable def insd (gs P Bg : Nat → Nat) (a e r m : Nat) : Nat := mnr (fun b => Bg (bx r m b) + P (sp (rsy gs r m) b e)) (a + 1) (e - (a + 1))
theorem insd_congr {gs P P' Bg Bg' : Nat → Nat} {a e r m : Nat} (he : e ≤ 16) (h : ∀ x, x % 17 ≠ e → Bg x = Bg' x) (hP : ∀ b, a < b → b < e → P (sp (rsy gs r m) b e) = P' (sp (rsy gs r m) b e)) : insd gs P Bg a e r m = insd gs P' Bg' a e r m := by
  refine mnr_congr (fun t ht => ?_)
  show Bg _ + P _ = Bg' _ + P' _
  rw [h (bx r m (a + 1 + t)) (by unfold bx; omega), hP (a + 1 + t) (by omega) (by omega)]
theorem l_joinInside_44 {gs ln P Bg0 : Nat → Nat} {nr a e r : Nat} (G : GW nr (fun _ => 9) ln (rsy gs)) (hr : r < nr) (ha : a ≤ 16) (he : e ≤ 16) (hP : ∀ x, P x ≤ dINF) (k : Int32 → Int32 → Int32 → (Nat → Int64) → Option (Nat → Int64)) (gz : Int32) :
    ∀ n (s : Nat × (Nat → Nat)), ln r - s.1 < n → (s.1 ≤ ln r ∧ (∀ x, s.2 x ≤ dINF) ∧ (∀ x, x % 17 ≠ e ∨ x / 17 < r * 6 + 1 ∨ r * 6 + s.1 < x / 17 → s.2 x = Bg0 x) ∧ ∀ m, m < s.1 → s.2 (bx r (m + 1) e) = insd gs P Bg0 a e r m) →
      ∃ Bg : Nat → Nat, ((∀ x, Bg x ≤ dINF) ∧ (∀ x, x % 17 ≠ e ∨ x / 17 < r * 6 + 1 ∨ r * 6 + ln r < x / 17 → Bg x = Bg0 x) ∧ ∀ m, m < ln r → Bg (bx r (m + 1) e) = insd gs P Bg0 a e r m) ∧
        lp_X0_joinInside_44 gz (nA ln) (nA gs) (lA P) k n (nI a) (nI e) (nI r) (nI ((r * 6 + s.1) * 17)) (nI s.1) (lA s.2) = k (nI a) (nI e) (nI r) (lA Bg) := by
  have g := G.2 r hr
  have hr20 : r < 20 := by have := G.1; omega
  refine loopE (fun n (s : Nat × (Nat → Nat)) => lp_X0_joinInside_44 gz (nA ln) (nA gs) (lA P) k n (nI a) (nI e) (nI r) (nI ((r * 6 + s.1) * 17)) (nI s.1) (lA s.2)) (fun R => ∃ Bg : Nat → Nat, ((∀ x, Bg x ≤ dINF) ∧ (∀ x, x % 17 ≠ e ∨ x / 17 < r * 6 + 1 ∨ r * 6 + ln r < x / 17 → Bg x = Bg0 x) ∧ ∀ m, m < ln r → Bg (bx r (m + 1) e) = insd gs P Bg0 a e r m) ∧ R = k (nI a) (nI e) (nI r) (lA Bg)) (fun s => s.1 ≤ ln r ∧ (∀ x, s.2 x ≤ dINF) ∧ (∀ x, x % 17 ≠ e ∨ x / 17 < r * 6 + 1 ∨ r * 6 + s.1 < x / 17 → s.2 x = Bg0 x) ∧ ∀ m, m < s.1 → s.2 (bx r (m + 1) e) = insd gs P Bg0 a e r m) (fun s => ln r - s.1) ?_
  rintro n ⟨m, Bg⟩ ⟨h1, h2, h3, h4⟩
  dsimp only at h1 h2 h3 h4 ⊢
  by_cases h : ln r ≤ m
  · left
    have e1 : m = ln r := by omega
    subst e1
    refine ⟨Bg, ⟨h2, h3, h4⟩, ?_⟩
    simp only [lp_X0_joinInside_44]
    rw [rd_nA hr20 (by omega), ob, if_pos ((nI_leI (by omega) (by omega)).mpr h)]
  · right
    have gs' := g.2.2.2 m (by omega)
    refine ⟨(m + 1, updN Bg (bx r (m + 1) e) (insd gs P Bg0 a e r m)), ⟨by dsimp only; omega, fun x => ?_, fun x hx => ?_, fun m' hm' => ?_⟩, by dsimp only; omega, ?_⟩
    · dsimp only
      unfold updN
      split
      · exact mnr_inf _ _ _
      · exact h2 x
    · dsimp only at hx ⊢
      rw [updN_n (by unfold bx; omega)]
      exact h3 x (by omega)
    · dsimp only at hm' ⊢
      by_cases e1 : m' = m
      · subst e1; exact updN_s
      · rw [updN_n (by unfold bx; omega)]
        exact h4 m' (by omega)
    · dsimp only
      simp only [lp_X0_joinInside_44, nm]
      rw [rd_nA hr20 (by omega), ob, if_neg (fun c => h ((nI_leI (by omega) (by omega)).mp c)), e_symbolOf (by omega), ob]
      rw [e_leastInside (row := (r * 6 + m) * 17) (s := gs (r * 5 + m)) gs'.1 gs'.2 ha he (by omega) hP h2, ob]
      have e2 : mnr (fun b => Bg ((r * 6 + m) * 17 + b) + P (sp (gs (r * 5 + m)) b e)) (a + 1) (e - (a + 1)) = insd gs P Bg0 a e r m := by
        refine mnr_congr (fun t ht => ?_)
        show Bg _ + _ = Bg0 _ + _
        rw [h3 ((r * 6 + m) * 17 + (a + 1 + t)) (Or.inl (by omega))]
        rfl
      rw [e2, of1, of17, i17, nI_add, nI_add, nI_add]
      have e3 : (r * 6 + m) * 17 + 17 = (r * 6 + (m + 1)) * 17 := by omega
      rw [e3, wr_lA (by omega) (by omega), ob]
      rfl
theorem l_joinInside_2 {gs ln P Bg0 : Nat → Nat} {nr a e : Nat} (G : GW nr (fun _ => 9) ln (rsy gs)) (ha : a ≤ 16) (he : e ≤ 16) (hP : ∀ x, P x ≤ dINF) (k : (Nat → Int64) → Option (Nat → Int64)) :
    ∀ n (s : Nat × (Nat → Nat)), nr - s.1 < n → (s.1 ≤ nr ∧ (∀ x, s.2 x ≤ dINF) ∧ (∀ x, x % 17 ≠ e → s.2 x = Bg0 x) ∧ ∀ r, r < s.1 → s.2 (bx r 0 e) = (if a = e then 0 else dINF) ∧ ∀ m, m < ln r → s.2 (bx r (m + 1) e) = insd gs P Bg0 a e r m) →
      ∃ Bg : Nat → Nat, ((∀ x, Bg x ≤ dINF) ∧ (∀ x, x % 17 ≠ e → Bg x = Bg0 x) ∧ ∀ r, r < nr → Bg (bx r 0 e) = (if a = e then 0 else dINF) ∧ ∀ m, m < ln r → Bg (bx r (m + 1) e) = insd gs P Bg0 a e r m) ∧
        lp_X0_joinInside_2 (nI nr) (nA ln) (nA gs) (lA P) k n (nI a) (nI e) (nI s.1) (lA s.2) = k (lA Bg) := by
  have hnr := G.1
  refine loopE (fun n (s : Nat × (Nat → Nat)) => lp_X0_joinInside_2 (nI nr) (nA ln) (nA gs) (lA P) k n (nI a) (nI e) (nI s.1) (lA s.2)) (fun R => ∃ Bg : Nat → Nat, ((∀ x, Bg x ≤ dINF) ∧ (∀ x, x % 17 ≠ e → Bg x = Bg0 x) ∧ ∀ r, r < nr → Bg (bx r 0 e) = (if a = e then 0 else dINF) ∧ ∀ m, m < ln r → Bg (bx r (m + 1) e) = insd gs P Bg0 a e r m) ∧ R = k (lA Bg)) (fun s => s.1 ≤ nr ∧ (∀ x, s.2 x ≤ dINF) ∧ (∀ x, x % 17 ≠ e → s.2 x = Bg0 x) ∧ ∀ r, r < s.1 → s.2 (bx r 0 e) = (if a = e then 0 else dINF) ∧ ∀ m, m < ln r → s.2 (bx r (m + 1) e) = insd gs P Bg0 a e r m) (fun s => nr - s.1) ?_
  rintro n ⟨r, Bg⟩ ⟨h1, h2, h3, h4⟩
  dsimp only at h1 h2 h3 h4 ⊢
  by_cases h : nr ≤ r
  · left
    have e1 : r = nr := by omega
    subst e1
    refine ⟨Bg, ⟨h2, h3, h4⟩, ?_⟩
    simp only [lp_X0_joinInside_2]
    rw [if_pos ((nI_leI (by omega) (by omega)).mpr h)]
  · right
    have g := G.2 r (by omega)
    have hstep : ∀ v, v ≤ dINF → v = (if a = e then 0 else dINF) → ∃ Bg' : Nat → Nat, ((∀ x, Bg' x ≤ dINF) ∧ (∀ x, x % 17 ≠ e → Bg' x = Bg0 x) ∧ ∀ r', r' < r + 1 → Bg' (bx r' 0 e) = (if a = e then 0 else dINF) ∧ ∀ m, m < ln r' → Bg' (bx r' (m + 1) e) = insd gs P Bg0 a e r' m) ∧
        jn_X0_joinInside_40 (nI nr) (nA ln) (nA gs) (lA P) (lp_X0_joinInside_2 (nI nr) (nA ln) (nA gs) (lA P) k n) (nI a) (nI e) (nI r) (nI ((r * 6 + 0) * 17)) (nI ((r * 6 + 0) * 17) + nI e) (lN v) (lA Bg) = lp_X0_joinInside_2 (nI nr) (nA ln) (nA gs) (lA P) k n (nI a) (nI e) (nI (r + 1)) (lA Bg') := by
      intro v hv hve
      have hB : ∀ x, updN Bg (bx r 0 e) v x ≤ dINF := fun x => by
        unfold updN
        split
        · exact hv
        · exact h2 x
      obtain ⟨Bg', ⟨c1, c2, c3⟩, c4⟩ := l_joinInside_44 (Bg0 := updN Bg (bx r 0 e) v) G (show r < nr by omega) ha he hP (fun x1 x2 x3 h_begun => lp_X0_joinInside_2 (nI nr) (nA ln) (nA gs) (lA P) k n x1 x2 (x3 + Int32.ofInt 1) h_begun) (nI nr) FU (0, updN Bg (bx r 0 e) v) (FU_gt (by dsimp only; omega)) ⟨by dsimp only; omega, hB, fun x _ => rfl, fun m hm => by dsimp only at hm; omega⟩
      have hins : ∀ r' m, insd gs P (updN Bg (bx r 0 e) v) a e r' m = insd gs P Bg0 a e r' m := fun r' m => insd_congr he (fun x hx => by
        rw [updN_n (by unfold bx; omega)]; exact h3 x hx) (fun _ _ _ => rfl)
      refine ⟨Bg', ⟨c1, fun x hx => ?_, fun r' hr' => ⟨?_, fun m hm => ?_⟩⟩, ?_⟩
      · rw [c2 x (Or.inl hx), updN_n (by unfold bx; omega)]
        exact h3 x hx
      · by_cases e1 : r' = r
        · subst e1
          rw [c2 (bx r' 0 e) (Or.inr (Or.inl (by unfold bx; omega))), updN_s]
          exact hve
        · rw [c2 (bx r' 0 e) (Or.inr (Or.inl (by unfold bx; omega))), updN_n (by unfold bx; omega)]
          exact (h4 r' (by omega)).1
      · by_cases e1 : r' = r
        · subst e1
          rw [c3 m hm]
          exact hins r' m
        · have g' := (G.2 r' (by omega)).2.2.1
          rw [c2 (bx r' (m + 1) e) (Or.inr (Or.inl (by unfold bx; omega))), updN_n (by unfold bx; omega)]
          exact (h4 r' (by omega)).2 m hm
      · unfold jn_X0_joinInside_40
        simp only [nm]
        rw [nI_add, wr_lA (by omega) (by omega), ob]
        refine Eq.trans c4 ?_
        rw [of1, nI_add]
    by_cases hae : a = e
    · obtain ⟨Bg', hp, hq⟩ := hstep 0 (Nat.zero_le _) (by rw [if_pos hae])
      refine ⟨(r + 1, Bg'), ⟨by dsimp only; omega, hp⟩, by dsimp only; omega, ?_⟩
      dsimp only
      rw [← hq]
      simp only [lp_X0_joinInside_2, nm]
      rw [if_neg (fun c => h ((nI_leI (by omega) (by omega)).mp c)), show (0 : Int32) = nI 0 from rfl, e_begunRow, ob, if_pos (by rw [hae])]
      rfl
    · obtain ⟨Bg', hp, hq⟩ := hstep dINF (Nat.le_refl _) (by rw [if_neg hae])
      refine ⟨(r + 1, Bg'), ⟨by dsimp only; omega, hp⟩, by dsimp only; omega, ?_⟩
      dsimp only
      rw [← hq]
      simp only [lp_X0_joinInside_2, nm]
      rw [if_neg (fun c => h ((nI_leI (by omega) (by omega)).mp c)), show (0 : Int32) = nI 0 from rfl, e_begunRow, ob, if_neg (fun c => hae ((nI_eq (by omega) (by omega)).mp c)), dINF_l]
theorem e_joinInside {gs ln P Bg0 : Nat → Nat} {nr a e : Nat} (G : GW nr (fun _ => 9) ln (rsy gs)) (ha : a ≤ 16) (he : e ≤ 16) (hP : ∀ x, P x ≤ dINF) (hB : ∀ x, Bg0 x ≤ dINF) :
    ∃ Bg : Nat → Nat, ((∀ x, Bg x ≤ dINF) ∧ (∀ x, x % 17 ≠ e → Bg x = Bg0 x) ∧ ∀ r, r < nr → Bg (bx r 0 e) = (if a = e then 0 else dINF) ∧ ∀ m, m < ln r → Bg (bx r (m + 1) e) = insd gs P Bg0 a e r m) ∧
      f_X0_joinInside (nI a) (nI e) (nI nr) (nA ln) (nA gs) (lA P) (lA Bg0) = some (lA Bg) := by
  have hnr := G.1
  obtain ⟨Bg, h1, h2⟩ := l_joinInside_2 G ha he hP (fun h_begun => some h_begun) FU (0, Bg0) (FU_gt (by dsimp only; omega)) ⟨Nat.zero_le _, hB, fun _ _ => rfl, fun r hr => by dsimp only at hr; omega⟩
  exact ⟨Bg, h1, h2⟩
