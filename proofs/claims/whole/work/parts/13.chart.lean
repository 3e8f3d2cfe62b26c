/-! the class's chart: its pure functions over rows of Nat -/
theorem ob {α β : Type} {a : α} {f : α → Option β} : (some a).bind f = f a := rfl
theorem e_symbolOf {gs : Nat → Nat} {r m : Nat} (h : r * 5 + m < 100) : f_X2_symbolOf (nI r) (nI m) (nA gs) = some (nI (gs (r * 5 + m))) := by
  unfold f_X2_symbolOf
  rw [show (5 : Int32) = nI 5 from rfl, nI_mul, nI_add, rd_nA h (by omega)]
  rfl
theorem e_hintOf {gs : Nat → Nat} {r m : Nat} (h : r * 5 + m < 100) : f_X2_hintOf (nI r) (nI m) (nA gs) = some (nI (gs (r * 5 + m))) := by
  unfold f_X2_hintOf
  rw [show (5 : Int32) = nI 5 from rfl, nI_mul, nI_add, rd_nA h (by omega)]
  rfl
theorem of1 : Int32.ofInt 1 = nI 1 := rfl
theorem of17 : Int32.ofInt 17 = nI 17 := rfl
theorem i1 : (1 : Int32) = nI 1 := rfl
theorem i17 : (17 : Int32) = nI 17 := rfl
theorem l_leastInside {P Bg : Nat → Nat} {row s a e : Nat} (h1 : 1 ≤ s) (h14 : s ≤ 14) (ha : a ≤ 16) (he : e ≤ 16) (hrow : row + 16 < 2040) (hP : ∀ x, P x ≤ dINF) (hB : ∀ x, Bg x ≤ dINF) (k : Int64 → Option Int64) :
    ∀ n t, e - (a + 1) - t < n → t ≤ e - (a + 1) → lp_X0_leastInside_19 (lA P) (lA Bg) k n (nI row) (nI e) (lN (mnr (fun b => Bg (row + b) + P (sp s b e)) (a + 1) t)) (nI (sp s (a + t) e)) (nI (a + 1 + t)) = k (lN (mnr (fun b => Bg (row + b) + P (sp s b e)) (a + 1) (e - (a + 1)))) := by
  have hI := dINF_v
  refine loopE (fun n t => lp_X0_leastInside_19 (lA P) (lA Bg) k n (nI row) (nI e) (lN (mnr (fun b => Bg (row + b) + P (sp s b e)) (a + 1) t)) (nI (sp s (a + t) e)) (nI (a + 1 + t))) (fun r => r = k (lN (mnr (fun b => Bg (row + b) + P (sp s b e)) (a + 1) (e - (a + 1))))) (fun t => t ≤ e - (a + 1)) (fun t => e - (a + 1) - t) ?_
  intro n t ht
  by_cases h : e ≤ a + 1 + t
  · left
    have e1 : t = e - (a + 1) := by omega
    subst e1
    simp only [lp_X0_leastInside_19]
    rw [if_pos ((nI_leI (by omega) (by omega)).mpr h)]
  · right
    refine ⟨t + 1, by omega, by omega, ?_⟩
    simp only [lp_X0_leastInside_19, nm]
    rw [if_neg (fun c => h ((nI_leI (by omega) (by omega)).mp c))]
    have e1 : sp s (a + t) e + 17 = sp s (a + (t + 1)) e := by unfold sp; omega
    have e2 : a + (t + 1) = a + 1 + t := by omega
    rw [of17, of1, nI_add, nI_add, nI_add, e1, e2, rd_lA (by omega) (by omega), ob, rd_lA (sp_lt h14 (by omega) he h1) (by omega), ob]
    have b1 := hB (row + (a + 1 + t))
    have b2 := hP (sp s (a + 1 + t) e)
    have b3 := mnr_inf (fun b => Bg (row + b) + P (sp s b e)) (a + 1) t
    rw [lN_add, lN_min (by omega) (by omega)]
    rfl
theorem e_leastInside {P Bg : Nat → Nat} {row s a e : Nat} (h1 : 1 ≤ s) (h14 : s ≤ 14) (ha : a ≤ 16) (he : e ≤ 16) (hrow : row + 16 < 2040) (hP : ∀ x, P x ≤ dINF) (hB : ∀ x, Bg x ≤ dINF) :
    f_X0_leastInside (nI row) (nI s) (nI a) (nI e) (lA P) (lA Bg) = some (lN (mnr (fun b => Bg (row + b) + P (sp s b e)) (a + 1) (e - (a + 1)))) := by
  unfold f_X0_leastInside
  simp only [nm]
  rw [e_spot h1, ob, i1, nI_add, dINF_l]
  exact l_leastInside h1 h14 ha he hrow hP hB (fun x5 => some x5) FU 0 (FU_gt (by omega)) (by omega)
