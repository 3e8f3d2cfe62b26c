/-! the text, cut into tokens: an abstract step that both sides follow -/
/-- the first place from a on, at most d further, where p holds -/
def srch (p : Nat → Bool) (a : Nat) : Nat → Nat
  | 0 => a
  | d + 1 => if p a = true then a else srch p (a + 1) d
theorem srch_le (p : Nat → Bool) (a d : Nat) : a ≤ srch p a d ∧ srch p a d ≤ a + d := by
  induction d generalizing a with
  | zero => exact ⟨Nat.le_refl _, Nat.le_refl _⟩
  | succ d ih =>
    unfold srch
    split
    · exact ⟨Nat.le_refl _, by omega⟩
    · have := ih (a + 1)
      exact ⟨by omega, by omega⟩
theorem srch_s {p : Nat → Bool} {a d : Nat} (h : ¬ p a = true) : srch p a (d + 1) = srch p (a + 1) d := if_neg h
theorem srch_h {p : Nat → Bool} {a d : Nat} (h : p a = true) : srch p a d = a := by
  cases d with
  | zero => rfl
  | succ d => exact if_pos h
def isDig (c : Nat) : Bool := decide (48 ≤ c ∧ c ≤ 57)
def isLet (c : Nat) : Bool := decide (97 ≤ c ∧ c ≤ 104)
def clsF (tx : Nat → Nat) (len i : Nat) : Nat := srch (fun j => decide (tx j = 125)) (i + 1) (len - (i + 1))
def digF (tx : Nat → Nat) (len a : Nat) : Nat := srch (fun j => !isDig (tx j)) a (len - a)
section TOK
variable {tx : Nat → Nat} {len : Nat} {ct : Nat → Int32}
theorem e_closing (hl : len ≤ 80) (ht : ∀ i, i < len → ct i = nI (tx i)) (hc : ∀ i, i < len → tx i ≤ 126) {i : Nat} (hi : i < len) : f_X1_closing (nI i) (nI len) ct = some (if clsF tx len i < len then nI (clsF tx len i) else -1) := by
  have key : ∀ d a N, a + d = len → d < N → lp_X1_closing_4 (nI len) ct (some (-1)) N (nI a) = some (if srch (fun j => decide (tx j = 125)) a d < len then nI (srch (fun j => decide (tx j = 125)) a d) else -1) := by
    intro d
    induction d with
    | zero =>
      intro a N h1 h2
      obtain ⟨N, rfl⟩ : ∃ M, N = M + 1 := ⟨N - 1, by omega⟩
      simp only [lp_X1_closing_4]
      rw [if_pos ((nI_leI (by omega) (by omega)).mpr (show len ≤ a by omega)), if_neg (show ¬ srch (fun j => decide (tx j = 125)) a 0 < len by show ¬ a < len; omega)]
    | succ d ih =>
      intro a N h1 h2
      obtain ⟨N, rfl⟩ : ∃ M, N = M + 1 := ⟨N - 1, by omega⟩
      have hb := hc a (by omega)
      simp only [lp_X1_closing_4, nm]
      rw [if_neg (fun c => (show ¬ len ≤ a by omega) ((nI_leI (by omega) (by omega)).mp c)), rd_nI (by omega) (by omega), ob, ht a (by omega)]
      by_cases h : tx a = 125
      · rw [if_pos (show nI (tx a) = (125 : Int32) by rw [h]; rfl), srch_h (p := fun j => decide (tx j = 125)) (decide_eq_true h), if_pos (by omega)]
      · rw [if_neg (show ¬ nI (tx a) = (125 : Int32) from fun c => h ((nI_eq (b := 125) (by omega) (by omega)).mp c)), srch_s (p := fun j => decide (tx j = 125)) (by simpa using h), of1, nI_add]
        exact ih (a + 1) N (by omega) (by omega)
  unfold f_X1_closing clsF
  simp only [nm]
  rw [nI_1 i]
  exact key _ (i + 1) FU (by omega) (FU_gt (by omega))
theorem e_commentEnd (hl : len ≤ 80) (ht : ∀ i, i < len → ct i = nI (tx i)) (hc : ∀ i, i < len → tx i ≤ 126) {i : Nat} (hi : i < len) : f_X6_commentEnd (nI i) (nI len) ct = some (if clsF tx len i < len then nI (clsF tx len i + 1) else -1) := by
  have key : ∀ d a N, a + d = len → d < N → lp_X6_commentEnd_4 (nI len) ct (fun x2 => jn_X6_commentEnd_29 (nI len) ct x2) N (nI a) = some (if srch (fun j => decide (tx j = 125)) a d < len then nI (srch (fun j => decide (tx j = 125)) a d + 1) else -1) := by
    intro d
    induction d with
    | zero =>
      intro a N h1 h2
      obtain ⟨N, rfl⟩ : ∃ M, N = M + 1 := ⟨N - 1, by omega⟩
      have hx := (nI_leI (show len < 2 ^ 31 by omega) (show a < 2 ^ 31 by omega)).mpr (show len ≤ a by omega)
      simp only [lp_X6_commentEnd_4, jn_X6_commentEnd_29, jn_X6_commentEnd_44]
      rw [if_pos hx, if_pos hx, if_neg (show ¬ srch (fun j => decide (tx j = 125)) a 0 < len by show ¬ a < len; omega)]
    | succ d ih =>
      intro a N h1 h2
      obtain ⟨N, rfl⟩ : ∃ M, N = M + 1 := ⟨N - 1, by omega⟩
      have hb := hc a (by omega)
      have hx : ¬ nI len ≤ nI a := fun c => (show ¬ len ≤ a by omega) ((nI_leI (by omega) (by omega)).mp c)
      simp only [lp_X6_commentEnd_4, nm]
      rw [if_neg hx, rd_nI (by omega) (by omega), ob, ht a (by omega)]
      by_cases h : tx a = 125
      · rw [if_pos (show nI (tx a) = (125 : Int32) by rw [h]; rfl), srch_h (p := fun j => decide (tx j = 125)) (decide_eq_true h), if_pos (by omega)]
        unfold jn_X6_commentEnd_29 jn_X6_commentEnd_44
        rw [if_neg hx, nI_1 a]
      · rw [if_neg (show ¬ nI (tx a) = (125 : Int32) from fun c => h ((nI_eq (b := 125) (by omega) (by omega)).mp c)), srch_s (p := fun j => decide (tx j = 125)) (by simpa using h), of1, nI_add]
        exact ih (a + 1) N (by omega) (by omega)
  unfold f_X6_commentEnd clsF
  simp only [nm]
  rw [nI_1 i]
  exact key _ (i + 1) FU (by omega) (FU_gt (by omega))
theorem e_isDigit {c : Nat} (h : c < 1000) : f_X5_isDigit (nI c) = some (if isDig c = true then 1 else 0) := by
  unfold f_X5_isDigit jn_X5_isDigit_16 jn_X5_isDigit_17 isDig
  by_cases h1 : c < 48
  · rw [if_pos (show nI c < (48 : Int32) from (nI_ltI (b := 48) (by omega) (by omega)).mpr h1), if_neg (by simp; omega)]
    rfl
  · rw [if_neg (show ¬ nI c < (48 : Int32) from fun x => h1 ((nI_ltI (b := 48) (by omega) (by omega)).mp x))]
    by_cases h2 : 57 < c
    · rw [if_pos (show (57 : Int32) < nI c from (nI_ltI (a := 57) (by omega) (by omega)).mpr h2), if_neg (by simp; omega)]
      rfl
    · rw [if_neg (show ¬ (57 : Int32) < nI c from fun x => h2 ((nI_ltI (a := 57) (by omega) (by omega)).mp x)), if_pos (by simp; omega)]
      rfl
theorem e_behindDigits (hl : len ≤ 80) (ht : ∀ i, i < len → ct i = nI (tx i)) (hc : ∀ i, i < len → tx i ≤ 126) {a : Nat} (ha : a ≤ len) : f_X1_behindDigits (nI a) (nI len) ct = some (nI (digF tx len a)) := by
  have key : ∀ d a N, a + d = len → d < N → lp_X1_behindDigits_2 (nI len) ct (fun x2 => jn_X1_behindDigits_28 (nI len) ct x2) N (nI a) = some (nI (srch (fun j => !isDig (tx j)) a d)) := by
    intro d
    induction d with
    | zero =>
      intro a N h1 h2
      obtain ⟨N, rfl⟩ : ∃ M, N = M + 1 := ⟨N - 1, by omega⟩
      simp only [lp_X1_behindDigits_2, srch, jn_X1_behindDigits_28]
      rw [if_pos ((nI_leI (by omega) (by omega)).mpr (show len ≤ a by omega))]
    | succ d ih =>
      intro a N h1 h2
      obtain ⟨N, rfl⟩ : ∃ M, N = M + 1 := ⟨N - 1, by omega⟩
      have hb := hc a (by omega)
      simp only [lp_X1_behindDigits_2, nm]
      rw [if_neg (fun c => (show ¬ len ≤ a by omega) ((nI_leI (by omega) (by omega)).mp c)), rd_nI (by omega) (by omega), ob, ht a (by omega), e_isDigit (by omega), ob]
      by_cases h : isDig (tx a) = true
      · rw [if_pos h, if_neg (by decide), srch_s (p := fun j => !isDig (tx j)) (by simp [h]), of1, nI_add]
        exact ih (a + 1) N (by omega) (by omega)
      · rw [if_neg h, if_pos rfl, srch_h (p := fun j => !isDig (tx j)) (by simp [h])]
        rfl
  unfold f_X1_behindDigits digF
  simp only [nm]
  exact key _ a FU (by omega) (FU_gt (by omega))
theorem e_tokenEnd (hl : len ≤ 80) (ht : ∀ i, i < len → ct i = nI (tx i)) (hc : ∀ i, i < len → tx i ≤ 126) {i : Nat} (hi : i < len) : f_X6_tokenEnd (nI i) (nI len) ct = some (nI (if isLet (tx i) = true then digF tx len (i + 1) else i + 1)) := by
  have hbi := hc i hi
  have key : isLet (tx i) = true → ∀ d a N, a + d = len → d < N → lp_X6_tokenEnd_4 (nI len) ct (fun x2 => jn_X6_tokenEnd_62 (nI len) ct x2) N (nI i) (nI a) = some (nI (srch (fun j => !isDig (tx j)) a d)) := by
    intro hlet
    have hlet' : 97 ≤ tx i ∧ tx i ≤ 104 := by simpa [isLet] using hlet
    have g1 : ¬ nI (tx i) < (97 : Int32) := fun c => (show ¬ tx i < 97 by omega) ((nI_ltI (b := 97) (by omega) (by omega)).mp c)
    have g2 : ¬ (104 : Int32) < nI (tx i) := fun c => (show ¬ 104 < tx i by omega) ((nI_ltI (a := 104) (by omega) (by omega)).mp c)
    intro d
    induction d with
    | zero =>
      intro a N h1 h2
      obtain ⟨N, rfl⟩ : ∃ M, N = M + 1 := ⟨N - 1, by omega⟩
      simp only [lp_X6_tokenEnd_4, srch, jn_X6_tokenEnd_62]
      rw [rd_nI (by omega) (by omega), ob, ht i hi, if_neg g1, ob, if_neg g2, if_pos ((nI_leI (by omega) (by omega)).mpr (show len ≤ a by omega))]
    | succ d ih =>
      intro a N h1 h2
      obtain ⟨N, rfl⟩ : ∃ M, N = M + 1 := ⟨N - 1, by omega⟩
      have hb := hc a (by omega)
      simp only [lp_X6_tokenEnd_4, nm]
      rw [rd_nI (by omega) (by omega), ob, ht i hi, if_neg g1, ob, if_neg g2, if_neg (fun c => (show ¬ len ≤ a by omega) ((nI_leI (by omega) (by omega)).mp c)), rd_nI (by omega) (by omega), ob, ht a (by omega)]
      by_cases h : isDig (tx a) = true
      · have h' : 48 ≤ tx a ∧ tx a ≤ 57 := by simpa [isDig] using h
        rw [if_neg (show ¬ nI (tx a) < (48 : Int32) from fun c => (show ¬ tx a < 48 by omega) ((nI_ltI (b := 48) (by omega) (by omega)).mp c)), ob, if_neg (show ¬ (57 : Int32) < nI (tx a) from fun c => (show ¬ 57 < tx a by omega) ((nI_ltI (a := 57) (by omega) (by omega)).mp c)), srch_s (p := fun j => !isDig (tx j)) (by simp [h]), of1, nI_add]
        exact ih (a + 1) N (by omega) (by omega)
      · have h' : tx a < 48 ∨ 57 < tx a := by
          have : ¬ (48 ≤ tx a ∧ tx a ≤ 57) := by simpa [isDig] using h
          omega
        rw [srch_h (p := fun j => !isDig (tx j)) (by simp [h])]
        by_cases h1 : tx a < 48
        · rw [if_pos (show nI (tx a) < (48 : Int32) from (nI_ltI (b := 48) (by omega) (by omega)).mpr h1)]
          rfl
        · rw [if_neg (show ¬ nI (tx a) < (48 : Int32) from fun c => h1 ((nI_ltI (b := 48) (by omega) (by omega)).mp c)), ob, if_pos (show (57 : Int32) < nI (tx a) from (nI_ltI (a := 57) (by omega) (by omega)).mpr (by omega))]
          rfl
  unfold f_X6_tokenEnd
  simp only [nm]
  rw [nI_1 i]
  by_cases h : isLet (tx i) = true
  · rw [if_pos h]
    exact key h _ (i + 1) FU (by omega) (FU_gt (by omega))
  · rw [if_neg h]
    obtain ⟨N, hN⟩ : ∃ M, FU = M + 1 := ⟨FU - 1, by have := FU_gt (m := 0) (by omega); omega⟩
    rw [hN]
    simp only [lp_X6_tokenEnd_4, jn_X6_tokenEnd_62]
    have h' : tx i < 97 ∨ 104 < tx i := by
      have : ¬ (97 ≤ tx i ∧ tx i ≤ 104) := by simpa [isLet] using h
      omega
    rw [rd_nI (by omega) (by omega), ob, ht i hi]
    by_cases h1 : tx i < 97
    · rw [if_pos (show nI (tx i) < (97 : Int32) from (nI_ltI (b := 97) (by omega) (by omega)).mpr h1)]
    · rw [if_neg (show ¬ nI (tx i) < (97 : Int32) from fun c => h1 ((nI_ltI (b := 97) (by omega) (by omega)).mp c)), ob, if_pos (show (104 : Int32) < nI (tx i) from (nI_ltI (a := 104) (by omega) (by omega)).mpr (by omega))]
end TOK
