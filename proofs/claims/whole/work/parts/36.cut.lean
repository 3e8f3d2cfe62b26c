/-! one step of the cut, on both sides -/
abbrev TS : Type := Nat × Nat × Nat × (Nat → Nat) × (Nat → Nat) × (Nat → Nat) × (Nat → Nat) × (Nat → Nat) × (Nat → Nat)
def tEnd (tx : Nat → Nat) (len a : Nat) : Nat := if isLet (tx a) = true then digF tx len (a + 1) else a + 1
/-- place, tokens, comments; starts, lengths, signs, first comments; comments' starts and lengths -/
def tstep (tx : Nat → Nat) (len : Nat) (s : TS) : Option TS :=
  if tx s.1 = 32 ∨ tx s.1 = 10 then some (s.1 + 1, s.2.1, s.2.2.1, s.2.2.2.1, s.2.2.2.2.1, s.2.2.2.2.2.1, s.2.2.2.2.2.2.1, s.2.2.2.2.2.2.2.1, s.2.2.2.2.2.2.2.2)
  else if tx s.1 = 123 ∧ clsF tx len s.1 < len then some (clsF tx len s.1 + 1, s.2.1, s.2.2.1 + 1, s.2.2.2.1, s.2.2.2.2.1, s.2.2.2.2.2.1, s.2.2.2.2.2.2.1, updN s.2.2.2.2.2.2.2.1 s.2.2.1 s.1, updN s.2.2.2.2.2.2.2.2 s.2.2.1 (clsF tx len s.1 + 1 - s.1))
  else if s.2.1 = 16 then none
  else some (tEnd tx len s.1, s.2.1 + 1, s.2.2.1, updN s.2.2.2.1 s.2.1 s.1, updN s.2.2.2.2.1 s.2.1 (tEnd tx len s.1 - s.1), updN s.2.2.2.2.2.1 s.2.1 (if isLet (tx s.1) = true then tx s.1 - 96 else 0), updN s.2.2.2.2.2.2.1 (s.2.1 + 1) s.2.2.1, s.2.2.2.2.2.2.2.1, s.2.2.2.2.2.2.2.2)
/-- a comment's end -/
def cEnd (s : TS) : Nat → Nat := fun x => s.2.2.2.2.2.2.2.1 x + s.2.2.2.2.2.2.2.2 x
def TI (len : Nat) (s : TS) : Prop := s.1 ≤ len ∧ s.2.1 ≤ 16 ∧ 2 * s.2.2.1 ≤ s.1
theorem tEnd_in {tx : Nat → Nat} {len a : Nat} (h : a < len) : a < tEnd tx len a ∧ tEnd tx len a ≤ len := by
  unfold tEnd
  split
  · have := srch_le (fun j => !isDig (tx j)) (a + 1) (len - (a + 1))
    unfold digF
    omega
  · omega
theorem clsF_ge {tx : Nat → Nat} {len a : Nat} : a + 1 ≤ clsF tx len a := (srch_le _ _ _).1
theorem tstep_TI {tx : Nat → Nat} {len : Nat} {s s' : TS} (h : TI len s) (hlt : s.1 < len) (hs : tstep tx len s = some s') : TI len s' ∧ s.1 < s'.1 := by
  obtain ⟨h1, h2, h3⟩ := h
  unfold tstep at hs
  have hte := tEnd_in (tx := tx) hlt
  have hcl := clsF_ge (tx := tx) (len := len) (a := s.1)
  split at hs
  · obtain rfl := Option.some.inj hs
    exact ⟨⟨by dsimp only; omega, h2, by dsimp only; omega⟩, by dsimp only; omega⟩
  · split at hs
    · next hc =>
      obtain rfl := Option.some.inj hs
      exact ⟨⟨by dsimp only; omega, h2, by dsimp only; omega⟩, by dsimp only; omega⟩
    · split at hs
      · cases hs
      · obtain rfl := Option.some.inj hs
        exact ⟨⟨hte.2, by dsimp only; omega, by dsimp only; omega⟩, hte.1⟩
theorem nI_m1ne {p : Nat} (h : p < 2 ^ 31) : ¬ nI p = -1 := nI_nm1 h
section CUT
variable {tx : Nat → Nat} {len : Nat} {ct : Nat → Int32}
theorem e_take (hl : len ≤ 80) (ht : ∀ i, i < len → ct i = nI (tx i)) (hc : ∀ i, i < len → tx i ≤ 126) {s : TS} (hT : TI len s) (hlt : s.1 < len) :
    (∀ s', tstep tx len s = some s' → f_X1_take (nI s.1) (nI len) ct (nI s.2.1) (nI s.2.2.1) (nA s.2.2.2.1) (nA s.2.2.2.2.1) (nA s.2.2.2.2.2.1) (nA s.2.2.2.2.2.2.1) (nA s.2.2.2.2.2.2.2.1) (nA (cEnd s)) = some (nI s'.1, nI s'.2.1, nI s'.2.2.1, nA s'.2.2.2.1, nA s'.2.2.2.2.1, nA s'.2.2.2.2.2.1, nA s'.2.2.2.2.2.2.1, nA s'.2.2.2.2.2.2.2.1, nA (cEnd s'))) ∧
    (tstep tx len s = none → f_X1_take (nI s.1) (nI len) ct (nI s.2.1) (nI s.2.2.1) (nA s.2.2.2.1) (nA s.2.2.2.2.1) (nA s.2.2.2.2.2.1) (nA s.2.2.2.2.2.2.1) (nA s.2.2.2.2.2.2.2.1) (nA (cEnd s)) = some (-1, nI s.2.1, nI s.2.2.1, nA s.2.2.2.1, nA s.2.2.2.2.1, nA s.2.2.2.2.2.1, nA s.2.2.2.2.2.2.1, nA s.2.2.2.2.2.2.2.1, nA (cEnd s))) := by
  obtain ⟨a, nt, nc, ts, tl, tg, fc, cs, cl⟩ := s
  obtain ⟨h1, h2, h3⟩ := hT
  dsimp only at h1 h2 h3 hlt ⊢
  have hb := hc a hlt
  have hte := tEnd_in (tx := tx) hlt
  have hcl := clsF_ge (tx := tx) (len := len) (a := a)
  have i32 : ∀ v : Nat, v < 1000 → (nI (tx a) = nI v ↔ tx a = v) := fun v hv => nI_eq (by omega) (by omega)
  have unf : f_X1_take (nI a) (nI len) ct (nI nt) (nI nc) (nA ts) (nA tl) (nA tg) (nA fc) (nA cs) (nA (cEnd (a, nt, nc, ts, tl, tg, fc, cs, cl))) = if tx a = 32 ∨ tx a = 10 then some (nI (a + 1), nI nt, nI nc, nA ts, nA tl, nA tg, nA fc, nA cs, nA (cEnd (a, nt, nc, ts, tl, tg, fc, cs, cl))) else jn_X1_take_38 (nI len) ct (nI a) (nI (tx a)) (if tx a = 123 ∧ clsF tx len a < len then nI (clsF tx len a) else -1) (nI nt) (nI nc) (nA ts) (nA tl) (nA tg) (nA fc) (nA cs) (nA (cEnd (a, nt, nc, ts, tl, tg, fc, cs, cl))) := by
    unfold f_X1_take jn_X1_take_19
    simp only [nm]
    rw [rd_nI (by omega) (by omega), ob, ht a hlt, nI_1 a]
    by_cases c1 : tx a = 32
    · rw [if_pos (show nI (tx a) = (32 : Int32) from (i32 32 (by omega)).mpr c1), if_pos (Or.inl c1)]
    · rw [if_neg (show ¬ nI (tx a) = (32 : Int32) from fun x => c1 ((i32 32 (by omega)).mp x))]
      by_cases c2 : tx a = 10
      · rw [if_pos (show nI (tx a) = (10 : Int32) from (i32 10 (by omega)).mpr c2), if_pos (Or.inr c2)]
      · rw [if_neg (show ¬ nI (tx a) = (10 : Int32) from fun x => c2 ((i32 10 (by omega)).mp x)), if_neg (show ¬ (tx a = 32 ∨ tx a = 10) by omega)]
        by_cases c3 : tx a = 123
        · rw [if_pos (show nI (tx a) = (123 : Int32) from (i32 123 (by omega)).mpr c3), e_closing hl ht hc hlt, ob]
          by_cases c4 : clsF tx len a < len
          · rw [if_pos c4, if_pos ⟨c3, c4⟩]
          · rw [if_neg c4, if_neg (fun x => c4 x.2)]
        · rw [if_neg (show ¬ nI (tx a) = (123 : Int32) from fun x => c3 ((i32 123 (by omega)).mp x)), if_neg (fun x => c3 x.1)]
  have tok : ¬ (tx a = 123 ∧ clsF tx len a < len) → nt < 16 → jn_X1_take_38 (nI len) ct (nI a) (nI (tx a)) (-1) (nI nt) (nI nc) (nA ts) (nA tl) (nA tg) (nA fc) (nA cs) (nA (cEnd (a, nt, nc, ts, tl, tg, fc, cs, cl))) = some (nI (tEnd tx len a), nI (nt + 1), nI nc, nA (updN ts nt a), nA (updN tl nt (tEnd tx len a - a)), nA (updN tg nt (if isLet (tx a) = true then tx a - 96 else 0)), nA (updN fc (nt + 1) nc), nA cs, nA (cEnd (a, nt, nc, ts, tl, tg, fc, cs, cl))) := by
    intro _ hnt
    simp only [jn_X1_take_38, jn_X1_take_80, jn_X1_take_81, jn_X1_take_101, jn_X1_take_149, nm, if_true]
    rw [if_pos (show nI nt < (16 : Int32) from (nI_ltI (b := 16) (by omega) (by omega)).mpr hnt), nI_1 a, nI_1 nt]
    by_cases hlet : isLet (tx a) = true
    · have hlet' : 97 ≤ tx a ∧ tx a ≤ 104 := by simpa [isLet] using hlet
      have e1 : tEnd tx len a = digF tx len (a + 1) := if_pos hlet
      rw [if_neg (show ¬ nI (tx a) < (97 : Int32) from fun c => (show ¬ tx a < 97 by omega) ((nI_ltI (b := 97) (by omega) (by omega)).mp c)), if_neg (show ¬ (105 : Int32) ≤ nI (tx a) from fun c => (show ¬ 105 ≤ tx a by omega) ((nI_leI (a := 105) (by omega) (by omega)).mp c)), if_neg (show ¬ (1 : Int32) = 0 by decide), e_behindDigits hl ht hc (by omega), ob, ← e1, wr_nA (by omega) (by omega), ob, nI_sub (show a ≤ tEnd tx len a by omega), wr_nA (by omega) (by omega), ob, if_neg (show ¬ (1 : Int32) = 0 by decide), show (97 : Int32) = nI 97 from rfl, nI_sub (show 97 ≤ tx a by omega), nI_1 (tx a - 97), wr_nA (by omega) (by omega), ob, wr_nA (by omega) (by omega), ob, if_pos hlet, show tx a - 97 + 1 = tx a - 96 by omega]
    · have h' : tx a < 97 ∨ 104 < tx a := by
        have : ¬ (97 ≤ tx a ∧ tx a ≤ 104) := by simpa [isLet] using hlet
        omega
      have e1 : tEnd tx len a = a + 1 := if_neg hlet
      rw [if_neg hlet, e1]
      by_cases h5 : tx a < 97
      · rw [if_pos (show nI (tx a) < (97 : Int32) from (nI_ltI (b := 97) (by omega) (by omega)).mpr h5), wr_nA (by omega) (by omega), ob, nI_sub (show a ≤ a + 1 by omega), wr_nA (by omega) (by omega), ob, show (0 : Int32) = nI 0 from rfl, wr_nA (by omega) (by omega), ob, wr_nA (by omega) (by omega), ob]
      · rw [if_neg (show ¬ nI (tx a) < (97 : Int32) from fun c => h5 ((nI_ltI (b := 97) (by omega) (by omega)).mp c)), if_pos (show (105 : Int32) ≤ nI (tx a) from (nI_leI (a := 105) (by omega) (by omega)).mpr (by omega)), wr_nA (by omega) (by omega), ob, nI_sub (show a ≤ a + 1 by omega), wr_nA (by omega) (by omega), ob, show (0 : Int32) = nI 0 from rfl, wr_nA (by omega) (by omega), ob, wr_nA (by omega) (by omega), ob]
  unfold tstep
  dsimp only
  rw [unf]
  by_cases c1 : tx a = 32 ∨ tx a = 10
  · rw [if_pos c1, if_pos c1]
    refine ⟨fun s' hs => ?_, fun hs => by cases hs⟩
    obtain rfl := Option.some.inj hs
    rfl
  · rw [if_neg c1, if_neg c1]
    by_cases c2 : tx a = 123 ∧ clsF tx len a < len
    · rw [if_pos c2, if_pos c2]
      refine ⟨fun s' hs => ?_, fun hs => by cases hs⟩
      obtain rfl := Option.some.inj hs
      have hce : updN (cEnd (a, nt, nc, ts, tl, tg, fc, cs, cl)) nc (clsF tx len a + 1) = cEnd (clsF tx len a + 1, nt, nc + 1, ts, tl, tg, fc, updN cs nc a, updN cl nc (clsF tx len a + 1 - a)) := by
        funext x
        show updN (fun x => cs x + cl x) nc (clsF tx len a + 1) x = updN cs nc a x + updN cl nc (clsF tx len a + 1 - a) x
        unfold updN
        split
        · omega
        · rfl
      simp only [jn_X1_take_38, f_X1_takeComment, jn_X1_takeComment_39, nm]
      have hlt2 := c2.2
      rw [if_neg (nI_nm1 (by omega)), nI_1 (clsF tx len a), if_neg (show ¬ (40 : Int32) ≤ nI nc from fun c => (show ¬ 40 ≤ nc by omega) ((nI_leI (a := 40) (by omega) (by omega)).mp c)), wr_nA (by omega) (by omega), ob, wr_nA (by omega) (by omega), ob, nI_1 nc, hce]
      rfl
    · rw [if_neg c2, if_neg c2]
      by_cases c3 : nt = 16
      · rw [if_pos c3]
        refine ⟨fun s' hs => (by cases hs), fun _ => ?_⟩
        simp only [jn_X1_take_38, nm, if_true]
        rw [if_neg (show ¬ nI nt < (16 : Int32) from fun c => (show ¬ nt < 16 by omega) ((nI_ltI (b := 16) (by omega) (by omega)).mp c))]
      · rw [if_neg c3]
        refine ⟨fun s' hs => ?_, fun hs => by cases hs⟩
        obtain rfl := Option.some.inj hs
        rw [tok c2 (by omega)]
        rfl
end CUT
