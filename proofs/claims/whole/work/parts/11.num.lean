/-! numbers: rows of Nat behind the rows of int and long -/
def nA (Q : Nat → Nat) : Nat → Int32 := fun x => nI (Q x)
def lA (P : Nat → Nat) : Nat → Int64 := fun x => lN (P x)
def updN (P : Nat → Nat) (k v : Nat) : Nat → Nat := fun j => if j = k then v else P j
theorem updN_s {P : Nat → Nat} {k v : Nat} : updN P k v k = v := if_pos rfl
theorem updN_n {P : Nat → Nat} {k v j : Nat} (h : j ≠ k) : updN P k v j = P j := if_neg h
theorem lA_upd {P : Nat → Nat} {k v : Nat} : vp_updL (lA P) k (lN v) = lA (updN P k v) := by
  funext j
  unfold vp_updL lA updN
  by_cases h : j = k
  · simp [h]
  · simp [h]
theorem nA_upd {P : Nat → Nat} {k v : Nat} : upd (nA P) k (nI v) = nA (updN P k v) := by
  funext j
  unfold upd nA updN
  by_cases h : j = k
  · simp [h]
  · simp [h]
theorem nI_cl {n : Nat} (h : n < 2 ^ 31) : (nI n).toNatClampNeg = n := nI_clamp h
theorem rd_nI {α : Type} {f : Nat → α} {n j : Nat} (h : j < n) (hn : n < 2 ^ 31) : rd f n (nI j) = some (f j) := by
  unfold rd
  rw [if_neg (nI_in h hn), nI_clamp (by omega)]
theorem wrI_nI {f : Nat → Int32} {n j : Nat} {x : Int32} (h : j < n) (hn : n < 2 ^ 31) : wrI f n (nI j) x = some (upd f j x) := by
  unfold wrI
  rw [if_neg (nI_in h hn), nI_clamp (by omega)]
theorem wrL_nI {f : Nat → Int64} {n j : Nat} {x : Int64} (h : j < n) (hn : n < 2 ^ 31) : wrL f n (nI j) x = some (vp_updL f j x) := by
  unfold wrL
  rw [if_neg (nI_in h hn), nI_clamp (by omega)]
theorem rd_nA {Q : Nat → Nat} {n j : Nat} (h : j < n) (hn : n < 2 ^ 31) : rd (nA Q) n (nI j) = some (nI (Q j)) := rd_nI h hn
theorem rd_lA {Q : Nat → Nat} {n j : Nat} (h : j < n) (hn : n < 2 ^ 31) : rd (lA Q) n (nI j) = some (lN (Q j)) := rd_nI h hn
theorem wr_nA {Q : Nat → Nat} {n j v : Nat} (h : j < n) (hn : n < 2 ^ 31) : wrI (nA Q) n (nI j) (nI v) = some (nA (updN Q j v)) := by rw [wrI_nI h hn, nA_upd]
theorem wr_lA {Q : Nat → Nat} {n j v : Nat} (h : j < n) (hn : n < 2 ^ 31) : wrL (lA Q) n (nI j) (lN v) = some (lA (updN Q j v)) := by rw [wrL_nI h hn, lA_upd]
theorem nI_sub {a b : Nat} (h : b ≤ a) : nI a - nI b = nI (a - b) := pk_sub h
theorem nI_mul (a b : Nat) : nI a * nI b = nI (a * b) := pk_mul a b
theorem nI_nlt0 {a : Nat} (h : a < 2 ^ 31) : ¬ nI a < 0 := nI_pos h
theorem lN_min {a b : Nat} (ha : a < 2 ^ 63) (hb : b < 2 ^ 63) : (if lN b < lN a then lN b else lN a) = lN (min a b) := by
  by_cases h : b < a
  · rw [if_pos ((pk_lLT hb ha).mpr h), Nat.min_eq_right (by omega)]
  · rw [if_neg (fun c => h ((pk_lLT hb ha).mp c)), Nat.min_eq_left (by omega)]
theorem lgc_ge {a b : Nat} (ha : a < 2 ^ 63) (hb : b < 2 ^ 63) : 0 ≤ lg_cmp (lN a) (lN b) ↔ b ≤ a := by
  unfold lg_cmp
  by_cases h1 : b < a
  · rw [if_pos (show lN a > lN b from (pk_lLT hb ha).mpr h1)]
    exact ⟨fun _ => by omega, fun _ => by decide⟩
  · rw [if_neg (fun c : lN a > lN b => h1 ((pk_lLT hb ha).mp c))]
    by_cases h2 : a = b
    · rw [if_pos (by rw [h2])]
      exact ⟨fun _ => by omega, fun _ => by decide⟩
    · rw [if_neg (fun c => h2 ((pk_lEQ ha hb).mp c))]
      exact ⟨fun c => absurd c (by decide), fun c => by omega⟩
theorem lgc_eq {a b : Nat} (ha : a < 2 ^ 63) (hb : b < 2 ^ 63) : lg_cmp (lN a) (lN b) = 0 ↔ a = b := by
  unfold lg_cmp
  by_cases h1 : b < a
  · rw [if_pos (show lN a > lN b from (pk_lLT hb ha).mpr h1)]
    exact ⟨fun c => absurd c (by decide), fun _ => by omega⟩
  · rw [if_neg (fun c : lN a > lN b => h1 ((pk_lLT hb ha).mp c))]
    by_cases h2 : a = b
    · rw [if_pos (by rw [h2])]
      exact ⟨fun _ => h2, fun _ => rfl⟩
    · rw [if_neg (fun c => h2 ((pk_lEQ ha hb).mp c))]
      exact ⟨fun c => absurd c (by decide), fun c => absurd c h2⟩
theorem dINF_l : (1152921504606846976 : Int64) = lN dINF := by rw [dINF_v]; rfl
/-- a loop: each turn ends well, or comes to a turn with a lesser measure -/
theorem loopE {S R : Type} (L : Nat → S → R) (E : R → Prop) (I : S → Prop) (mu : S → Nat) (hs : ∀ n s, I s → E (L (n + 1) s) ∨ ∃ s', I s' ∧ mu s' < mu s ∧ L (n + 1) s = L n s') : ∀ n s, mu s < n → I s → E (L n s) := by
  intro n
  induction n with
  | zero => intro s h; omega
  | succ n ih =>
    intro s hm hI
    rcases hs n s hI with h | ⟨s', h1, h2, h3⟩
    · exact h
    · rw [h3]
      exact ih s' (by omega) h1
theorem FU_gt {m : Nat} (h : m < 2 ^ 79) : m < FU := by rw [FU_v]; omega
/-- the place of a symbol's price for the tokens from i to j -/
def sp (s i j : Nat) : Nat := ((s - 1) * 17 + i) * 17 + j
def csp (k i j : Nat) : Nat := ((k - 9) * 17 + i) * 17 + j
theorem sp_lt {s i j : Nat} (h1 : s ≤ 14) (h2 : i ≤ 16) (h3 : j ≤ 16) (h4 : 1 ≤ s) : sp s i j < 4046 := by unfold sp; omega
theorem csp_lt {s i j : Nat} (h1 : s ≤ 14) (h2 : i ≤ 16) (h3 : j ≤ 16) (h4 : 9 ≤ s) : csp s i j < 1734 := by unfold csp; omega
theorem sp_inj {s i j s' i' j' : Nat} (h1 : 1 ≤ s) (h1' : 1 ≤ s') (h2 : i ≤ 16) (h2' : i' ≤ 16) (h3 : j ≤ 16) (h3' : j' ≤ 16) (h : sp s i j = sp s' i' j') : s = s' ∧ i = i' ∧ j = j' := by unfold sp at h; omega
theorem csp_inj {s i j s' i' j' : Nat} (h1 : 9 ≤ s) (h1' : 9 ≤ s') (h2 : i ≤ 16) (h2' : i' ≤ 16) (h3 : j ≤ 16) (h3' : j' ≤ 16) (h : csp s i j = csp s' i' j') : s = s' ∧ i = i' ∧ j = j' := by unfold csp at h; omega
theorem e_spot {s i j : Nat} (h : 1 ≤ s) : f_X0_spot (nI s) (nI i) (nI j) = some (nI (sp s i j)) := by
  unfold f_X0_spot sp
  rw [show (1 : Int32) = nI 1 from rfl, show (17 : Int32) = nI 17 from rfl, nI_sub h, nI_mul, nI_add, nI_mul, nI_add]
theorem e_choiceSpot {s i j : Nat} (h : 9 ≤ s) : f_X0_choiceSpot (nI s) (nI i) (nI j) = some (nI (csp s i j)) := by
  unfold f_X0_choiceSpot csp
  rw [show (9 : Int32) = nI 9 from rfl, show (17 : Int32) = nI 17 from rfl, nI_sub h, nI_mul, nI_add, nI_mul, nI_add]
theorem e_begunRow {r m : Nat} : f_X0_begunRow (nI r) (nI m) = some (nI ((r * 6 + m) * 17)) := by
  unfold f_X0_begunRow
  rw [show (6 : Int32) = nI 6 from rfl, show (17 : Int32) = nI 17 from rfl, nI_mul, nI_add, nI_mul]
