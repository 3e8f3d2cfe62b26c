/-! a rule that is given: its digits, on both sides -/
def isN (s n : Nat) : Prop := s / 16 ^ n = 0 ∧ ∀ t, t < n → 0 < s / 16 ^ t
def okS (s n : Nat) : Prop := ∀ t, t < n → 1 ≤ s / 16 ^ t % 16 ∧ s / 16 ^ t % 16 ≤ 14
def okH (q n : Nat) : Prop := (∀ t, t + 1 < n → q / 4 ^ t % 4 < 3) ∧ q / 4 ^ (n - 1) = 0
theorem isN_unique {s n m : Nat} (h : isN s n) (h' : isN s m) : n = m := by
  rcases Nat.lt_trichotomy n m with d | d | d
  · have := h'.2 n d; have := h.1; omega
  · exact d
  · have := h.2 m d; have := h'.1; omega
theorem div16 (s t : Nat) : s / 16 ^ t / 16 = s / 16 ^ (t + 1) := by rw [Nat.div_div_eq_div_mul, Nat.pow_succ]
theorem div4 (s t : Nat) : s / 4 ^ t / 4 = s / 4 ^ (t + 1) := by rw [Nat.div_div_eq_div_mul, Nat.pow_succ]
theorem div_lt31 {s d : Nat} (h : s < 2 ^ 31) : s / d < 2 ^ 31 := Nat.lt_of_le_of_lt (Nat.div_le_self _ _) h
theorem and15 {v : Nat} (h : v < 2 ^ 31) : nI v &&& 15 = nI (v % 16) := pk_andN (by omega) 4 (by decide)
theorem and3 {v : Nat} (h : v < 2 ^ 31) : nI v &&& 3 = nI (v % 4) := pk_andN (by omega) 2 (by decide)
theorem shr4 {v : Nat} (h : v < 2 ^ 31) : nI v >>> (4 &&& 31 : Int32) = nI (v / 16) := pk_shrN h _ 4 (by decide)
theorem shr2 {v : Nat} (h : v < 2 ^ 31) : nI v >>> (2 &&& 31 : Int32) = nI (v / 4) := pk_shrN h _ 2 (by decide)
theorem e_symbolsIn {s : Nat} (hs : s < 2 ^ 31) : (∃ n, s < 1048576 ∧ n ≤ 5 ∧ isN s n ∧ okS s n ∧ f_X2_symbolsIn (nI s) = some (nI n)) ∨ ((∀ n, isN s n → n ≤ 5 → ¬ okS s n) ∧ f_X2_symbolsIn (nI s) = some (-1)) := by
  unfold f_X2_symbolsIn jn_X2_symbolsIn_10
  simp only [nm]
  rw [if_neg (nI_pos hs)]
  by_cases hb : s < 1048576
  · rw [if_pos (show nI s < (1048576 : Int32) from (nI_ltI (b := 1048576) hs (by omega)).mpr hb)]
    have key := loopE (fun N t => lp_X2_symbolsIn_18 (fun x1 => jn_X2_symbolsIn_61 x1) N (nI t) (nI (s / 16 ^ t)) (nI t))
      (fun R => (∃ n, s < 1048576 ∧ n ≤ 5 ∧ isN s n ∧ okS s n ∧ R = some (nI n)) ∨ ((∀ n, isN s n → n ≤ 5 → ¬ okS s n) ∧ R = some (-1)))
      (fun t => t ≤ 5 ∧ (∀ t', t' < t → 0 < s / 16 ^ t') ∧ okS s t) (fun t => 5 - t) ?_ FU 0 (FU_gt (by omega)) ⟨by omega, fun t' h => absurd h (by omega), fun t' h => absurd h (by omega)⟩
    · rw [show s / 16 ^ 0 = s by simp] at key
      exact key
    · rintro N t ⟨h1, h2, h3⟩
      have hv : s / 16 ^ t < 2 ^ 31 := div_lt31 hs
      simp only [lp_X2_symbolsIn_18, jn_X2_symbolsIn_61, jn_X2_symbolsIn_46, nm]
      by_cases h5 : 5 ≤ t
      · left; left
        rw [if_pos (show (5 : Int32) ≤ nI t from (nI_leI (a := 5) (by omega) (by omega)).mpr h5)]
        have e : t = 5 := by omega
        exact ⟨t, hb, h1, ⟨by rw [e]; omega, h2⟩, h3, rfl⟩
      · rw [if_neg (show ¬ (5 : Int32) ≤ nI t from fun c => h5 ((nI_leI (a := 5) (by omega) (by omega)).mp c))]
        by_cases h0 : s / 16 ^ t = 0
        · left; left
          rw [if_pos (show nI (s / 16 ^ t) ≤ (0 : Int32) by rw [h0]; decide)]
          exact ⟨t, hb, h1, ⟨h0, h2⟩, h3, rfl⟩
        · rw [if_neg (show ¬ nI (s / 16 ^ t) ≤ (0 : Int32) from fun c => h0 (Nat.le_zero.mp ((nI_leI (b := 0) hv (by omega)).mp c))), and15 hv]
          have notb : ∀ {p : Prop}, p → ¬ (1 ≤ s / 16 ^ t % 16 ∧ s / 16 ^ t % 16 ≤ 14) → ∀ n, isN s n → n ≤ 5 → ¬ okS s n := by
            intro _ _ hh n hn _ ho
            by_cases c : t < n
            · exact hh (ho t c)
            · have hn1 := hn.1
              by_cases c2 : n = t
              · rw [c2] at hn1; exact h0 hn1
              · have := h2 n (by omega); omega
          by_cases d1 : s / 16 ^ t % 16 < 1
          · left; right
            rw [if_pos (show nI (s / 16 ^ t % 16) < (1 : Int32) from (nI_ltI (b := 1) (by omega) (by omega)).mpr d1)]
            exact ⟨notb d1 (by omega), rfl⟩
          · rw [if_neg (show ¬ nI (s / 16 ^ t % 16) < (1 : Int32) from fun c => d1 ((nI_ltI (b := 1) (by omega) (by omega)).mp c))]
            by_cases d2 : s / 16 ^ t % 16 ≤ 14
            · right
              rw [if_pos (show nI (s / 16 ^ t % 16) ≤ (14 : Int32) from (nI_leI (b := 14) (by omega) (by omega)).mpr d2), shr4 hv, of1, nI_add, div16]
              refine ⟨t + 1, ⟨by omega, fun t' ht' => ?_, fun t' ht' => ?_⟩, by omega, rfl⟩
              · by_cases e : t' = t
                · rw [e]; exact Nat.pos_of_ne_zero h0
                · exact h2 t' (by omega)
              · by_cases e : t' = t
                · rw [e]; omega
                · exact h3 t' (by omega)
            · left; right
              rw [if_neg (show ¬ nI (s / 16 ^ t % 16) ≤ (14 : Int32) from fun c => d2 ((nI_leI (b := 14) (by omega) (by omega)).mp c))]
              exact ⟨notb d1 (by omega), rfl⟩
  · right
    rw [if_neg (show ¬ nI s < (1048576 : Int32) from fun c => hb ((nI_ltI (b := 1048576) hs (by omega)).mp c))]
    refine ⟨fun n hn h5 _ => ?_, rfl⟩
    have h1 := hn.1
    have h2 : 16 ^ n ≤ 16 ^ 5 := Nat.pow_le_pow_right (by omega) h5
    have h3 : s < 16 ^ n := by
      rcases Nat.lt_or_ge s (16 ^ n) with c | c
      · exact c
      · have := Nat.div_pos c (Nat.pow_pos (by omega)); omega
    omega
theorem e_hintsFit {q n : Nat} (hq : q < 2 ^ 31) (hn : n ≤ 5) : (okH q n ∧ f_X2_hintsFit (nI q) (nI n) = some 1) ∨ (¬ okH q n ∧ f_X2_hintsFit (nI q) (nI n) = some 0) := by
  unfold f_X2_hintsFit
  simp only [nm]
  rw [if_pos (nI_pos' hq)]
  have key := loopE (fun N t => lp_X2_hintsFit_10 (fun x2 => if x2 = 0 then jn_X2_hintsFit_43 1 else jn_X2_hintsFit_43 0) N (nI n) (nI (q / 4 ^ t)) (nI (t + 1)))
    (fun R => (okH q n ∧ R = some 1) ∨ (¬ okH q n ∧ R = some 0))
    (fun t => t ≤ n - 1 ∧ ∀ t', t' < t → q / 4 ^ t' % 4 < 3) (fun t => n - 1 - t) ?_ FU 0 (FU_gt (by omega)) ⟨by omega, fun t' h => absurd h (by omega)⟩
  · rw [show q / 4 ^ 0 = q by simp] at key
    exact key
  · rintro N t ⟨h1, h2⟩
    have hv : q / 4 ^ t < 2 ^ 31 := div_lt31 hq
    simp only [lp_X2_hintsFit_10, jn_X2_hintsFit_43, nm]
    by_cases h : n ≤ t + 1
    · left
      rw [if_pos ((nI_leI (by omega) (by omega)).mpr h)]
      have e : t = n - 1 := by omega
      rw [e] at h2 ⊢
      by_cases h0 : q / 4 ^ (n - 1) = 0
      · left
        rw [if_pos (show nI (q / 4 ^ (n - 1)) = 0 by rw [h0]; rfl)]
        exact ⟨⟨fun t' ht' => h2 t' (by omega), h0⟩, rfl⟩
      · right
        rw [if_neg (show ¬ nI (q / 4 ^ (n - 1)) = 0 from nI_ne0 (Nat.pos_of_ne_zero h0) (by rw [← e]; exact hv))]
        exact ⟨fun c => h0 c.2, rfl⟩
    · rw [if_neg (fun c => h ((nI_leI (by omega) (by omega)).mp c)), and3 hv]
      by_cases h3 : q / 4 ^ t % 4 = 3
      · left; right
        rw [if_pos (show nI (q / 4 ^ t % 4) = (3 : Int32) by rw [h3]; rfl)]
        refine ⟨fun c => ?_, rfl⟩
        have := c.1 t (by omega)
        omega
      · right
        rw [if_neg (show ¬ nI (q / 4 ^ t % 4) = (3 : Int32) from fun c => h3 ((nI_eq (b := 3) (by omega) (by omega)).mp c)), shr2 hv, of1, nI_add, div4]
        refine ⟨t + 1, ⟨by omega, fun t' ht' => ?_⟩, by omega, rfl⟩
        by_cases e : t' = t
        · rw [e]; omega
        · exact h2 t' (by omega)
/-- a row with n new values from b on -/
def rowF (g : Nat → Nat) (b n : Nat) (v : Nat → Nat) : Nat → Nat := fun x => if b ≤ x ∧ x < b + n then v (x - b) else g x
def symF (s n k : Nat) : Nat := s / 16 ^ (n - 1 - k) % 16
def hinF (q n k : Nat) : Nat := q / 4 ^ (n - 1 - k) % 4
theorem rowF_s {g : Nat → Nat} {b t : Nat} {v : Nat → Nat} : updN (rowF g b t v) (b + t) (v t) = rowF g b (t + 1) v := by
  funext x
  unfold updN rowF
  by_cases h : x = b + t
  · rw [if_pos h, if_pos (by omega), show x - b = t by omega]
  · rw [if_neg h]
    by_cases h2 : b ≤ x ∧ x < b + t
    · rw [if_pos h2, if_pos (by omega)]
    · rw [if_neg h2, if_neg (by omega)]
theorem rowF_0 {g : Nat → Nat} {b : Nat} {v : Nat → Nat} : rowF g b 0 v = g := by
  funext x
  unfold rowF
  rw [if_neg (by omega)]
/-- the same from the end -/
def rowD (g : Nat → Nat) (b c n : Nat) (v : Nat → Nat) : Nat → Nat := fun x => if b + c ≤ x ∧ x < b + n then v (x - b) else g x
theorem rowD_s {g : Nat → Nat} {b c n : Nat} {v : Nat → Nat} (h : c < n) : updN (rowD g b (c + 1) n v) (b + c) (v c) = rowD g b c n v := by
  funext x
  unfold updN rowD
  by_cases h1 : x = b + c
  · rw [if_pos h1, if_pos (by omega), show x - b = c by omega]
  · rw [if_neg h1]
    by_cases h2 : b + (c + 1) ≤ x ∧ x < b + n
    · rw [if_pos h2, if_pos (by omega)]
    · rw [if_neg h2, if_neg (by omega)]
theorem rowD_n {g : Nat → Nat} {b n : Nat} {v : Nat → Nat} : rowD g b n n v = g := by
  funext x
  unfold rowD
  rw [if_neg (by omega)]
theorem rowD_0 {g : Nat → Nat} {b n : Nat} {v : Nat → Nat} : rowD g b 0 n v = rowF g b n v := rfl
/-- the grammar with the new rule, as it stands in both -/
theorem GW_add {nr h s n : Nat} {hd ln gs : Nat → Nat} (G : GW nr hd ln (rsy gs)) (hnr : nr < 20) (h9 : 9 ≤ h) (h14 : h ≤ 14) (hn : n ≤ 5) (hs : okS s n) : GW (nr + 1) (updN hd nr h) (updN ln nr n) (rsy (rowF gs (nr * 5) n (symF s n))) := by
  refine ⟨by omega, fun r hr => ?_⟩
  by_cases e : r = nr
  · rw [e, updN_s, updN_s]
    refine ⟨h9, h14, hn, fun m hm => ?_⟩
    unfold rsy rowF
    rw [if_pos (by omega), show nr * 5 + m - nr * 5 = m by omega]
    exact hs (n - 1 - m) (by omega)
  · rw [updN_n e, updN_n e]
    obtain ⟨a, b, c, d⟩ := G.2 r (by omega)
    refine ⟨a, b, c, fun m hm => ?_⟩
    have := d m hm
    unfold rsy at this ⊢
    unfold rowF
    rw [if_neg (by omega)]
    exact this
theorem Gr_add {nr h s n k : Nat} {hd ln gs : Nat → Nat} (G : GW nr hd ln (rsy gs)) (hk : Gr nr hd ln (rsy gs) k) : Gr (nr + 1) (updN hd nr h) (updN ln nr n) (rsy (rowF gs (nr * 5) n (symF s n))) k := by
  intro S hS
  refine hk S (fun r hr hh => ?_)
  have e : r ≠ nr := by omega
  have := hS r (by omega)
  rw [updN_n e, updN_n e] at this
  refine this (fun m hm => ?_)
  have hl := (G.2 r hr).2.2.1
  have e2 : rsy (rowF gs (nr * 5) n (symF s n)) r m = rsy gs r m := by
    unfold rsy rowF
    rw [if_neg (by omega)]
  rw [e2]
  exact hh m hm
theorem sh_amt : ∀ b, b < 5 → (((nI (4 * b) &&& 31).toBitVec.smod 32).toNat = 4 * b ∧ ((nI (2 * b) &&& 31).toBitVec.smod 32).toNat = 2 * b) := by decide +kernel
theorem e_add {nr h s q n c0 : Nat} {hd ln gs gh : Nat → Nat} {gi gg0 : Nat → Int32} {a4 : Int32} (G : GW nr hd ln (rsy gs)) (hnr : nr < 20) (h9 : 9 ≤ h) (h14 : h ≤ 14) (hs : s < 2 ^ 31) (hq : q < 2 ^ 31) (hN : isN s n) (h5 : n ≤ 5) (hS : okS s n) (hg : GG c0 gg0) (hgs : grS nr hd ln gs c0) :
    ∃ c gg, GG c gg ∧ grS (nr + 1) (updN hd nr h) (updN ln nr n) (rowF gs (nr * 5) n (symF s n)) c ∧ clo (nr + 1) (updN hd nr h) (updN ln nr n) (rsy (rowF gs (nr * 5) n (symF s n))) (mb c) ∧
    f_X2_add (nI h) (nI s) (nI q) a4 (nI nr) (nA hd) (nA ln) (nA gs) (nA gh) gi gg0 = some (nI nr, nI (nr + 1), nA (updN hd nr h), nA (updN ln nr n), nA (rowF gs (nr * 5) n (symF s n)), nA (rowF gh (nr * 5) n (hinF q n)), upd gi nr (vp_nar .boolean a4), gg) := by
  have G' := GW_add (s := s) G hnr h9 h14 h5 hS
  have hs' : grS (nr + 1) (updN hd nr h) (updN ln nr n) (rowF gs (nr * 5) n (symF s n)) c0 := fun x hx hb => Gr_add G (hgs x hx hb)
  obtain ⟨c, gg, k1, k2, k3, k4⟩ := e_findGround G' hg hs'
  refine ⟨c, gg, k1, k2, k3, ?_⟩
  have hsi : f_X2_symbolsIn (nI s) = some (nI n) := by
    rcases e_symbolsIn hs with ⟨m, _, _, m1, _, m2⟩ | ⟨m1, _⟩
    · rw [m2, isN_unique m1 hN]
    · exact absurd hS (m1 n hN h5)
  unfold f_X2_add
  simp only [nm]
  rw [hsi, ob, if_neg (show ¬ (20 : Int32) ≤ nI nr from fun x => (show ¬ 20 ≤ nr by omega) ((nI_leI (a := 20) (by omega) (by omega)).mp x)), if_neg (nI_nm1 (by omega)), wr_nA hnr (by omega), ob, wr_nA hnr (by omega), ob, wrI_nI hnr (by omega), ob]
  have key := loopE (fun N t => lp_X2_add_56 (fun x5 g_size g_heads g_lengths g_symbols g_hints g_ins g_ground =>
        (f_X2_findGround ((g_size + 1)) g_heads g_lengths g_symbols g_ground).bind fun r13 =>
        some (x5, ((g_size + 1)), g_heads, g_lengths, g_symbols, g_hints, g_ins, r13)) N (nI s) (nI q) (nI nr) (nI n) (nI t) (nI nr) (nA (updN hd nr h)) (nA (updN ln nr n)) (nA (rowF gs (nr * 5) t (symF s n))) (nA (rowF gh (nr * 5) t (hinF q n))) (upd gi nr (vp_nar .boolean a4)) gg0)
    (fun R => R = some (nI nr, nI (nr + 1), nA (updN hd nr h), nA (updN ln nr n), nA (rowF gs (nr * 5) n (symF s n)), nA (rowF gh (nr * 5) n (hinF q n)), upd gi nr (vp_nar .boolean a4), gg))
    (fun t => t ≤ n) (fun t => n - t) ?_ FU 0 (FU_gt (by omega)) (by omega)
  · rw [rowF_0, rowF_0] at key
    exact key
  · intro N t ht
    simp only [lp_X2_add_56, nm]
    by_cases h1 : n ≤ t
    · left
      have e : t = n := by omega
      rw [if_pos ((nI_leI (by omega) (by omega)).mpr h1), e, nI_1 nr, k4]
      rfl
    · right
      refine ⟨t + 1, by omega, by omega, ?_⟩
      obtain ⟨a1, a2⟩ := sh_amt (n - 1 - t) (by omega)
      have v1 : nI s >>> ((4 * nI (n - 1 - t)) &&& 31) &&& 15 = nI (symF s n t) := by
        rw [show (4 : Int32) * nI (n - 1 - t) = nI (4 * (n - 1 - t)) from nI_mul 4 _, pk_shrN hs _ _ a1, and15 (div_lt31 hs), Nat.pow_mul]
        rfl
      have v2 : nI q >>> ((2 * nI (n - 1 - t)) &&& 31) &&& 3 = nI (hinF q n t) := by
        rw [show (2 : Int32) * nI (n - 1 - t) = nI (2 * (n - 1 - t)) from nI_mul 2 _, pk_shrN hq _ _ a2, and3 (div_lt31 hq), Nat.pow_mul]
        rfl
      rw [if_neg (fun x => h1 ((nI_leI (by omega) (by omega)).mp x)), nI_sub1 (by omega), nI_sub (by omega), v1, v2, show (5 : Int32) = nI 5 from rfl, nI_mul, nI_add, wr_nA (by omega) (by omega), ob, wr_nA (by omega) (by omega), ob, rowF_s, rowF_s, of1, nI_add]
