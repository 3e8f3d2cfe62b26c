/-! the class's layTokens and layEnd -/
section CTOK
variable {tx : Nat → Nat} {len : Nat} {ct : Nat → Int32} {n : Nat} {ts tl tg fc cs cl : Nat → Nat}
theorem e_layTokens (K : TOK len n ts tl tg fc cs cl) (hct : txtR len tx ct) (hch : ∀ i, i < len → tx i ≤ 126) {pg : List Nat} {sh : Nat → Int32} {a d col : Nat} (hp : pgR pg sh) (had : a + d ≤ n) (hcol : col ≤ pg.length) (hlen : pg.length + (tkS tx ts tl fc cs cl a d).length ≤ 1300) :
    CR (pg ++ tkS tx ts tl fc cs cl a d) (col + (tkS tx ts tl fc cs cl a d).length) (f_X3_layTokens (nI a) (nI (a + d)) (nI n) ct (nA ts) (nA tl) (nA fc) (nA cs) (nA (fun x => cs x + cl x)) (nI pg.length) (nI col) sh) := by
  have hn := K.2.1
  have hl := K.1
  unfold f_X3_layTokens
  simp only [nm]
  have key := loopE (fun N (q : Nat × (Nat → Int32)) => lp_X3_layTokens_2 (nI n) ct (nA ts) (nA tl) (nA fc) (nA cs) (nA (fun x => cs x + cl x)) (fun p_size p_column p_sheet => some (p_size, p_column, p_sheet)) N (nI a) (nI (a + d)) (nI (a + q.1)) (nI (pg ++ tkS tx ts tl fc cs cl a q.1).length) (nI (col + (tkS tx ts tl fc cs cl a q.1).length)) q.2)
    (fun R => CR (pg ++ tkS tx ts tl fc cs cl a d) (col + (tkS tx ts tl fc cs cl a d).length) R)
    (fun q => q.1 ≤ d ∧ pgR (pg ++ tkS tx ts tl fc cs cl a q.1) q.2) (fun q => d - q.1) ?_ FU (0, sh) (FU_gt (by dsimp only; omega)) ⟨by dsimp only; omega, by show pgR (pg ++ []) sh; rw [List.append_nil]; exact hp⟩
  · have e0 : (pg ++ tkS tx ts tl fc cs cl a 0).length = pg.length := by show (pg ++ []).length = _; rw [List.append_nil]
    dsimp only at key
    rw [e0] at key
    exact key
  · rintro N ⟨k, r⟩ ⟨h1, h2⟩
    dsimp only at h1 h2 ⊢
    simp only [lp_X3_layTokens_2, nm]
    by_cases h : d ≤ k
    · left
      have e : k = d := by omega
      rw [e] at h2 ⊢
      rw [if_pos ((nI_leI (by omega) (by omega)).mpr (by omega))]
      exact ⟨r, h2, rfl⟩
    · right
      have htt := K.2.2.1 (a + k) (by omega)
      have hm := tkS_mono (tx := tx) (ts := ts) (tl := tl) (fc := fc) (cs := cs) (cl := cl) (a := a) (show k + 1 ≤ d by omega)
      have hs := tkS_s (tx := tx) (ts := ts) (tl := tl) (fc := fc) (cs := cs) (cl := cl) (a := a) (d := k)
      have hf40 := fc_le K (show a + k + 1 ≤ n + 1 by omega)
      have hsl := sep_len (d := k)
      generalize hdc : fc (a + k + 1) - fc (a + k) = dc at hs
      have hsd := sep_len (d := dc)
      have hpl : (pg ++ tkS tx ts tl fc cs cl a k).length = pg.length + (tkS tx ts tl fc cs cl a k).length := List.length_append
      rw [if_neg (fun c => h (by have := (nI_leI (by omega) (by omega)).mp c; omega))]
      -- the tail: comments, a space, the token
      have fin : ∀ (sh1 : Nat → Int32), pgR (pg ++ tkS tx ts tl fc cs cl a k ++ sep k) sh1 → ∃ s' : Nat × (Nat → Int32), (s'.1 ≤ d ∧ pgR (pg ++ tkS tx ts tl fc cs cl a s'.1) s'.2) ∧ d - s'.1 < d - k ∧ jn_X3_layTokens_18 (nI n) ct (nA ts) (nA tl) (nA fc) (nA cs) (nA (fun x => cs x + cl x)) (lp_X3_layTokens_2 (nI n) ct (nA ts) (nA tl) (nA fc) (nA cs) (nA (fun x => cs x + cl x)) (fun p_size p_column p_sheet => some (p_size, p_column, p_sheet)) N) (nI a) (nI (a + d)) (nI (a + k)) (nI (pg ++ tkS tx ts tl fc cs cl a k ++ sep k).length) (nI (col + (tkS tx ts tl fc cs cl a k).length + (sep k).length)) sh1 = lp_X3_layTokens_2 (nI n) ct (nA ts) (nA tl) (nA fc) (nA cs) (nA (fun x => cs x + cl x)) (fun p_size p_column p_sheet => some (p_size, p_column, p_sheet)) N (nI a) (nI (a + d)) (nI (a + s'.1)) (nI (pg ++ tkS tx ts tl fc cs cl a s'.1).length) (nI (col + (tkS tx ts tl fc cs cl a s'.1).length)) s'.2 := by
        intro sh1 g1
        have hl1 : (pg ++ tkS tx ts tl fc cs cl a k ++ sep k).length = pg.length + (tkS tx ts tl fc cs cl a k).length + (sep k).length := by rw [List.length_append, hpl]
        have hcm := e_layComments K hct hch (t := a + k) (col := col + (tkS tx ts tl fc cs cl a k).length + (sep k).length) g1 (by omega) (by omega) (by rw [hl1, hdc]; omega)
        rw [hdc] at hcm
        obtain ⟨sh2, k1, k2⟩ := hcm
        simp only [jn_X3_layTokens_18, jn_X3_layTokens_40, nm]
        rw [k2, ob, e_commentsOf K (show a + k ≤ n by omega), ob, hdc]
        have hl2 : (pg ++ tkS tx ts tl fc cs cl a k ++ sep k ++ cmS tx cs cl (fc (a + k)) dc).length = pg.length + (tkS tx ts tl fc cs cl a k).length + (sep k).length + (cmS tx cs cl (fc (a + k)) dc).length := by rw [List.length_append, hl1]
        have e1 : pg ++ tkS tx ts tl fc cs cl a k ++ sep k ++ cmS tx cs cl (fc (a + k)) dc ++ sep dc ++ txS tx (ts (a + k)) (tl (a + k)) = pg ++ tkS tx ts tl fc cs cl a (k + 1) := by
          show _ = pg ++ (tkS tx ts tl fc cs cl a k ++ sep k ++ cmS tx cs cl (fc (a + k)) (fc (a + k + 1) - fc (a + k)) ++ sep (fc (a + k + 1) - fc (a + k)) ++ txS tx (ts (a + k)) (tl (a + k)))
          rw [hdc]
          simp [List.append_assoc]
        have last : ∀ sh3, pgR (pg ++ tkS tx ts tl fc cs cl a k ++ sep k ++ cmS tx cs cl (fc (a + k)) dc ++ sep dc) sh3 → ∃ s' : Nat × (Nat → Int32), (s'.1 ≤ d ∧ pgR (pg ++ tkS tx ts tl fc cs cl a s'.1) s'.2) ∧ d - s'.1 < d - k ∧ ((rd (nA ts) 16 (nI (a + k))).bind fun v4 => (rd (nA ts) 16 (nI (a + k))).bind fun v5 => (rd (nA tl) 16 (nI (a + k))).bind fun v6 => (f_X3_layText v4 (v5 + v6) ct (nI (pg ++ tkS tx ts tl fc cs cl a k ++ sep k ++ cmS tx cs cl (fc (a + k)) dc ++ sep dc).length) (nI (col + (tkS tx ts tl fc cs cl a k).length + (sep k).length + (cmS tx cs cl (fc (a + k)) dc).length + (sep dc).length)) sh3).bind fun r7 => lp_X3_layTokens_2 (nI n) ct (nA ts) (nA tl) (nA fc) (nA cs) (nA (fun x => cs x + cl x)) (fun p_size p_column p_sheet => some (p_size, p_column, p_sheet)) N (nI a) (nI (a + d)) (nI (a + k) + Int32.ofInt 1) r7.1 r7.2.1 r7.2.2) = lp_X3_layTokens_2 (nI n) ct (nA ts) (nA tl) (nA fc) (nA cs) (nA (fun x => cs x + cl x)) (fun p_size p_column p_sheet => some (p_size, p_column, p_sheet)) N (nI a) (nI (a + d)) (nI (a + s'.1)) (nI (pg ++ tkS tx ts tl fc cs cl a s'.1).length) (nI (col + (tkS tx ts tl fc cs cl a s'.1).length)) s'.2 := by
          intro sh3 g3
          rw [rd_nA (by omega) (by omega), ob, ob, rd_nA (by omega) (by omega), ob, nI_add]
          obtain ⟨sh4, m1, m2⟩ := e_layText hct hch hl (a := ts (a + k)) (d := tl (a + k)) (col := col + (tkS tx ts tl fc cs cl a k).length + (sep k).length + (cmS tx cs cl (fc (a + k)) dc).length + (sep dc).length) g3 htt.2.2 (by rw [List.length_append, hl2]; omega)
          rw [m2, ob, of1, nI_add]
          refine ⟨(k + 1, sh4), ⟨by dsimp only; omega, by dsimp only; rw [← e1]; exact m1⟩, by dsimp only; omega, ?_⟩
          dsimp only
          rw [e1, hs, show col + (tkS tx ts tl fc cs cl a k).length + (sep k).length + (cmS tx cs cl (fc (a + k)) dc).length + (sep dc).length + tl (a + k) = col + ((tkS tx ts tl fc cs cl a k).length + (sep k).length + (cmS tx cs cl (fc (a + k)) dc).length + (sep dc).length + tl (a + k)) by omega]
          rfl
        by_cases z : dc = 0
        · rw [if_pos (show nI dc ≤ (0 : Int32) by rw [z]; decide)]
          have e2 : sep dc = [] := if_pos z
          have := last sh2 (by rw [e2, List.append_nil]; exact k1)
          rw [e2, List.append_nil] at this
          exact this
        · rw [if_neg (show ¬ nI dc ≤ (0 : Int32) from nI_nle (by omega) (by omega))]
          have e2 : sep dc = [32] := if_neg z
          rw [if_neg z] at hsd
          obtain ⟨sh3, m1, m2⟩ := e_put (c := 32) (col := col + (tkS tx ts tl fc cs cl a k).length + (sep k).length + (cmS tx cs cl (fc (a + k)) dc).length) k1 (by omega) (by omega)
          dsimp only
          rw [show (32 : Int32) = nI 32 from rfl, m2, ob]
          have := last sh3 (by rw [e2]; exact m1)
          rw [e2] at this
          exact this
      by_cases k0 : k = 0
      · rw [if_pos ((nI_leI (by omega) (by omega)).mpr (by omega))]
        have e1 : sep k = [] := if_pos k0
        have := fin r (by rw [e1, List.append_nil]; exact h2)
        rw [e1, List.append_nil] at this
        exact this
      · rw [if_neg (fun c => (show ¬ a + k ≤ a by omega) ((nI_leI (by omega) (by omega)).mp c))]
        have e1 : sep k = [32] := if_neg k0
        rw [if_neg k0] at hsl
        obtain ⟨sh1, g1, g2⟩ := e_put (c := 32) (col := col + (tkS tx ts tl fc cs cl a k).length) h2 (by omega) (by omega)
        rw [show (32 : Int32) = nI 32 from rfl, g2, ob]
        have := fin sh1 (by rw [e1]; exact g1)
        rw [e1] at this
        exact this
/-- what stands behind the tree -/
def enS (tx ts tl fc cs cl : Nat → Nat) (n e : Nat) (pg : List Nat) : List Nat :=
  if n - e = 0 ∧ fc (n + 1) - fc n = 0 then [] else (if pg = [] then [] else [10]) ++ tkS tx ts tl fc cs cl e (n - e) ++ (if 0 < n - e ∧ 0 < fc (n + 1) - fc n then [32] else []) ++ cmS tx cs cl (fc n) (fc (n + 1) - fc n)
theorem e_layEnd (K : TOK len n ts tl tg fc cs cl) (hct : txtR len tx ct) (hch : ∀ i, i < len → tx i ≤ 126) {pg : List Nat} {sh : Nat → Int32} {e col : Nat} (hp : pgR pg sh) (he : e ≤ n) (hcol : col ≤ pg.length) (hlen : pg.length + (enS tx ts tl fc cs cl n e pg).length ≤ 1300) :
    ∃ col', CR (pg ++ enS tx ts tl fc cs cl n e pg) col' (f_X3_layEnd (nI n) ct (nA ts) (nA tl) (nA fc) (nA cs) (nA (fun x => cs x + cl x)) (nI (n - e)) (nI pg.length) (nI col) sh) := by
  have hn := K.2.1
  have hl := K.1
  have hf40 := fc_le K (show n + 1 ≤ n + 1 by omega)
  generalize hE : enS tx ts tl fc cs cl n e pg = E at hlen ⊢
  unfold enS at hE
  unfold f_X3_layEnd
  rw [e_commentsOf K (Nat.le_refl n), ob]
  generalize hdc : fc (n + 1) - fc n = dc at *
  generalize hde : n - e = de at *
  -- from the tokens on
  have tail : ∀ (pg1 : List Nat) (sh1 : Nat → Int32) (col1 : Nat) (x1 : Int32), pgR pg1 sh1 → col1 ≤ pg1.length → (x1 = 0 ↔ dc = 0) → pg1.length + (tkS tx ts tl fc cs cl e de ++ (if 0 < de ∧ 0 < dc then [32] else []) ++ cmS tx cs cl (fc n) dc).length ≤ 1300 → ∃ col', CR (pg1 ++ (tkS tx ts tl fc cs cl e de ++ (if 0 < de ∧ 0 < dc then [32] else []) ++ cmS tx cs cl (fc n) dc)) col' (jn_X3_layEnd_51 (nI n) ct (nA ts) (nA tl) (nA fc) (nA cs) (nA (fun x => cs x + cl x)) (nI de) x1 (nI pg1.length) (nI col1) sh1) := by
    intro pg1 sh1 col1 x1 g1 g2 gx g3
    unfold jn_X3_layEnd_51 jn_X3_layEnd_97
    rw [List.length_append, List.length_append] at g3
    rw [nI_sub (by omega), show n - de = e by omega]
    have ht := e_layTokens K hct hch (a := e) (d := de) (col := col1) g1 (by omega) g2 (by omega)
    rw [show e + de = n by omega] at ht
    obtain ⟨sh2, k1, k2⟩ := ht
    rw [k2, ob]
    dsimp only
    have cm : ∀ (pg2 : List Nat) (sh3 : Nat → Int32) (col2 : Nat), pgR pg2 sh3 → col2 ≤ 1300 → pg2.length + (cmS tx cs cl (fc n) dc).length ≤ 1300 → ∃ col', CR (pg2 ++ cmS tx cs cl (fc n) dc) col' ((f_X3_layComments (nI n) (nI n) ct (nA fc) (nA cs) (nA (fun x => cs x + cl x)) (nI pg2.length) (nI col2) sh3).bind fun r4 => some (r4.1, r4.2.1, r4.2.2)) := by
      intro pg2 sh3 col2 m1 m2 m3
      have hc := e_layComments K hct hch (t := n) (col := col2) m1 (Nat.le_refl _) m2 (by rw [hdc]; exact m3)
      rw [hdc] at hc
      obtain ⟨sh4, q1, q2⟩ := hc
      exact ⟨_, sh4, q1, by rw [q2, ob]⟩
    have hpl : (pg1 ++ tkS tx ts tl fc cs cl e de).length = pg1.length + (tkS tx ts tl fc cs cl e de).length := List.length_append
    by_cases z : de = 0
    · rw [if_pos (show nI de ≤ (0 : Int32) by rw [z]; decide), if_neg (show ¬ (0 < de ∧ 0 < dc) by omega), List.append_nil, ← List.append_assoc]
      exact cm _ sh2 _ k1 (by omega) (by omega)
    · rw [if_neg (show ¬ nI de ≤ (0 : Int32) from nI_nle (by omega) (by omega))]
      by_cases y : dc = 0
      · rw [if_pos (gx.mpr y), if_neg (show ¬ (0 < de ∧ 0 < dc) by omega), List.append_nil, ← List.append_assoc]
        exact cm _ sh2 _ k1 (by omega) (by omega)
      · rw [if_neg (fun c => y (gx.mp c)), if_pos (show 0 < de ∧ 0 < dc by omega), ← List.append_assoc, ← List.append_assoc]
        rw [if_pos (show 0 < de ∧ 0 < dc by omega)] at g3
        have h32 : ([32] : List Nat).length = 1 := rfl
        obtain ⟨sh3, m1, m2⟩ := e_put (c := 32) (col := col1 + (tkS tx ts tl fc cs cl e de).length) k1 (by omega) (by omega)
        rw [show (32 : Int32) = nI 32 from rfl, m2, ob]
        exact cm _ sh3 _ m1 (by omega) (by rw [List.length_append, hpl]; omega)
  have mid : ∀ (x1 : Int32), (x1 = 0 ↔ dc = 0) → ∃ col', CR (pg ++ E) col' (jn_X3_layEnd_22 (nI n) ct (nA ts) (nA tl) (nA fc) (nA cs) (nA (fun x => cs x + cl x)) (nI de) x1 (nI pg.length) (nI col) sh) := by
    intro x1 gx
    have go : ¬ (de = 0 ∧ dc = 0) → ∃ col', CR (pg ++ E) col' (jn_X3_layEnd_38 (nI n) ct (nA ts) (nA tl) (nA fc) (nA cs) (nA (fun x => cs x + cl x)) (nI de) x1 (nI pg.length) (nI col) sh) := by
      intro hne
      rw [if_neg hne, List.append_assoc, List.append_assoc] at hE
      unfold jn_X3_layEnd_38
      by_cases p0 : pg = []
      · rw [if_pos p0, List.nil_append, ← List.append_assoc] at hE
        rw [if_pos (show nI pg.length ≤ (0 : Int32) by rw [p0]; decide), ← hE]
        exact tail pg sh col x1 hp hcol gx (by rw [hE]; exact hlen)
      · have pl : 0 < pg.length := List.length_pos_iff.mpr p0
        rw [if_neg p0] at hE
        rw [← hE, List.length_append] at hlen
        have h10 : ([10] : List Nat).length = 1 := rfl
        rw [if_neg (show ¬ nI pg.length ≤ (0 : Int32) from nI_nle pl (by omega))]
        obtain ⟨sh1, m1, m2⟩ := e_put (c := 10) (col := col) hp (by omega) (by omega)
        rw [show (10 : Int32) = nI 10 from rfl, m2, ob, ← hE, ← List.append_assoc, ← List.append_assoc (tkS tx ts tl fc cs cl e de)]
        exact tail _ sh1 _ x1 m1 (by rw [List.length_append]; omega) gx (by rw [List.append_assoc (tkS tx ts tl fc cs cl e de)]; rw [List.length_append (as := pg)]; omega)
    unfold jn_X3_layEnd_22
    simp only [nm]
    by_cases z : de = 0
    · rw [if_pos (show nI de = (0 : Int32) by rw [z]; rfl)]
      by_cases y : dc = 0
      · rw [if_pos (gx.mpr y)]
        rw [if_pos ⟨z, y⟩] at hE
        refine ⟨col, sh, ?_, ?_⟩
        · rw [← hE, List.append_nil]; exact hp
        · rw [← hE, List.append_nil]
      · rw [if_neg (fun c => y (gx.mp c))]
        exact go (fun c => y c.2)
    · rw [if_neg (show ¬ nI de = (0 : Int32) from nI_ne0 (by omega) (by omega))]
      exact go (fun c => z c.1)
  by_cases y : dc = 0
  · rw [if_pos (show nI dc ≤ (0 : Int32) by rw [y]; decide)]
    exact mid 0 ⟨fun _ => y, fun _ => rfl⟩
  · rw [if_neg (show ¬ nI dc ≤ (0 : Int32) from nI_nle (by omega) (by omega))]
    exact mid 1 ⟨fun c => absurd c (by decide), fun c => absurd c y⟩
end CTOK
