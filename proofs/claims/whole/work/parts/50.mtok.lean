/-! the reference's putTokens -/
def MR (pg : List Nat) (col : Nat) (out : Option ((Int32) × (Int32) × (Nat → Int32))) : Prop := ∃ sh, pgR pg sh ∧ out = some (nI col, nI pg.length, sh)
section MTOK
variable {tx : Nat → Nat} {len : Nat} {mk : Nat → Int32} {n : Nat} {ts tl tg fc cs cl : Nat → Nat}
theorem e_mput {pg : List Nat} {sh : Nat → Int32} {c col : Nat} (hp : pgR pg sh) (hl : pg.length < 6000) : MR (pg ++ [c]) (col + 1) (f_X6_put (nI c) (nI col) (nI pg.length) sh) := by
  refine ⟨upd sh pg.length (nI c), pgR_put hp, ?_⟩
  unfold f_X6_put
  rw [wrI_nI hl (by omega), ob, nI_1, nI_1]
  simp
theorem e_m63 (K : TOK len n ts tl tg fc cs cl) (hct : txtR len tx mk) {pg : List Nat} {sh : Nat → Int32} {c col : Nat} (hp : pgR pg sh) (hc : c < fc (n + 1)) (hlen : pg.length + cl c ≤ 6000) {x2 x5 x6 : Int32} {k : (Int32) → (Int32) → (Int32) → (Int32) → (Int32) → (Int32) → (Nat → Int32) → Option ((Int32) × (Int32) × (Nat → Int32))} :
    ∃ sh', pgR (pg ++ txS tx (cs c) (cl c)) sh' ∧ lp_X6_putTokens_63 mk (nA ts) (nA tl) (nA cs) (nA cl) (nA fc) k FU x2 x5 x6 (nI c) 0 (nI col) (nI pg.length) sh = k x2 x5 x6 (nI c) (nI (col + cl c)) (nI (pg ++ txS tx (cs c) (cl c)).length) sh' := by
  have hcc := K.2.2.2.2.2.2.1 c hc
  have hl := K.1
  have h40 := K.2.2.2.2.2.1
  have key := loopE (fun N (q : Nat × (Nat → Int32)) => lp_X6_putTokens_63 mk (nA ts) (nA tl) (nA cs) (nA cl) (nA fc) k N x2 x5 x6 (nI c) (nI q.1) (nI (col + q.1)) (nI (pg.length + q.1)) q.2)
    (fun R => ∃ sh', pgR (pg ++ txS tx (cs c) (cl c)) sh' ∧ R = k x2 x5 x6 (nI c) (nI (col + cl c)) (nI (pg ++ txS tx (cs c) (cl c)).length) sh')
    (fun q => q.1 ≤ cl c ∧ pgR (pg ++ txS tx (cs c) q.1) q.2) (fun q => cl c - q.1) ?_ FU (0, sh) (FU_gt (by dsimp only; omega)) ⟨by dsimp only; omega, by show pgR (pg ++ []) sh; rw [List.append_nil]; exact hp⟩
  · exact key
  · rintro N ⟨t, r⟩ ⟨h1, h2⟩
    dsimp only at h1 h2 ⊢
    simp only [lp_X6_putTokens_63, nm]
    rw [rd_nA (by omega) (by omega), ob]
    have hpl : (pg ++ txS tx (cs c) t).length = pg.length + t := by rw [List.length_append, txS_len]
    by_cases h : cl c ≤ t
    · left
      have e : t = cl c := by omega
      rw [e] at h2 hpl ⊢
      rw [if_pos ((nI_leI (by omega) (by omega)).mpr (by omega)), hpl]
      exact ⟨r, h2, rfl⟩
    · right
      rw [if_neg (fun x => h ((nI_leI (by omega) (by omega)).mp x)), rd_nA (by omega) (by omega), ob, nI_add, rd_nI (by omega) (by omega), ob, hct _ (by omega)]
      obtain ⟨sh', k1, k2⟩ := e_mput (c := tx (cs c + t)) (col := col + t) h2 (by omega)
      rw [hpl] at k2
      rw [k2, ob, of1, nI_add]
      refine ⟨(t + 1, sh'), ⟨by dsimp only; omega, ?_⟩, by dsimp only; omega, ?_⟩
      · show pgR (pg ++ (txS tx (cs c) t ++ [tx (cs c + t)])) sh'
        rw [← List.append_assoc]
        exact k1
      · dsimp only
        rw [List.length_append, hpl]
        rfl
theorem e_m129 (K : TOK len n ts tl tg fc cs cl) (hct : txtR len tx mk) {pg : List Nat} {sh : Nat → Int32} {t col : Nat} (hp : pgR pg sh) (ht : t < n) (hlen : pg.length + tl t ≤ 6000) {x2 x5 : Int32} {k : (Int32) → (Int32) → (Int32) → (Int32) → (Int32) → (Nat → Int32) → Option ((Int32) × (Int32) × (Nat → Int32))} :
    ∃ sh', pgR (pg ++ txS tx (ts t) (tl t)) sh' ∧ lp_X6_putTokens_129 mk (nA ts) (nA tl) (nA cs) (nA cl) (nA fc) k FU x2 x5 (nI t) 0 (nI col) (nI pg.length) sh = k x2 x5 (nI t) (nI (col + tl t)) (nI (pg ++ txS tx (ts t) (tl t)).length) sh' := by
  have hcc := K.2.2.1 t ht
  have hl := K.1
  have hn := K.2.1
  have key := loopE (fun N (q : Nat × (Nat → Int32)) => lp_X6_putTokens_129 mk (nA ts) (nA tl) (nA cs) (nA cl) (nA fc) k N x2 x5 (nI t) (nI q.1) (nI (col + q.1)) (nI (pg.length + q.1)) q.2)
    (fun R => ∃ sh', pgR (pg ++ txS tx (ts t) (tl t)) sh' ∧ R = k x2 x5 (nI t) (nI (col + tl t)) (nI (pg ++ txS tx (ts t) (tl t)).length) sh')
    (fun q => q.1 ≤ tl t ∧ pgR (pg ++ txS tx (ts t) q.1) q.2) (fun q => tl t - q.1) ?_ FU (0, sh) (FU_gt (by dsimp only; omega)) ⟨by dsimp only; omega, by show pgR (pg ++ []) sh; rw [List.append_nil]; exact hp⟩
  · exact key
  · rintro N ⟨w, r⟩ ⟨h1, h2⟩
    dsimp only at h1 h2 ⊢
    simp only [lp_X6_putTokens_129, nm]
    rw [rd_nA (by omega) (by omega), ob]
    have hpl : (pg ++ txS tx (ts t) w).length = pg.length + w := by rw [List.length_append, txS_len]
    by_cases h : tl t ≤ w
    · left
      have e : w = tl t := by omega
      rw [e] at h2 hpl ⊢
      rw [if_pos ((nI_leI (by omega) (by omega)).mpr (by omega)), hpl]
      exact ⟨r, h2, rfl⟩
    · right
      rw [if_neg (fun x => h ((nI_leI (by omega) (by omega)).mp x)), rd_nA (by omega) (by omega), ob, nI_add, rd_nI (by omega) (by omega), ob, hct _ (by omega)]
      obtain ⟨sh', k1, k2⟩ := e_mput (c := tx (ts t + w)) (col := col + w) h2 (by omega)
      rw [hpl] at k2
      rw [k2, ob, of1, nI_add]
      refine ⟨(w + 1, sh'), ⟨by dsimp only; omega, ?_⟩, by dsimp only; omega, ?_⟩
      · show pgR (pg ++ (txS tx (ts t) w ++ [tx (ts t + w)])) sh'
        rw [← List.append_assoc]
        exact k1
      · dsimp only
        rw [List.length_append, hpl]
        rfl
/-- a space before, where something stands already and something comes -/
def sep2 (f d : Nat) : List Nat := if f = 0 ∨ d = 0 then [] else [32]
def fl (f : Nat) : Int32 := if f = 0 then 0 else 1
theorem e_m35 (K : TOK len n ts tl tg fc cs cl) (hct : txtR len tx mk) {pg : List Nat} {sh : Nat → Int32} {t col f : Nat} (hp : pgR pg sh) (ht : t ≤ n) (hcol : col ≤ 6000) (hlen : pg.length + (sep2 f (fc (t + 1) - fc t)).length + (cmS tx cs cl (fc t) (fc (t + 1) - fc t)).length ≤ 6000) {x2 x5 : Int32} {k : (Int32) → (Int32) → (Int32) → (Int32) → (Int32) → (Int32) → (Nat → Int32) → Option ((Int32) × (Int32) × (Nat → Int32))} :
    ∃ sh', pgR (pg ++ sep2 f (fc (t + 1) - fc t) ++ cmS tx cs cl (fc t) (fc (t + 1) - fc t)) sh' ∧ lp_X6_putTokens_35 mk (nA ts) (nA tl) (nA cs) (nA cl) (nA fc) k FU x2 (fl f) x5 (nI t) (nI (fc t)) (nI col) (nI pg.length) sh = k x2 (fl (f + (fc (t + 1) - fc t))) x5 (nI t) (nI (col + (sep2 f (fc (t + 1) - fc t)).length + (cmS tx cs cl (fc t) (fc (t + 1) - fc t)).length)) (nI (pg ++ sep2 f (fc (t + 1) - fc t) ++ cmS tx cs cl (fc t) (fc (t + 1) - fc t)).length) sh' := by
  have hn := K.2.1
  have hl := K.1
  have hf40 := fc_le K (show t + 1 ≤ n + 1 by omega)
  have hfe := fc_end K (show t + 1 ≤ n + 1 by omega)
  have hle := K.2.2.2.2.1 t ht
  generalize hd : fc (t + 1) - fc t = d at hlen ⊢
  -- the page after k comments
  have s2l : ∀ k, (sep2 f k).length ≤ 1 := by intro k; unfold sep2; split <;> simp
  have key := loopE (fun N (q : Nat × (Nat → Int32)) => lp_X6_putTokens_35 mk (nA ts) (nA tl) (nA cs) (nA cl) (nA fc) k N x2 (fl (f + q.1)) x5 (nI t) (nI (fc t + q.1)) (nI (col + (sep2 f q.1).length + (cmS tx cs cl (fc t) q.1).length)) (nI (pg ++ sep2 f q.1 ++ cmS tx cs cl (fc t) q.1).length) q.2)
    (fun R => ∃ sh', pgR (pg ++ sep2 f d ++ cmS tx cs cl (fc t) d) sh' ∧ R = k x2 (fl (f + d)) x5 (nI t) (nI (col + (sep2 f d).length + (cmS tx cs cl (fc t) d).length)) (nI (pg ++ sep2 f d ++ cmS tx cs cl (fc t) d).length) sh')
    (fun q => q.1 ≤ d ∧ pgR (pg ++ sep2 f q.1 ++ cmS tx cs cl (fc t) q.1) q.2) (fun q => d - q.1) ?_ FU (0, sh) (FU_gt (by dsimp only; omega)) ⟨by dsimp only; omega, ?_⟩
  · have e0 : sep2 f 0 = [] := if_pos (Or.inr rfl)
    dsimp only at key
    rw [e0] at key
    simp only [cmS, List.append_nil, List.length_nil, Nat.add_zero] at key
    exact key
  · rintro N ⟨w, r⟩ ⟨h1, h2⟩
    dsimp only at h1 h2 ⊢
    simp only [lp_X6_putTokens_35, jn_X6_putTokens_60, nm]
    rw [nI_1 t, rd_nA (by omega) (by omega), ob]
    have hpl : (pg ++ sep2 f w ++ cmS tx cs cl (fc t) w).length = pg.length + (sep2 f w).length + (cmS tx cs cl (fc t) w).length := by rw [List.length_append, List.length_append]
    by_cases h : d ≤ w
    · left
      have e : w = d := by omega
      rw [e] at h2 hpl ⊢
      rw [if_pos ((nI_leI (by omega) (by omega)).mpr (by omega))]
      exact ⟨r, h2, rfl⟩
    · right
      have hcc := K.2.2.2.2.2.2.1 (fc t + w) (by omega)
      have hm := cmS_mono (tx := tx) (cs := cs) (cl := cl) (f := fc t) (show w + 1 ≤ d by omega)
      have hs := cmS_s (tx := tx) (cs := cs) (cl := cl) (f := fc t) (d := w)
      have hsl := sep_len (d := w)
      have ed : sep2 f d = sep2 f (w + 1) := by
        unfold sep2
        by_cases z : f = 0
        · rw [if_pos (Or.inl z), if_pos (Or.inl z)]
        · rw [if_neg (by omega), if_neg (by omega)]
      have ef : fl (f + (w + 1)) = 1 := if_neg (by omega)
      rw [ed] at hlen
      rw [if_neg (fun x => h (by have := (nI_leI (by omega) (by omega)).mp x; omega))]
      have fin : ∀ (sh1 : Nat → Int32) (pg1 : List Nat) (col1 : Nat), pg1 ++ txS tx (cs (fc t + w)) (cl (fc t + w)) = pg ++ sep2 f (w + 1) ++ cmS tx cs cl (fc t) (w + 1) → col1 + cl (fc t + w) = col + (sep2 f (w + 1)).length + (cmS tx cs cl (fc t) (w + 1)).length → pgR pg1 sh1 → ∃ s' : Nat × (Nat → Int32), (s'.1 ≤ d ∧ pgR (pg ++ sep2 f s'.1 ++ cmS tx cs cl (fc t) s'.1) s'.2) ∧ d - s'.1 < d - w ∧ lp_X6_putTokens_63 mk (nA ts) (nA tl) (nA cs) (nA cl) (nA fc) (fun x2 x5 x6 x7 m_column m_printed m_print => lp_X6_putTokens_35 mk (nA ts) (nA tl) (nA cs) (nA cl) (nA fc) k N x2 1 x5 x6 (x7 + Int32.ofInt 1) m_column m_printed m_print) FU x2 x5 (nI t) (nI (fc t + w)) 0 (nI col1) (nI pg1.length) sh1 = lp_X6_putTokens_35 mk (nA ts) (nA tl) (nA cs) (nA cl) (nA fc) k N x2 (fl (f + s'.1)) x5 (nI t) (nI (fc t + s'.1)) (nI (col + (sep2 f s'.1).length + (cmS tx cs cl (fc t) s'.1).length)) (nI (pg ++ sep2 f s'.1 ++ cmS tx cs cl (fc t) s'.1).length) s'.2 := by
        intro sh1 pg1 col1 e1 e2 g1
        have hl1 := congrArg List.length e1
        rw [List.length_append, txS_len, List.length_append, List.length_append] at hl1
        obtain ⟨sh2, k1, k2⟩ := e_m63 K hct (c := fc t + w) (col := col1) (x2 := x2) (x5 := x5) (x6 := nI t) (k := fun x2 x5 x6 x7 m_column m_printed m_print => lp_X6_putTokens_35 mk (nA ts) (nA tl) (nA cs) (nA cl) (nA fc) k N x2 1 x5 x6 (x7 + Int32.ofInt 1) m_column m_printed m_print) g1 (by omega) (by omega)
        rw [k2, of1, nI_add, e1, e2]
        rw [e1] at k1
        exact ⟨(w + 1, sh2), ⟨by dsimp only; omega, k1⟩, by dsimp only; omega, by dsimp only; rw [ef]; rfl⟩
      have hcm : cmS tx cs cl (fc t) (w + 1) = cmS tx cs cl (fc t) w ++ sep w ++ txS tx (cs (fc t + w)) (cl (fc t + w)) := rfl
      by_cases z : f + w = 0
      · have ez : fl (f + w) = 0 := if_pos z
        rw [ez, if_pos rfl]
        have q1 : sep2 f (w + 1) = [] := if_pos (Or.inl (by omega))
        have q2 : sep2 f w = [] := if_pos (Or.inl (by omega))
        have q3 : sep w = [] := if_pos (by omega)
        exact fin r _ _ (by rw [hcm, q1, q2, q3]; simp [List.append_assoc]) (by rw [q1, q2, hs, q3]; simp; omega) h2
      · have ez : fl (f + w) = 1 := if_neg z
        rw [ez, if_neg (show ¬ (1 : Int32) = 0 by decide)]
        have q1 : (if w = 0 then sep2 f (w + 1) = [32] ∧ sep2 f w = [] ∧ sep w = [] else sep2 f (w + 1) = sep2 f w ∧ sep w = [32]) := by
          split
          · next hw => exact ⟨if_neg (by omega), if_pos (Or.inr hw), if_pos hw⟩
          · next hw =>
            refine ⟨?_, if_neg hw⟩
            unfold sep2
            by_cases z2 : f = 0
            · rw [if_pos (Or.inl z2), if_pos (Or.inl z2)]
            · rw [if_neg (by omega), if_neg (by omega)]
        have hb : (pg ++ sep2 f w ++ cmS tx cs cl (fc t) w).length < 6000 := by
          have := hcc.1
          have := s2l (w + 1)
          split at q1
          · next hw =>
            have q4 := congrArg List.length q1.2.1
            rw [List.length_nil] at q4
            have q5 := congrArg List.length q1.1
            rw [show ([32] : List Nat).length = 1 from rfl] at q5
            omega
          · rw [q1.1] at hlen
            rw [if_neg (by assumption)] at hsl
            omega
        obtain ⟨sh1, g1, g2⟩ := e_mput (c := 32) (col := col + (sep2 f w).length + (cmS tx cs cl (fc t) w).length) h2 hb
        rw [show (32 : Int32) = nI 32 from rfl, g2, ob]
        refine fin sh1 _ _ ?_ ?_ g1
        · rw [hcm]
          split at q1
          · next hw =>
            rw [q1.1, q1.2.1, q1.2.2, hw]
            simp [cmS]
          · rw [q1.1, q1.2]; simp [List.append_assoc]
        · rw [hs]
          split at q1
          · next hw =>
            rw [q1.1, q1.2.1, q1.2.2, hw]
            simp [cmS]
          · rw [q1.1, q1.2]; simp; omega
  · dsimp only
    have e0 : sep2 f 0 = [] := if_pos (Or.inr rfl)
    rw [e0]
    simp only [cmS, List.append_nil]
    exact hp
end MTOK
