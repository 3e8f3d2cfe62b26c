/-! the reference's putTokens, whole -/
section MTOK2
variable {tx : Nat → Nat} {len : Nat} {mk : Nat → Int32} {n : Nat} {ts tl tg fc cs cl : Nat → Nat}
theorem sep_swap (k d : Nat) (c : List Nat) (hc : d = 0 → c = []) : sep k ++ c ++ sep d = sep2 k d ++ c ++ sep (k + d) := by
  unfold sep sep2
  by_cases hd : d = 0
  · rw [hc hd, if_pos hd, if_pos (Or.inr hd), hd]
    simp
  · by_cases hk : k = 0
    · rw [if_pos hk, if_neg hd, if_pos (Or.inl hk), if_neg (by omega)]
    · rw [if_neg hk, if_neg hd, if_neg (by omega), if_neg (by omega)]
/-- one token of the loop -/
theorem e_m19 (K : TOK len n ts tl tg fc cs cl) (hct : txtR len tx mk) {pg : List Nat} {sh : Nat → Int32} {a k col b : Nat} (hp : pgR (pg ++ tkS tx ts tl fc cs cl a k) sh) (hk : a + k < b) (hb : b ≤ n) (hcol : col ≤ pg.length) (hlen : pg.length + (tkS tx ts tl fc cs cl a (k + 1)).length ≤ 6000) {x5 : Int32} (hx5 : ¬ x5 ≤ nI (a + k)) {K0 : (Int32) → (Int32) → (Nat → Int32) → Option ((Int32) × (Int32) × (Nat → Int32))} {N : Nat} :
    ∃ sh', pgR (pg ++ tkS tx ts tl fc cs cl a (k + 1)) sh' ∧ lp_X6_putTokens_19 mk (nA ts) (nA tl) (nA cs) (nA cl) (nA fc) K0 (N + 1) (nI b) (fl k) x5 (nI (a + k)) (nI (col + (tkS tx ts tl fc cs cl a k).length)) (nI (pg ++ tkS tx ts tl fc cs cl a k).length) sh = lp_X6_putTokens_19 mk (nA ts) (nA tl) (nA cs) (nA cl) (nA fc) K0 N (nI b) (fl (k + 1)) x5 (nI (a + (k + 1))) (nI (col + (tkS tx ts tl fc cs cl a (k + 1)).length)) (nI (pg ++ tkS tx ts tl fc cs cl a (k + 1)).length) sh' := by
  have hn := K.2.1
  have hl := K.1
  have htt := K.2.2.1 (a + k) (by omega)
  have hf40 := fc_le K (show a + k + 1 ≤ n + 1 by omega)
  have hs := tkS_s (tx := tx) (ts := ts) (tl := tl) (fc := fc) (cs := cs) (cl := cl) (a := a) (d := k)
  have hdef : tkS tx ts tl fc cs cl a (k + 1) = tkS tx ts tl fc cs cl a k ++ sep k ++ cmS tx cs cl (fc (a + k)) (fc (a + k + 1) - fc (a + k)) ++ sep (fc (a + k + 1) - fc (a + k)) ++ txS tx (ts (a + k)) (tl (a + k)) := rfl
  have m35 := fun kk x5 => e_m35 K hct (t := a + k) (col := col + (tkS tx ts tl fc cs cl a k).length) (f := k) (x2 := nI b) (x5 := x5) (k := kk) hp (by omega)
  generalize hdc : fc (a + k + 1) - fc (a + k) = dc at hs hdef m35
  generalize hC : cmS tx cs cl (fc (a + k)) dc = C at hs hdef m35
  have hC0 : dc = 0 → C = [] := fun z => by rw [← hC, z]; rfl
  have hsw := sep_swap k dc C hC0
  have hswl := congrArg List.length hsw
  rw [List.length_append, List.length_append, List.length_append, List.length_append] at hswl
  have hpl : (pg ++ tkS tx ts tl fc cs cl a k).length = pg.length + (tkS tx ts tl fc cs cl a k).length := List.length_append
  simp only [lp_X6_putTokens_19, jn_X6_putTokens_169, jn_X6_putTokens_126, nm]
  rw [if_neg hx5, rd_nA (by omega) (by omega), ob]
  obtain ⟨sh1, k1, k2⟩ := m35 (fun x2 x4 x5 x6 m_column m_printed m_print =>
        if x2 ≤ x6 then (
          lp_X6_putTokens_19 mk (nA ts) (nA tl) (nA cs) (nA cl) (nA fc) K0 N x2 x4 x5 (x6 + Int32.ofInt 1) m_column m_printed m_print
        ) else (
          if x4 = 0 then (
            lp_X6_putTokens_129 mk (nA ts) (nA tl) (nA cs) (nA cl) (nA fc) (fun x2 x5 x6 m_column m_printed m_print => lp_X6_putTokens_19 mk (nA ts) (nA tl) (nA cs) (nA cl) (nA fc) K0 N x2 1 x5 (x6 + Int32.ofInt 1) m_column m_printed m_print) FU x2 x5 x6 0 m_column m_printed m_print
          ) else (
            (f_X6_put 32 m_column m_printed m_print).bind fun r24 =>
            lp_X6_putTokens_129 mk (nA ts) (nA tl) (nA cs) (nA cl) (nA fc) (fun x2 x5 x6 m_column m_printed m_print => lp_X6_putTokens_19 mk (nA ts) (nA tl) (nA cs) (nA cl) (nA fc) K0 N x2 1 x5 (x6 + Int32.ofInt 1) m_column m_printed m_print) FU x2 x5 x6 0 r24.1 r24.2.1 r24.2.2
          )
        )) x5 (by omega) (by omega)
  rw [k2, if_neg (fun c => (show ¬ b ≤ a + k by omega) ((nI_leI (by omega) (by omega)).mp c))]
  have hl1 : (pg ++ tkS tx ts tl fc cs cl a k ++ sep2 k dc ++ C).length = pg.length + (tkS tx ts tl fc cs cl a k).length + (sep2 k dc).length + C.length := by rw [List.length_append, List.length_append, hpl]
  have ef : fl (k + 1) = 1 := if_neg (by omega)
  have fin : ∀ (sh2 : Nat → Int32), pgR (pg ++ tkS tx ts tl fc cs cl a k ++ sep2 k dc ++ C ++ sep (k + dc)) sh2 → ∃ sh', pgR (pg ++ tkS tx ts tl fc cs cl a (k + 1)) sh' ∧ lp_X6_putTokens_129 mk (nA ts) (nA tl) (nA cs) (nA cl) (nA fc) (fun x2 x5 x6 m_column m_printed m_print => lp_X6_putTokens_19 mk (nA ts) (nA tl) (nA cs) (nA cl) (nA fc) K0 N x2 1 x5 (x6 + Int32.ofInt 1) m_column m_printed m_print) FU (nI b) x5 (nI (a + k)) 0 (nI (col + (tkS tx ts tl fc cs cl a k).length + (sep2 k dc).length + C.length + (sep (k + dc)).length)) (nI (pg ++ tkS tx ts tl fc cs cl a k ++ sep2 k dc ++ C ++ sep (k + dc)).length) sh2 = lp_X6_putTokens_19 mk (nA ts) (nA tl) (nA cs) (nA cl) (nA fc) K0 N (nI b) (fl (k + 1)) x5 (nI (a + (k + 1))) (nI (col + (tkS tx ts tl fc cs cl a (k + 1)).length)) (nI (pg ++ tkS tx ts tl fc cs cl a (k + 1)).length) sh' := by
    intro sh2 g
    have e1 : pg ++ tkS tx ts tl fc cs cl a k ++ sep2 k dc ++ C ++ sep (k + dc) ++ txS tx (ts (a + k)) (tl (a + k)) = pg ++ tkS tx ts tl fc cs cl a (k + 1) := by
      rw [hdef]
      have := congrArg (fun z => pg ++ tkS tx ts tl fc cs cl a k ++ z ++ txS tx (ts (a + k)) (tl (a + k))) hsw
      simp only [List.append_assoc] at this ⊢
      exact this.symm
    obtain ⟨sh3, m1, m2⟩ := e_m129 K hct (t := a + k) (col := col + (tkS tx ts tl fc cs cl a k).length + (sep2 k dc).length + C.length + (sep (k + dc)).length) (x2 := nI b) (x5 := x5) (k := fun x2 x5 x6 m_column m_printed m_print => lp_X6_putTokens_19 mk (nA ts) (nA tl) (nA cs) (nA cl) (nA fc) K0 N x2 1 x5 (x6 + Int32.ofInt 1) m_column m_printed m_print) g (by omega) (by rw [List.length_append, hl1]; omega)
    rw [e1] at m1 m2
    refine ⟨sh3, m1, ?_⟩
    rw [m2, of1, nI_add, ef, show col + (tkS tx ts tl fc cs cl a k).length + (sep2 k dc).length + C.length + (sep (k + dc)).length + tl (a + k) = col + (tkS tx ts tl fc cs cl a (k + 1)).length by rw [hs]; omega]
    rfl
  by_cases z : k + dc = 0
  · have ez : fl (k + dc) = 0 := if_pos z
    have es : sep (k + dc) = [] := if_pos z
    rw [ez, if_pos rfl]
    have := fin sh1 (by rw [es, List.append_nil]; exact k1)
    rw [es, List.append_nil] at this
    exact this
  · have ez : fl (k + dc) = 1 := if_neg z
    have es : sep (k + dc) = [32] := if_neg z
    rw [ez, if_neg (show ¬ (1 : Int32) = 0 by decide)]
    have h32 : ([32] : List Nat).length = 1 := rfl
    rw [es] at hswl
    obtain ⟨sh2, g1, g2⟩ := e_mput (c := 32) (col := col + (tkS tx ts tl fc cs cl a k).length + (sep2 k dc).length + C.length) k1 (by omega)
    rw [show (32 : Int32) = nI 32 from rfl, g2, ob]
    have := fin sh2 (by rw [es]; exact g1)
    rw [es] at this
    exact this
theorem e_mputTokens0 (K : TOK len n ts tl tg fc cs cl) (hct : txtR len tx mk) {pg : List Nat} {sh : Nat → Int32} {a d col : Nat} (hp : pgR pg sh) (had : a + d ≤ n) (hcol : col ≤ pg.length) (hlen : pg.length + (tkS tx ts tl fc cs cl a d).length ≤ 6000) :
    MR (pg ++ tkS tx ts tl fc cs cl a d) (col + (tkS tx ts tl fc cs cl a d).length) (f_X6_putTokens (nI a) (nI (a + d)) 0 mk (nA ts) (nA tl) (nA cs) (nA cl) (nA fc) (nI col) (nI pg.length) sh) := by
  have hn := K.2.1
  unfold f_X6_putTokens jn_X6_putTokens_14
  simp only [nm, if_true]
  have key := loopE (fun N (q : Nat × (Nat → Int32)) => lp_X6_putTokens_19 mk (nA ts) (nA tl) (nA cs) (nA cl) (nA fc) (fun m_column m_printed m_print => some (m_column, m_printed, m_print)) N (nI (a + d)) (fl q.1) (nI (a + d)) (nI (a + q.1)) (nI (col + (tkS tx ts tl fc cs cl a q.1).length)) (nI (pg ++ tkS tx ts tl fc cs cl a q.1).length) q.2)
    (fun R => MR (pg ++ tkS tx ts tl fc cs cl a d) (col + (tkS tx ts tl fc cs cl a d).length) R)
    (fun q => q.1 ≤ d ∧ pgR (pg ++ tkS tx ts tl fc cs cl a q.1) q.2) (fun q => d - q.1) ?_ FU (0, sh) (FU_gt (by dsimp only; omega)) ⟨by dsimp only; omega, by show pgR (pg ++ []) sh; rw [List.append_nil]; exact hp⟩
  · have e0 : (pg ++ tkS tx ts tl fc cs cl a 0).length = pg.length := by show (pg ++ []).length = _; rw [List.append_nil]
    dsimp only at key
    rw [e0] at key
    exact key
  · rintro N ⟨k, r⟩ ⟨h1, h2⟩
    dsimp only at h1 h2 ⊢
    by_cases h : d ≤ k
    · left
      have e : k = d := by omega
      rw [e] at h2 ⊢
      simp only [lp_X6_putTokens_19]
      rw [if_pos ((nI_leI (by omega) (by omega)).mpr (by omega))]
      exact ⟨r, h2, rfl⟩
    · right
      have hm := tkS_mono (tx := tx) (ts := ts) (tl := tl) (fc := fc) (cs := cs) (cl := cl) (a := a) (show k + 1 ≤ d by omega)
      obtain ⟨sh', k1, k2⟩ := e_m19 K hct (b := a + d) h2 (by omega) had hcol (by omega) (x5 := nI (a + d)) (fun c => (show ¬ a + d ≤ a + k by omega) ((nI_leI (by omega) (by omega)).mp c)) (K0 := fun m_column m_printed m_print => some (m_column, m_printed, m_print)) (N := N)
      exact ⟨(k + 1, sh'), ⟨by dsimp only; omega, k1⟩, by dsimp only; omega, k2⟩
theorem e_mputTokens1 (K : TOK len n ts tl tg fc cs cl) (hct : txtR len tx mk) {pg : List Nat} {sh : Nat → Int32} {e col : Nat} (hp : pgR pg sh) (he : e ≤ n) (hcol : col ≤ pg.length) (hlen : pg.length + (tkS tx ts tl fc cs cl e (n - e) ++ (if 0 < n - e ∧ 0 < fc (n + 1) - fc n then [32] else []) ++ cmS tx cs cl (fc n) (fc (n + 1) - fc n)).length ≤ 6000) :
    ∃ col', MR (pg ++ (tkS tx ts tl fc cs cl e (n - e) ++ (if 0 < n - e ∧ 0 < fc (n + 1) - fc n then [32] else []) ++ cmS tx cs cl (fc n) (fc (n + 1) - fc n))) col' (f_X6_putTokens (nI e) (nI n) 1 mk (nA ts) (nA tl) (nA cs) (nA cl) (nA fc) (nI col) (nI pg.length) sh) := by
  have hn := K.2.1
  generalize hde : n - e = de at hlen ⊢
  have hnd : n = e + de := by omega
  rw [List.length_append, List.length_append] at hlen
  unfold f_X6_putTokens jn_X6_putTokens_14
  simp only [nm]
  rw [if_neg (show ¬ (1 : Int32) = 0 by decide), nI_1 n]
  have key := loopE (fun N (q : Nat × Int32 × Nat × List Nat × (Nat → Int32)) => lp_X6_putTokens_19 mk (nA ts) (nA tl) (nA cs) (nA cl) (nA fc) (fun m_column m_printed m_print => some (m_column, m_printed, m_print)) N (nI n) q.2.1 (nI (n + 1)) (nI (e + q.1)) (nI q.2.2.1) (nI q.2.2.2.1.length) q.2.2.2.2)
    (fun R => ∃ col', MR (pg ++ (tkS tx ts tl fc cs cl e de ++ (if 0 < de ∧ 0 < fc (n + 1) - fc n then [32] else []) ++ cmS tx cs cl (fc n) (fc (n + 1) - fc n))) col' R)
    (fun q => pgR q.2.2.2.1 q.2.2.2.2 ∧ ((q.1 ≤ de ∧ q.2.1 = fl q.1 ∧ q.2.2.1 = col + (tkS tx ts tl fc cs cl e q.1).length ∧ q.2.2.2.1 = pg ++ tkS tx ts tl fc cs cl e q.1) ∨ (q.1 = de + 1 ∧ q.2.2.2.1 = pg ++ (tkS tx ts tl fc cs cl e de ++ (if 0 < de ∧ 0 < fc (n + 1) - fc n then [32] else []) ++ cmS tx cs cl (fc n) (fc (n + 1) - fc n))))) (fun q => de + 1 - q.1) ?_ FU (0, 0, col, pg, sh) (FU_gt (by dsimp only; omega)) ⟨hp, Or.inl ⟨Nat.zero_le _, rfl, rfl, by show pg = pg ++ []; rw [List.append_nil]⟩⟩
  · exact key
  · rintro N ⟨k, f, c1, p1, r⟩ ⟨h2, hh⟩
    dsimp only at h2 hh ⊢
    rcases hh with ⟨h1, rfl, rfl, rfl⟩ | ⟨h1, hpg⟩
    · right
      by_cases h : de ≤ k
      · have ek : k = de := by omega
        rw [ek] at h2 ⊢
        have hpl : (pg ++ tkS tx ts tl fc cs cl e de).length = pg.length + (tkS tx ts tl fc cs cl e de).length := List.length_append
        simp only [lp_X6_putTokens_19, jn_X6_putTokens_169, nm]
        rw [← hnd, if_neg (fun c => (show ¬ n + 1 ≤ n by omega) ((nI_leI (by omega) (by omega)).mp c)), rd_nA (by omega) (by omega), ob]
        have es : sep2 de (fc (n + 1) - fc n) = (if 0 < de ∧ 0 < fc (n + 1) - fc n then [32] else []) := by
          unfold sep2
          by_cases z : de = 0 ∨ fc (n + 1) - fc n = 0
          · rw [if_pos z, if_neg (by omega)]
          · rw [if_neg z, if_pos (by omega)]
        rw [← es] at hlen ⊢
        obtain ⟨sh1, k1, k2⟩ := e_m35 K hct (t := n) (col := col + (tkS tx ts tl fc cs cl e de).length) (f := de) (x2 := nI n) (x5 := nI (n + 1)) (k := _) h2 (Nat.le_refl _) (by omega) (by omega)
        rw [k2]
        rw [if_pos ((nI_leI (by omega) (by omega)).mpr (Nat.le_refl n)), of1, nI_add]
        refine ⟨(de + 1, fl (de + (fc (n + 1) - fc n)), col + (tkS tx ts tl fc cs cl e de).length + (sep2 de (fc (n + 1) - fc n)).length + (cmS tx cs cl (fc n) (fc (n + 1) - fc n)).length, pg ++ tkS tx ts tl fc cs cl e de ++ sep2 de (fc (n + 1) - fc n) ++ cmS tx cs cl (fc n) (fc (n + 1) - fc n), sh1), ⟨k1, Or.inr ⟨rfl, ?_⟩⟩, by dsimp only; omega, ?_⟩
        · dsimp only
          rw [List.append_assoc, List.append_assoc, ← List.append_assoc (tkS tx ts tl fc cs cl e de)]
        · dsimp only
          rw [show e + (de + 1) = n + 1 by omega]
      · have hm := tkS_mono (tx := tx) (ts := ts) (tl := tl) (fc := fc) (cs := cs) (cl := cl) (a := e) (show k + 1 ≤ de by omega)
        obtain ⟨sh', k1, k2⟩ := e_m19 K hct (b := n) h2 (by omega) (Nat.le_refl _) hcol (by omega) (x5 := nI (n + 1)) (fun c => (show ¬ n + 1 ≤ e + k by omega) ((nI_leI (by omega) (by omega)).mp c)) (K0 := fun m_column m_printed m_print => some (m_column, m_printed, m_print)) (N := N)
        exact ⟨(k + 1, fl (k + 1), col + (tkS tx ts tl fc cs cl e (k + 1)).length, pg ++ tkS tx ts tl fc cs cl e (k + 1), sh'), ⟨k1, Or.inl ⟨by dsimp only; omega, rfl, rfl, rfl⟩⟩, by dsimp only; omega, k2⟩
    · left
      simp only [lp_X6_putTokens_19]
      rw [if_pos ((nI_leI (by omega) (by omega)).mpr (by omega))]
      rw [hpg] at h2 ⊢
      exact ⟨c1, r, h2, rfl⟩
end MTOK2
