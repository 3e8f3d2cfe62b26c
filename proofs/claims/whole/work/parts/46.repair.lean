/-! repair, on both sides -/
section REPAIR
variable {nr : Nat} {hd ln gs gh : Nat → Nat}
theorem end_same {n : Nat} {sg P B : Nat → Nat} {D : Nat → Nat → Nat → Nat} (G : GW nr hd ln (rsy gs)) (F : Fix nr hd ln (rsy gs) n (lf32 sg) D) (hn : n ≤ 16) (hP : ∀ e, e ≤ n → P (sp 9 0 e) = D 9 0 e) (hB : ∀ e, e ≤ n → B e = psi (D 9 0 e)) (h0 : D 9 0 0 < 72057594054705152) {e : Nat} (he : isEnd (fun e => P (sp 9 0 e) + (n - e) * 4294967296) n e) :
    D 9 0 e < dINF ∧ isEnd (fun e => B e + (n - e) * 16777216) n e := by
  have hI := dINF_v
  have hT0 := (he.2 0 (Nat.zero_le _)).1
  dsimp only at hT0
  rw [hP e he.1, hP 0 (Nat.zero_le _)] at hT0
  have hfin : D 9 0 e + (n - e) * 4294967296 < dINF := by omega
  refine ⟨by omega, isEnd_map (T := fun e => P (sp 9 0 e) + (n - e) * 4294967296) (fun a b ha hb hfa => ?_) (by rw [hP e he.1]; exact hfin) he⟩
  rw [hP a ha] at hfa ⊢
  rw [hP b hb, hB a ha, hB b hb]
  have da : D 9 0 a < dINF := by omega
  have wa := wt_all G F hn (show 1 ≤ 9 by omega) (by omega) (Nat.zero_le a) ha da
  have db := D_le F hn (show 1 ≤ 9 by omega) (by omega) (Nat.zero_le b) hb
  rw [psi_fin da]
  unfold wt at wa
  by_cases c : D 9 0 b < dINF
  · have wb := wt_all G F hn (show 1 ≤ 9 by omega) (by omega) (Nat.zero_le b) hb c
    unfold wt at wb
    rw [psi_fin c]
    constructor <;> intro _ <;> omega
  · have e1 : D 9 0 b = dINF := by omega
    rw [e1, psi_inf]
    constructor <;> intro _ <;> omega
/-- tokens and comments of a text -/
def TOK (len n : Nat) (ts tl tg fc cs cl : Nat → Nat) : Prop :=
  len ≤ 80 ∧ n ≤ 16 ∧ (∀ t, t < n → tg t ≤ 8 ∧ 1 ≤ tl t ∧ ts t + tl t ≤ len) ∧ fc 0 = 0 ∧ (∀ t, t ≤ n → fc t ≤ fc (t + 1)) ∧ fc (n + 1) ≤ 40 ∧ (∀ c, c < fc (n + 1) → 1 ≤ cl c ∧ cs c + cl c ≤ len) ∧ sumR (fun t => tl t + 1) n + sumR (fun c => cl c + 1) (fc (n + 1)) ≤ 2 * len
/-- there is a tree -/
def TREE (nr : Nat) (hd ln gs gh : Nat → Nat) (len : Nat) (tx : Nat → Nat) (ct mk : Nat → Int32) (ts tl tg fc cs cl : Nat → Nat) (n e T : Nat) (D : Nat → Nat → Nat → Nat) (ce hi wi : Nat → Int32) (M : A8) : Prop :=
  TOK len n ts tl tg fc cs cl ∧ txtR len tx ct ∧ txtR len tx mk ∧ (∀ i, i < len → tx i ≤ 126) ∧ e ≤ n ∧ Fix nr hd ln (rsy gs) n (lf32 tg) D ∧ D 9 0 e < dINF ∧ T ≤ 150 ∧ okTree nr hd ln (rsy gs) D e T ∧ CP gh ln D T (arun nr hd ln (rsy gs) D e T).2.2 ce hi wi ∧ MP D T (arun nr hd ln (rsy gs) D e T).2.2 M ∧ Gr nr hd ln (rsy gs) 9
theorem tok_of {tx : Nat → Nat} {len : Nat} {s0 s : TS} (hl : len ≤ 80) (h0 : TV s0) (hI : TI len s) (hg : tGood tx len s0 s) : TOK len s.2.1 s.2.2.2.1 s.2.2.2.2.1 s.2.2.2.2.2.1 (updN s.2.2.2.2.2.2.1 (s.2.1 + 1) s.2.2.1) s.2.2.2.2.2.2.2.1 s.2.2.2.2.2.2.2.2 := by
  obtain ⟨k, hk, he⟩ := hg
  obtain ⟨v1, ⟨v2, v3, v4⟩, v5, v6⟩ := TV_seq h0 k s hk
  obtain ⟨i1, i2, i3⟩ := hI
  have e1 : s.1 = len := by omega
  rw [e1] at v1 v5 v6
  refine ⟨hl, i2, v1, ?_, fun t ht => ?_, ?_, fun c hc => ?_, ?_⟩
  · rw [updN_n (by omega)]; exact v2
  · by_cases e : t = s.2.1
    · rw [e, updN_s, updN_n (by omega)]; exact v4
    · rw [updN_n (by omega), updN_n (by omega)]; exact v3 t (by omega)
  · rw [updN_s]; omega
  · rw [updN_s] at hc; exact v5 c hc
  · rw [updN_s]; exact v6
theorem okTree_pos {D : Nat → Nat → Nat → Nat} {e T : Nat} {sy : Nat → Nat → Nat} (h : okTree nr hd ln sy D e T) : 0 < T := by
  rcases Nat.eq_zero_or_pos T with c | c
  · have := h.2
    rw [c] at this
    exact absurd this (by show ¬ (1 : Nat) = 0; omega)
  · exact c
theorem ground9 {c' : Nat} (h : c' < 64) : ((nI (c' * 512) >>> ((9 : Int32) &&& 31)) &&& 1) = (if c'.testBit 0 = true then 1 else 0) := bs_bit c' h 0 (by omega)
theorem r_repair {c len : Nat} {tx : Nat → Nat} {gg kt mt : Nat → Int32} (G : GW nr hd ln (rsy gs)) (hg : GG c gg) (hgs : grS nr hd ln gs c) (hgc : clo nr hd ln (rsy gs) (mb c)) (hl : len ≤ 80) (hkt : txtR len tx kt) (hmt : txtR len tx mt) (hch : ∀ i, i < len → tx i ≤ 126)
    {rp sd cl0 cz0 cc0 tw0 tz0 tk0 mth mtr mto mco mpa men mop : Int32} {ct0 mk0 Ch0 ce0 hi0 wi0 wt0 : Nat → Int32} {A0 : A5} {M0 : A8} {ts tl tg fc cs cl P0 Bg0 R0 B0 Q0 bn0 cu0 : Nat → Nat}
    (hP : ∀ x, P0 x ≤ dINF) (hBg : ∀ x, Bg0 x ≤ dINF) (hR : ∀ x, R0 x ≤ dINF) (hB : ∀ x, B0 x ≤ dINF) (hQ : ∀ x, Q0 x ≤ dINF) (hT : tz0 = 0 ∨ Gr nr hd ln (rsy gs) 9) :
    ∃ (ts' tl' tg' fc' cs' cl' P Bg R B Q bn cu : Nat → Nat) (ct mk Ch ce hi wi wt : Nat → Int32) (A : A5) (M : A8), (∀ x, P x ≤ dINF) ∧ (∀ x, Bg x ≤ dINF) ∧ (∀ x, R x ≤ dINF) ∧ (∀ x, B x ≤ dINF) ∧ (∀ x, Q x ≤ dINF) ∧
    ((∃ (k k' c1 c2 c3 w1 k1 m1 m2 m3 m4 m5 : Int32), ((k = 3 ∧ k' = 1) ∨ (k = 2 ∧ k' = 2)) ∧
      f_X5_repair (nI len) (nI nr) (nA hd) (nA ln) (nA gs) (nA gh) gg kt rp sd cl0 cz0 cc0 ct0 (nA ts) (nA tl) (nA tg) (nA fc) (nA cs) (nA (fun x => cs x + cl x)) (lA P0) Ch0 (lA Bg0) (lA R0) tw0 tz0 tk0 ce0 hi0 wi0 (nA bn0) A0.1 A0.2.1 A0.2.2.1 A0.2.2.2.1 A0.2.2.2.2 =
        some (k, 0, rp, sd, c1, c2, c3, ct, nA ts', nA tl', nA tg', nA fc', nA cs', nA (fun x => cs' x + cl' x), lA P, Ch, lA Bg, lA R, w1, 0, k1, ce, hi, wi, nA bn, A.1, A.2.1, A.2.2.1, A.2.2.2.1, A.2.2.2.2) ∧
      f_X6_repair (nI nr) (nI len) (nA hd) (nA ln) (nA gs) mt mth mtr mto mco mpa men mop rp sd mk0 (nA ts) (nA tl) (nA tg) (nA cs) (nA cl) (nA fc) (lA B0) (lA Q0) (nA cu0) M0.1 M0.2.1 M0.2.2.1 M0.2.2.2.1 M0.2.2.2.2.1 M0.2.2.2.2.2.1 M0.2.2.2.2.2.2.1 M0.2.2.2.2.2.2.2 wt0 =
        some (0, k', 0, m1, m2, m3, m4, m5, rp, sd, mk, nA ts', nA tl', nA tg', nA cs', nA cl', nA fc', lA B, lA Q, nA cu, M.1, M.2.1, M.2.2.1, M.2.2.2.1, M.2.2.2.2.1, M.2.2.2.2.2.1, M.2.2.2.2.2.2.1, M.2.2.2.2.2.2.2, wt)) ∨
     (∃ (v w1 : Int32) (n nc e T : Nat) (D : Nat → Nat → Nat → Nat), TREE nr hd ln gs gh len tx ct mk ts' tl' tg' fc' cs' cl' n e T D ce hi wi M ∧
      f_X5_repair (nI len) (nI nr) (nA hd) (nA ln) (nA gs) (nA gh) gg kt rp sd cl0 cz0 cc0 ct0 (nA ts) (nA tl) (nA tg) (nA fc) (nA cs) (nA (fun x => cs x + cl x)) (lA P0) Ch0 (lA Bg0) (lA R0) tw0 tz0 tk0 ce0 hi0 wi0 (nA bn0) A0.1 A0.2.1 A0.2.2.1 A0.2.2.2.1 A0.2.2.2.2 =
        some (0, v, rp + 1, sd + v, nI len, nI n, nI nc, ct, nA ts', nA tl', nA tg', nA fc', nA cs', nA (fun x => cs' x + cl' x), lA P, Ch, lA Bg, lA R, w1, nI T, nI (n - e), ce, hi, wi, nA bn, A.1, A.2.1, A.2.2.1, A.2.2.2.1, A.2.2.2.2) ∧
      f_X6_repair (nI nr) (nI len) (nA hd) (nA ln) (nA gs) mt mth mtr mto mco mpa men mop rp sd mk0 (nA ts) (nA tl) (nA tg) (nA cs) (nA cl) (nA fc) (lA B0) (lA Q0) (nA cu0) M0.1 M0.2.1 M0.2.2.1 M0.2.2.2.1 M0.2.2.2.2.1 M0.2.2.2.2.2.1 M0.2.2.2.2.2.2.1 M0.2.2.2.2.2.2.2 wt0 =
        some (v, 0, 1, nI n, nI nc, nI T, nI e, 0, rp + 1, sd + v, mk, nA ts', nA tl', nA tg', nA cs', nA cl', nA fc', lA B, lA Q, nA cu, M.1, M.2.1, M.2.2.1, M.2.2.2.1, M.2.2.2.2.1, M.2.2.2.2.2.1, M.2.2.2.2.2.2.1, M.2.2.2.2.2.2.2, wt))) := by
  obtain ⟨c', g1, g2, g3, g4⟩ := e_mground G
  have b9 : c.testBit 0 = true ↔ Gr nr hd ln (rsy gs) 9 := gr_bit hgs hgc (k := 9) (by omega) (by omega)
  have b9' : c'.testBit 0 = true ↔ Gr nr hd ln (rsy gs) 9 := gr_bit g2 g3 (k := 9) (by omega) (by omega)
  have hhg : f_X2_hasGround 9 gg = some (if c.testBit 0 = true then 1 else 0) := e_hasGround hg (k := 9) (by omega) (by omega)
  by_cases hgr : Gr nr hd ln (rsy gs) 9
  · have unC : ∀ {X : Int32} {Y : Option Int32}, True := fun {_ _} => trivial
    rcases e_read (s0 := (0, 0, 0, ts, tl, tg, updN fc 0 0, cs, cl)) hl hkt hch (o1 := cl0) (o2 := cz0) (o3 := cc0) (ct0 := ct0) rfl with ⟨s, r1, r2, r3⟩ | ⟨s, r1, r2, r3⟩
    · rcases e_cutText (s0 := (0, 0, 0, ts, tl, tg, updN fc 0 0, cs, cl)) hl hmt hch (o1 := mto) (o2 := mco) (mk := mk0) rfl with ⟨s', mk', q1, q2, q3⟩ | ⟨s', mk', q1, q3⟩
      · have es := tGood_unique q1 r1
        subst es
        have hTK := tok_of hl TV_0 r2 r1
        obtain ⟨i1, i2, i3⟩ := r2
        generalize hts : s'.2.2.2.1 = ts' at *
        generalize htl : s'.2.2.2.2.1 = tl' at *
        generalize htg : s'.2.2.2.2.2.1 = tg' at *
        generalize hfc : updN s'.2.2.2.2.2.2.1 (s'.2.1 + 1) s'.2.2.1 = fc' at *
        generalize hcs : s'.2.2.2.2.2.2.2.1 = cs' at *
        generalize hcl : s'.2.2.2.2.2.2.2.2 = cl' at *
        have hce : cEnd s' = fun x => cs' x + cl' x := by unfold cEnd; rw [hcs, hcl]
        rw [hce] at r3
        generalize hnn : s'.2.1 = n at *
        generalize hnc : s'.2.2.1 = nc at *
        have hsg : ∀ t, t < n → tg' t ≤ 8 := fun t ht => (hTK.2.2.1 t ht).1
        obtain ⟨D, F⟩ := fix_exists (lf := lf32 tg') G i2
        obtain ⟨P, Bg, Ch, ⟨p1, p2, p3, p4⟩, p5⟩ := e_fill G F i2 hsg (P0 := P0) (Bg0 := Bg0) (Ch0 := Ch0) hP hBg
        obtain ⟨B, Q, ⟨m1, m2, m3⟩, m5⟩ := e_prices G (fix_psi G F i2) i2 hsg (B0 := B0) (R0 := Q0) hB hQ
        have hd0 := gr_fin G F i2 hgr (by omega) (by omega)
        have hI := dINF_v
        obtain ⟨e, t1, t2⟩ := e_treeEnd i2 p1 (by rw [p3 9 0 0 (by omega) (by omega) (by omega) (by omega)]; omega)
        obtain ⟨f1, f2⟩ := end_same (B := B) G F i2 (fun e he => p3 9 0 e (by omega) (by omega) (by omega) he) (fun e he => by
          have := m3 9 0 e (by omega) (by omega) (by omega) he
          rw [show csp 9 0 e = e by unfold csp; omega] at this
          exact this) hd0 t1
        have hen := t1.1
        obtain ⟨R, bn, ce, hi, wi, A, d1, d2⟩ := e_grow (gh := gh) G F i2 (Ch := Ch) ⟨p1, p3, p4⟩ hen f1 t2 (R0 := R0) (b0 := bn0) (ce := ce0) (hi := hi0) (wi := wi0) (A := A0) (ow := tw0) (os := 0) (ok := 0) hR
        obtain ⟨Q', cu, M, wt, w1, w2⟩ := e_mgrow G F i2 hsg (B := B) ⟨m1, m3⟩ hen f1 (p0 := mpa) (o0 := mop) (R0 := Q) (cu0 := cu0) (M := M0) (wt0 := wt0) m2
        have uC : f_X5_repair (nI len) (nI nr) (nA hd) (nA ln) (nA gs) (nA gh) gg kt rp sd cl0 cz0 cc0 ct0 (nA ts) (nA tl) (nA tg) (nA fc) (nA cs) (nA (fun x => cs x + cl x)) (lA P0) Ch0 (lA Bg0) (lA R0) tw0 tz0 tk0 ce0 hi0 wi0 (nA bn0) A0.1 A0.2.1 A0.2.2.1 A0.2.2.2.1 A0.2.2.2.2 = (f_X4_grow (nI n) (nA ln) (nA gs) (nA gh) (nI n) (lA P) Ch (lA R0) tw0 0 0 ce0 hi0 wi0 (nA bn0) A0.1 A0.2.1 A0.2.2.1 A0.2.2.2.1 A0.2.2.2.2).bind fun r5 =>
            if r5.1 = 0 then some (2, 0, rp, sd, nI len, nI n, nI nc, va_cpy kt ct0 0 0 len, nA ts', nA tl', nA tg', nA fc', nA cs', nA (fun x => cs' x + cl' x), lA P, Ch, lA Bg, r5.2.1, r5.2.2.1, r5.2.2.2.1, r5.2.2.2.2.1, r5.2.2.2.2.2.1, r5.2.2.2.2.2.2.1, r5.2.2.2.2.2.2.2.1, r5.2.2.2.2.2.2.2.2.1, r5.2.2.2.2.2.2.2.2.2.1, r5.2.2.2.2.2.2.2.2.2.2.1, r5.2.2.2.2.2.2.2.2.2.2.2.1, r5.2.2.2.2.2.2.2.2.2.2.2.2.1, r5.2.2.2.2.2.2.2.2.2.2.2.2.2)
            else (f_X4_cell 0 5 r5.2.2.2.2.2.1).bind fun r6 => some (0, r6 + r5.2.2.2.2.1, rp + 1, sd + (r6 + r5.2.2.2.2.1), nI len, nI n, nI nc, va_cpy kt ct0 0 0 len, nA ts', nA tl', nA tg', nA fc', nA cs', nA (fun x => cs' x + cl' x), lA P, Ch, lA Bg, r5.2.1, r5.2.2.1, r5.2.2.2.1, r5.2.2.2.2.1, r5.2.2.2.2.2.1, r5.2.2.2.2.2.2.1, r5.2.2.2.2.2.2.2.1, r5.2.2.2.2.2.2.2.2.1, r5.2.2.2.2.2.2.2.2.2.1, r5.2.2.2.2.2.2.2.2.2.2.1, r5.2.2.2.2.2.2.2.2.2.2.2.1, r5.2.2.2.2.2.2.2.2.2.2.2.2.1, r5.2.2.2.2.2.2.2.2.2.2.2.2.2) := by
          unfold f_X5_repair f_X4_drop
          simp only [nm]
          rw [hhg, if_pos (b9.mpr hgr), ob, if_neg (show ¬ (1 : Int32) = 0 by decide), ob, r3, ob]
          dsimp only
          rw [if_neg (show ¬ (1 : Int32) = 0 by decide), p5, ob]
        obtain ⟨e', f3, f4⟩ := e_mEnd i2 m1 (q1 := nI nr) (q2 := nI len) (q3 := nA hd) (q4 := nA ln) (q5 := nA gs) (q6 := mt) (K := fun m_thrown m_tree m_tokens m_comments m_parts m_end m_open m_repaired m_paid m_kept m_tokenAt m_tokenLength m_sign m_commentAt m_commentLength m_firstComment m_best m_row m_cut m_ruleOf m_symbolOf m_parent m_place m_from m_to m_cost m_deep m_waiting =>
            (f_X6_grow (nI nr) m_tokens m_end (nA hd) (nA ln) (nA gs) m_sign m_best m_parts m_open m_row m_cut m_ruleOf m_symbolOf m_parent m_place m_from m_to m_cost m_deep m_waiting).bind fun r12 =>
            if r12.1 = 0 then (
              (f_X6_fail 2 m_thrown).bind fun r13 =>
              some (r13.1, r13.2, m_tree, m_tokens, m_comments, r12.2.1, m_end, r12.2.2.1, m_repaired, m_paid, m_kept, m_tokenAt, m_tokenLength, m_sign, m_commentAt, m_commentLength, m_firstComment, m_best, r12.2.2.2.1, r12.2.2.2.2.1, r12.2.2.2.2.2.1, r12.2.2.2.2.2.2.1, r12.2.2.2.2.2.2.2.1, r12.2.2.2.2.2.2.2.2.1, r12.2.2.2.2.2.2.2.2.2.1, r12.2.2.2.2.2.2.2.2.2.2.1, r12.2.2.2.2.2.2.2.2.2.2.2.1, r12.2.2.2.2.2.2.2.2.2.2.2.2.1, r12.2.2.2.2.2.2.2.2.2.2.2.2.2)
            ) else (
              (rd r12.2.2.2.2.2.2.2.2.2.2.2.1 150 0).bind fun v14 =>
              some ((v14 + m_tokens) - m_end, m_thrown, 1, m_tokens, m_comments, r12.2.1, m_end, r12.2.2.1, ((m_repaired + 1)), ((m_paid + ((v14 + m_tokens) - m_end))), m_kept, m_tokenAt, m_tokenLength, m_sign, m_commentAt, m_commentLength, m_firstComment, m_best, r12.2.2.2.1, r12.2.2.2.2.1, r12.2.2.2.2.2.1, r12.2.2.2.2.2.2.1, r12.2.2.2.2.2.2.2.1, r12.2.2.2.2.2.2.2.2.1, r12.2.2.2.2.2.2.2.2.2.1, r12.2.2.2.2.2.2.2.2.2.2.1, r12.2.2.2.2.2.2.2.2.2.2.2.1, r12.2.2.2.2.2.2.2.2.2.2.2.2.1, r12.2.2.2.2.2.2.2.2.2.2.2.2.2)
            )) (th := 0) (tr := 0) (cm := nI nc) (pa := mpa) (op := mop) (rp := rp) (pd := sd) (kp := mk') (tA := nA ts') (tL := nA tl') (sg := nA tg') (cA := nA cs') (cL := nA cl') (fC := nA fc') (ro := lA Q) (cu := nA cu0) (rO := M0.1) (sO := M0.2.1) (pO := M0.2.2.1) (pl := M0.2.2.2.1) (fr := M0.2.2.2.2.1) (to := M0.2.2.2.2.2.1) (co := M0.2.2.2.2.2.2.1) (de := M0.2.2.2.2.2.2.2) (wa := wt0)
        have ee : e' = e := isEnd_unique f3 f2
        rw [ee] at f4
        have uM : f_X6_repair (nI nr) (nI len) (nA hd) (nA ln) (nA gs) mt mth mtr mto mco mpa men mop rp sd mk0 (nA ts) (nA tl) (nA tg) (nA cs) (nA cl) (nA fc) (lA B0) (lA Q0) (nA cu0) M0.1 M0.2.1 M0.2.2.1 M0.2.2.2.1 M0.2.2.2.2.1 M0.2.2.2.2.2.1 M0.2.2.2.2.2.2.1 M0.2.2.2.2.2.2.2 wt0 = (f_X6_grow (nI nr) (nI n) (nI e) (nA hd) (nA ln) (nA gs) (nA tg') (lA B) mpa mop (lA Q) (nA cu0) M0.1 M0.2.1 M0.2.2.1 M0.2.2.2.1 M0.2.2.2.2.1 M0.2.2.2.2.2.1 M0.2.2.2.2.2.2.1 M0.2.2.2.2.2.2.2 wt0).bind fun r12 =>
            if r12.1 = 0 then (
              some (0, 2, 0, nI n, nI nc, r12.2.1, nI e, r12.2.2.1, rp, sd, mk', nA ts', nA tl', nA tg', nA cs', nA cl', nA fc', lA B, r12.2.2.2.1, r12.2.2.2.2.1, r12.2.2.2.2.2.1, r12.2.2.2.2.2.2.1, r12.2.2.2.2.2.2.2.1, r12.2.2.2.2.2.2.2.2.1, r12.2.2.2.2.2.2.2.2.2.1, r12.2.2.2.2.2.2.2.2.2.2.1, r12.2.2.2.2.2.2.2.2.2.2.2.1, r12.2.2.2.2.2.2.2.2.2.2.2.2.1, r12.2.2.2.2.2.2.2.2.2.2.2.2.2)
            ) else (
              (rd r12.2.2.2.2.2.2.2.2.2.2.2.1 150 0).bind fun v14 =>
              some ((v14 + nI n) - nI e, 0, 1, nI n, nI nc, r12.2.1, nI e, r12.2.2.1, ((rp + 1)), ((sd + ((v14 + nI n) - nI e))), mk', nA ts', nA tl', nA tg', nA cs', nA cl', nA fc', lA B, r12.2.2.2.1, r12.2.2.2.2.1, r12.2.2.2.2.2.1, r12.2.2.2.2.2.2.1, r12.2.2.2.2.2.2.2.1, r12.2.2.2.2.2.2.2.2.1, r12.2.2.2.2.2.2.2.2.2.1, r12.2.2.2.2.2.2.2.2.2.2.1, r12.2.2.2.2.2.2.2.2.2.2.2.1, r12.2.2.2.2.2.2.2.2.2.2.2.2.1, r12.2.2.2.2.2.2.2.2.2.2.2.2.2)
            ) := by
          unfold f_X6_repair
          simp only [nm]
          rw [g4, ob, ground9 g1, if_pos (b9'.mpr hgr), if_neg (show ¬ (1 : Int32) = 0 by decide), q3, ob]
          dsimp only
          rw [if_neg (show ¬ (1 : Int32) = 0 by decide), m5, ob]
          exact f4
        have hdok : ∀ T, okTree nr hd ln (rsy gs) D e T → T ≤ 150 → True := fun _ _ _ => trivial
        rcases d2 with ⟨T, x1, x2, x3, x4⟩ | ⟨T, W, x1, x2, x4⟩
        · have sk := fun T' => same_ok (T' := T') x2 x1
          rcases w2 with ⟨T', y1, y2, y3, y4⟩ | ⟨T', W', y1, y2, y3, y4⟩
          · have eT := (sk T').1 ⟨y1, y2⟩
            rw [eT] at y3 y4
            have hpos := okTree_pos x2
            obtain ⟨c0, c1', c2', c3', c4', c5', c6'⟩ := x3 0 hpos
            obtain ⟨z0, z1, z2, z3, z4, z5, z6, z7⟩ := y3 0 hpos
            refine ⟨ts', tl', tg', fc', cs', cl', P, Bg, R, B, Q', bn, cu, va_cpy kt ct0 0 0 len, mk', Ch, ce, hi, wi, wt, A, M, p1, p2, d1, m1, w1, Or.inr ⟨nI (pCost D ((arun nr hd ln (rsy gs) D e T).2.2 0) + (n - e)), nI 0, n, nc, e, T, D, ?_, ?_, ?_⟩⟩
            · refine ⟨hTK, fun i hi' => by rw [sb_cpy0 hi']; exact hkt i hi', q2, hch, hen, F, f1, x1, x2, x3, y3, hgr⟩
            · rw [uC, x4, ob]
              dsimp only
              rw [if_neg (show ¬ nI 1 = (0 : Int32) by decide)]
              unfold f_X4_cell
              rw [show (0 : Int32) * 7 + 5 = nI 5 from by decide, rd_nI (by omega) (by omega), ob, ob, show ce 5 = nI (pCost D ((arun nr hd ln (rsy gs) D e T).2.2 0)) from c5', nI_add]
            · rw [uM, y4, ob]
              dsimp only
              rw [if_neg (show ¬ nI 1 = (0 : Int32) by decide), show rd M.2.2.2.2.2.2.1 150 0 = some (M.2.2.2.2.2.2.1 0) from rd_nI (j := 0) (by omega) (by omega), ob, z6, nI_add, nI_sub (by omega), show pCost D ((arun nr hd ln (rsy gs) D e T).2.2 0) + n - e = pCost D ((arun nr hd ln (rsy gs) D e T).2.2 0) + (n - e) by omega]
              rfl
          · exact absurd ⟨y1, y2, y3⟩ (sk T').2
        · rcases w2 with ⟨T', y1, y2, y3, y4⟩ | ⟨T', W', y1, y2, y3, y4⟩
          · exact absurd ⟨y1, y2⟩ (same_bad x2)
          · refine ⟨ts', tl', tg', fc', cs', cl', P, Bg, R, B, Q', bn, cu, va_cpy kt ct0 0 0 len, mk', Ch, ce, hi, wi, wt, A, M, p1, p2, d1, m1, w1, Or.inl ⟨2, 2, nI len, nI n, nI nc, nI W, nI 0, nI n, nI nc, nI T', nI e, nI W', Or.inr ⟨rfl, rfl⟩, ?_, ?_⟩⟩
            · rw [uC, x4, ob]
              dsimp only
              rw [if_pos (show nI 0 = (0 : Int32) from rfl)]
              rfl
            · rw [uM, y4, ob]
              dsimp only
              rw [if_pos (show nI 0 = (0 : Int32) from rfl)]
      · exact (tGood_bad r1 q1).elim
    · rcases e_cutText (s0 := (0, 0, 0, ts, tl, tg, updN fc 0 0, cs, cl)) hl hmt hch (o1 := mto) (o2 := mco) (mk := mk0) rfl with ⟨s', mk', q1, q2, q3⟩ | ⟨s', mk', q1, q3⟩
      · exact (tGood_bad q1 r1).elim
      · have es := tBad_unique q1 r1
        subst es
        refine ⟨s'.2.2.2.1, s'.2.2.2.2.1, s'.2.2.2.2.2.1, s'.2.2.2.2.2.2.1, s'.2.2.2.2.2.2.2.1, s'.2.2.2.2.2.2.2.2, P0, Bg0, R0, B0, Q0, bn0, cu0, va_cpy kt ct0 0 0 len, mk', Ch0, ce0, hi0, wi0, wt0, A0, M0, hP, hBg, hR, hB, hQ, Or.inl ⟨2, 2, nI len, nI s'.2.1, nI s'.2.2.1, tw0, 0, nI s'.2.1, nI s'.2.2.1, mpa, men, mop, Or.inr ⟨rfl, rfl⟩, ?_, ?_⟩⟩
        · unfold f_X5_repair f_X4_drop
          simp only [nm]
          rw [hhg, if_pos (b9.mpr hgr), ob, if_neg (show ¬ (1 : Int32) = 0 by decide), ob, r3, ob]
          dsimp only
          rw [if_pos rfl]
          rfl
        · unfold f_X6_repair f_X6_fail
          simp only [nm]
          rw [g4, ob, ground9 g1, if_pos (b9'.mpr hgr), if_neg (show ¬ (1 : Int32) = 0 by decide), q3, ob]
          dsimp only
          rw [if_pos rfl]
          rfl
  · have htz : tz0 = 0 := by
      rcases hT with h | h
      · exact h
      · exact absurd h hgr
    refine ⟨ts, tl, tg, fc, cs, cl, P0, Bg0, R0, B0, Q0, bn0, cu0, ct0, mk0, Ch0, ce0, hi0, wi0, wt0, A0, M0, hP, hBg, hR, hB, hQ, Or.inl ⟨3, 1, cl0, cz0, cc0, tw0, tk0, mto, mco, mpa, men, mop, Or.inl ⟨rfl, rfl⟩, ?_, ?_⟩⟩
    · unfold f_X5_repair
      rw [hhg, if_neg (fun x => hgr (b9.mp x)), ob, if_pos rfl, htz]
    · unfold f_X6_repair f_X6_fail
      rw [g4, ob, ground9 g1, if_neg (fun x => hgr (b9'.mp x)), if_pos rfl]
      rfl
end REPAIR
