/-! placeNext -/
def ch7 (ce : Nat → Int32) (b : Nat) (v0 v1 v2 v3 v4 v5 v6 : Int32) : Nat → Int32 := upd (upd (upd (upd (upd (upd (upd ce (b + 1) v1) (b + 2) v2) (b + 3) v3) (b + 4) v4) (b + 5) v5) b v0) (b + 6) v6
theorem ch7_is {ce : Nat → Int32} {b : Nat} {v0 v1 v2 v3 v4 v5 v6 : Int32} : (∀ x, x < b → ch7 ce b v0 v1 v2 v3 v4 v5 v6 x = ce x) ∧ ch7 ce b v0 v1 v2 v3 v4 v5 v6 b = v0 ∧ ch7 ce b v0 v1 v2 v3 v4 v5 v6 (b + 1) = v1 ∧ ch7 ce b v0 v1 v2 v3 v4 v5 v6 (b + 2) = v2 ∧ ch7 ce b v0 v1 v2 v3 v4 v5 v6 (b + 3) = v3 ∧ ch7 ce b v0 v1 v2 v3 v4 v5 v6 (b + 4) = v4 ∧ ch7 ce b v0 v1 v2 v3 v4 v5 v6 (b + 5) = v5 ∧ ch7 ce b v0 v1 v2 v3 v4 v5 v6 (b + 6) = v6 := by
  unfold ch7
  refine ⟨fun x hx => ?_, ?_, ?_, ?_, ?_, ?_, ?_, ?_⟩
  · rw [pk_un (by omega), pk_un (by omega), pk_un (by omega), pk_un (by omega), pk_un (by omega), pk_un (by omega), pk_un (by omega)]
  · rw [pk_un (by omega), pk_us]
  · rw [pk_un (by omega), pk_un (by omega), pk_un (by omega), pk_un (by omega), pk_un (by omega), pk_un (by omega), pk_us]
  · rw [pk_un (by omega), pk_un (by omega), pk_un (by omega), pk_un (by omega), pk_un (by omega), pk_us]
  · rw [pk_un (by omega), pk_un (by omega), pk_un (by omega), pk_un (by omega), pk_us]
  · rw [pk_un (by omega), pk_un (by omega), pk_un (by omega), pk_us]
  · rw [pk_un (by omega), pk_un (by omega), pk_us]
  · rw [pk_us]
theorem nI_sub1 {a : Nat} (h : 1 ≤ a) : nI a - 1 = nI (a - 1) := by rw [i1, nI_sub h]
theorem e_isKind0 {s : Nat} (h : s ≤ 8) : f_X5_isKind (nI s) = some 0 := by rw [e_isKind (by omega), if_neg (by omega)]
theorem e_isKind1 {s : Nat} (h : 9 ≤ s) (h2 : s ≤ 14) : f_X5_isKind (nI s) = some 1 := by rw [e_isKind (by omega), if_pos ⟨h, h2⟩]
section CNEXT
variable {nr : Nat} {hd gs gh ln sg PP : Nat → Nat} {n : Nat} {D : Nat → Nat → Nat → Nat}
theorem CP.add {t : Nat} {P P' : Nat → PE} {ce hi wi : Nat → Int32} {q : PE} (h : CP gh ln D t P ce hi wi) (hq : P' t = q) (hP : ∀ k, k < t → P' k = P k) (hpa : ∀ k, k < t → pPa (P k) = 999 ∨ pPa (P k) < k) (hpq : pPa q = 999 ∨ pPa q < t) {v2 : Int32} {d h9 : Nat} (hd9 : d = pDp q) (hh : h9 = hntP gh P' t) :
    CP gh ln D (t + 1) P' (ch7 ce (t * 7) (if pSy q ≤ 8 then -1 else nI (pRu q)) (nI (pSy q)) (pcon (pPa q)) (nI (pFr q)) (nI (pTo q - pFr q)) (nI (pCost D q)) (nI (if pSy q ≤ 8 then pLst D q else ln (pRu q)))) (upd hi t (nI h9)) (upd wi t (nI d)) := by
  intro k hk
  have hc := ch7_is (ce := ce) (b := t * 7) (v0 := if pSy q ≤ 8 then -1 else nI (pRu q)) (v1 := nI (pSy q)) (v2 := pcon (pPa q)) (v3 := nI (pFr q)) (v4 := nI (pTo q - pFr q)) (v5 := nI (pCost D q)) (v6 := nI (if pSy q ≤ 8 then pLst D q else ln (pRu q)))
  by_cases c : k = t
  · subst c
    rw [hq]
    refine ⟨hc.2.1, hc.2.2.1, hc.2.2.2.1, hc.2.2.2.2.1, hc.2.2.2.2.2.1, hc.2.2.2.2.2.2.1, hc.2.2.2.2.2.2.2, ?_, ?_⟩
    · rw [pk_us, hh]
    · rw [pk_us, hd9]
  · obtain ⟨a0, a1, a2, a3, a4, a5, a6, a7, a8⟩ := h k (by omega)
    rw [hP k (by omega)]
    have hh2 : hntP gh P' k = hntP gh P k := by
      unfold hntP
      rw [hP k (by omega)]
      rcases hpa k (by omega) with c1 | c1
      · rw [if_pos c1, if_pos c1]
      · rw [hP _ (by omega)]
    refine ⟨?_, ?_, ?_, ?_, ?_, ?_, ?_, ?_, ?_⟩
    · rw [hc.1 _ (by omega)]; exact a0
    · rw [hc.1 _ (by omega)]; exact a1
    · rw [hc.1 _ (by omega)]; exact a2
    · rw [hc.1 _ (by omega)]; exact a3
    · rw [hc.1 _ (by omega)]; exact a4
    · rw [hc.1 _ (by omega)]; exact a5
    · rw [hc.1 _ (by omega)]; exact a6
    · rw [pk_un c, hh2]; exact a7
    · rw [pk_un c]; exact a8
def okStep (nr : Nat) (hd ln : Nat → Nat) (sy : Nat → Nat → Nat) (D : Nat → Nat → Nat → Nat) (t : Nat) (a : AST) : Prop := (sSy (a.2.1 (a.1 - 1)) ≤ 8 ∨ aDp a.2.2 (a.2.1 (a.1 - 1)) ≤ 36) ∧ t + 1 + (astep nr hd ln sy D t a).1 ≤ 150
theorem e_leafState {ce : Nat → Int32} {t tk c : Nat} (ht : t < 150) (h4 : ce (t * 7 + 4) = nI tk) (h5 : ce (t * 7 + 5) = nI c) (htk : tk ≤ 100) (hc : c ≤ 100) : f_X4_leafState (nI t) ce = some (nI (if tk = 0 then 2 else if c = tk then 1 else 0)) := by
  unfold f_X4_leafState f_X4_cell jn_X4_leafState_28
  simp only [nm]
  rw [show (7 : Int32) = nI 7 from rfl, show (4 : Int32) = nI 4 from rfl, show (5 : Int32) = nI 5 from rfl, nI_mul, nI_add, rd_nI (by omega) (by omega), ob, h4, ob, nI_add, rd_nI (by omega) (by omega), ob, h5, ob]
  by_cases c1 : tk = 0
  · rw [if_pos (show nI tk = (0 : Int32) by rw [c1]; rfl), if_pos c1]
    rfl
  · rw [if_neg (show ¬ nI tk = (0 : Int32) from fun x => c1 ((nI_eq (b := 0) (by omega) (by omega)).mp x)), if_neg c1]
    by_cases c2 : c = tk
    · rw [if_pos (by rw [c2]), if_pos c2]
      rfl
    · rw [if_neg (fun x => c2 ((nI_eq (by omega) (by omega)).mp x)), if_neg c2]
      rfl
theorem e_placeNext (G : GW nr hd ln (rsy gs)) (F : Fix nr hd ln (rsy gs) n (lf32 sg) D) (hn : n ≤ 16) {Ch : Nat → Int32} (hC : ChartOK nr hd ln (rsy gs) n D PP Ch) {t : Nat} {a : AST} {R0 b0 : Nat → Nat} {ce hi wi : Nat → Int32} {A : A5} (hR : ∀ x, R0 x ≤ dINF) (ht : t < 150) (hA : AI nr ln n D t a) (hW : 0 < a.1) (hfit : t + a.1 ≤ 150) (hS : CS gh a A.1 A.2.1 A.2.2.1 A.2.2.2.1 A.2.2.2.2) (hP : CP gh ln D t a.2.2 ce hi wi) :
    ∃ (v : Nat) (R bn : Nat → Nat) (ce' hi' wi' : Nat → Int32) (W z : Nat) (B : A5), (∀ x, R x ≤ dINF) ∧ v ≤ 1 ∧
      f_X4_placeNext (nA ln) (nA gs) (nA gh) (lA PP) Ch (lA R0) (nI a.1) (nI t) ce hi wi (nA b0) A.1 A.2.1 A.2.2.1 A.2.2.2.1 A.2.2.2.2 = some (nI v, lA R, nI W, nI z, ce', hi', wi', nA bn, B.1, B.2.1, B.2.2.1, B.2.2.2.1, B.2.2.2.2) ∧
      (v = 1 ↔ okStep nr hd ln (rsy gs) D t a) ∧ (v = 1 → W = (astep nr hd ln (rsy gs) D t a).1 ∧ z = t + 1 ∧ CS gh (astep nr hd ln (rsy gs) D t a) B.1 B.2.1 B.2.2.1 B.2.2.2.1 B.2.2.2.2 ∧ CP gh ln D (t + 1) (astep nr hd ln (rsy gs) D t a).2.2 ce' hi' wi') := by
  have hnr := G.1
  have hI := dINF_v
  obtain ⟨hAs, node⟩ := AI.step G F hn ht hA hW
  obtain ⟨hA1, hA2, hA3⟩ := hA
  obtain ⟨W, S, P⟩ := a
  dsimp only at hA1 hA2 hA3 hW hfit hS hP hAs node ⊢
  obtain ⟨q1, q14, qft, qtn, qD, qp⟩ := hA2 (W - 1) (by omega)
  obtain ⟨w1, w2, w3, w4, w5⟩ := hS (W - 1) (by show W - 1 < W; omega)
  dsimp only at w1 w2 w3 w4 w5
  generalize hq : S (W - 1) = q at q1 q14 qft qtn qD qp w1 w2 w3 w4 w5 node
  obtain ⟨s, i, e, p, l⟩ := q
  dsimp only [sSy, sFr, sTo, sPa, sPl] at q1 q14 qft qtn qD qp w1 w2 w3 w4 node
  have hst : astep nr hd ln (rsy gs) D t (W, S, P) = (W - 1 + aLn nr hd ln (rsy gs) D (s, i, e, p, l), fun x => if x < W - 1 then S x else (rsy gs (rfn nr hd ln (rsy gs) D s i e) (aLn nr hd ln (rsy gs) D (s, i, e, p, l) - 1 - (x - (W - 1))), cfn ln (rsy gs) D (rfn nr hd ln (rsy gs) D s i e) i e (aLn nr hd ln (rsy gs) D (s, i, e, p, l) - 1 - (x - (W - 1))), cfn ln (rsy gs) D (rfn nr hd ln (rsy gs) D s i e) i e (aLn nr hd ln (rsy gs) D (s, i, e, p, l) - 1 - (x - (W - 1)) + 1), t, aLn nr hd ln (rsy gs) D (s, i, e, p, l) - 1 - (x - (W - 1))), fun k => if k = t then (s, i, e, p, l, rfn nr hd ln (rsy gs) D s i e, aDp P (s, i, e, p, l)) else P k) := by
    unfold astep
    dsimp only
    rw [hq]
    rfl
  have hok : okStep nr hd ln (rsy gs) D t (W, S, P) ↔ (s ≤ 8 ∨ aDp P (s, i, e, p, l) ≤ 36) ∧ t + 1 + (W - 1 + aLn nr hd ln (rsy gs) D (s, i, e, p, l)) ≤ 150 := by
    unfold okStep
    rw [hst]
    dsimp only
    rw [hq]
    exact Iff.rfl
  rw [hok, hst]
  dsimp only
  have hP' : ∀ k, k < t → (if k = t then (s, i, e, p, l, rfn nr hd ln (rsy gs) D s i e, aDp P (s, i, e, p, l)) else P k) = P k := fun k hk => if_neg (by omega)
  have hPt : (if t = t then (s, i, e, p, l, rfn nr hd ln (rsy gs) D s i e, aDp P (s, i, e, p, l)) else P t) = (s, i, e, p, l, rfn nr hd ln (rsy gs) D s i e, aDp P (s, i, e, p, l)) := if_pos rfl
  generalize hPP : (fun k => if k = t then (s, i, e, p, l, rfn nr hd ln (rsy gs) D s i e, aDp P (s, i, e, p, l)) else P k) = P' 
  have hP1 : ∀ k, k < t → P' k = P k := fun k hk => by rw [← hPP]; exact hP' k hk
  have hPt1 : P' t = (s, i, e, p, l, rfn nr hd ln (rsy gs) D s i e, aDp P (s, i, e, p, l)) := by rw [← hPP]; exact hPt
  generalize hd9 : aDp P (s, i, e, p, l) = d at hPt1 ⊢
  have hd1 : d ≤ 151 := by
    rw [← hd9]
    show (if p = 999 then 0 else pDp (P p) + 1) ≤ 151
    split
    · omega
    · have := (hA3 p (by omega)).2.2.2.2.2.1
      omega
  have hpa : ∀ k, k < t → pPa (P k) = 999 ∨ pPa (P k) < k := fun k hk => by
    rcases (hA3 k hk).2.2.2.2.2.2 with c | c
    · exact Or.inl c
    · exact Or.inr c.1
  have hpq : p = 999 ∨ p < t := by
    rcases qp with c | c
    · exact Or.inl c
    · exact Or.inr c.1
  have hhE : hntE gh P (s, i, e, p, l) = hntP gh P' t := by
    unfold hntE hntP
    rw [hPt1]
    show (if p = 999 then 0 else gh (pRu (P p) * 5 + l)) = (if p = 999 then 0 else gh (pRu (P' p) * 5 + l))
    rcases hpq with c | c
    · rw [if_pos c, if_pos c]
    · rw [hP1 p c]
  have hhS : ∀ w, w < W → hntE gh P' (S w) = hntE gh P (S w) := fun w hw => by
    unfold hntE
    rcases (hA2 w hw).2.2.2.2.2 with c | c
    · rw [if_pos c, if_pos c]
    · rw [hP1 _ c.1]
  have hcost : PP (sp s i e) = D s i e := hC.2.1 s i e q1 q14 qft qtn
  have unf : f_X4_placeNext (nA ln) (nA gs) (nA gh) (lA PP) Ch (lA R0) (nI W) (nI t) ce hi wi (nA b0) A.1 A.2.1 A.2.2.1 A.2.2.2.1 A.2.2.2.2 = jn_X4_placeNext_195 (nA ln) (nA gs) (nA gh) (lA PP) Ch (nI t) (nI s) (nI i) (nI e) (nI (t * 7)) (nI t) (nI d) (lA R0) (nI (W - 1)) (nI (t + 1)) (upd (upd (upd (upd (upd ce (t * 7 + 1) (nI s)) (t * 7 + 2) (pcon p)) (t * 7 + 3) (nI i)) (t * 7 + 4) (nI (e - i))) (t * 7 + 5) (nI (D s i e / 4294967296))) (upd hi t (nI (hntE gh P (s, i, e, p, l)))) wi (nA b0) A.1 A.2.1 A.2.2.1 A.2.2.2.1 A.2.2.2.2 := by
    unfold f_X4_placeNext
    simp only [nm]
    rw [if_neg (show ¬ nI W ≤ (0 : Int32) from nI_nle hW (by omega)), if_pos (show nI t < (150 : Int32) from (nI_ltI (b := 150) (by omega) (by omega)).mpr ht), nI_sub1 (show 1 ≤ W by omega), rd_nI (by omega) (by omega), ob, w1, rd_nI (by omega) (by omega), ob, w2, rd_nI (by omega) (by omega), ob, w3, rd_nI (by omega) (by omega), ob, w4, show (7 : Int32) = nI 7 from rfl, nI_mul, nI_1 (t * 7), wrI_nI (by omega) (by omega), ob, show (2 : Int32) = nI 2 from rfl, nI_add, wrI_nI (by omega) (by omega), ob, show (3 : Int32) = nI 3 from rfl, nI_add, wrI_nI (by omega) (by omega), ob, show (4 : Int32) = nI 4 from rfl, nI_add, nI_sub qft, wrI_nI (by omega) (by omega), ob, e_costOf q1 q14 (by omega) (by omega) hC.1, ob, hcost, show (5 : Int32) = nI 5 from rfl, nI_add, wrI_nI (by omega) (by omega), ob, rd_nI (by omega) (by omega), ob, w5, wrI_nI ht (by omega), ob]
    rcases hpq with c | c
    · have hpc : pcon p = -1 := if_pos c
      have hd0 : d = 0 := by rw [← hd9]; exact if_pos c
      rw [hpc, if_pos rfl, hd0, nI_1 t]
      rfl
    · have hpc : pcon p = nI p := pcon_ne (by omega)
      have hdv : d = pDp (P p) + 1 := by rw [← hd9]; exact if_neg (show ¬ p = 999 by omega)
      rw [hpc, if_neg (nI_nm1 (by omega)), rd_nI (by omega) (by omega), ob, (hP p c).2.2.2.2.2.2.2.2, nI_1 (pDp (P p)), hdv, nI_1 t]
  by_cases h8 : s ≤ 8
  · have hal : aLn nr hd ln (rsy gs) D (s, i, e, p, l) = 0 := if_pos h8
    rw [hal]
    have hDl : D s i e / 4294967296 = lfc sg s i e := by
      rw [F.1 s i e q1 h8 qft qtn]
      unfold lf32
      omega
    have hlc := lfc_le (sg := sg) (s := s) (i := i) qtn hn
    refine ⟨1, R0, b0, ch7 ce (t * 7) (-1) (nI s) (pcon p) (nI i) (nI (e - i)) (nI (D s i e / 4294967296)) (nI (if e - i = 0 then 2 else if D s i e / 4294967296 = e - i then 1 else 0)), upd hi t (nI (hntE gh P (s, i, e, p, l))), upd wi t (nI d), W - 1, t + 1, A, hR, Nat.le_refl _, ?_, ⟨fun _ => ⟨Or.inl h8, by omega⟩, fun _ => rfl⟩, fun _ => ⟨rfl, rfl, fun w hw => ?_, ?_⟩⟩
    · rw [unf]
      unfold jn_X4_placeNext_195
      rw [wrI_nI ht (by omega), ob, e_isKind0 h8, ob, if_pos rfl, show (0 : Int32) = nI 0 from rfl, nI_add, Nat.add_zero (t * 7), wrI_nI (by omega) (by omega), ob]
      have hc := ch7_is (ce := ce) (b := t * 7) (v0 := -1) (v1 := nI s) (v2 := pcon p) (v3 := nI i) (v4 := nI (e - i)) (v5 := nI (D s i e / 4294967296)) (v6 := 0)
      have h4 : upd (upd (upd (upd (upd (upd ce (t * 7 + 1) (nI s)) (t * 7 + 2) (pcon p)) (t * 7 + 3) (nI i)) (t * 7 + 4) (nI (e - i))) (t * 7 + 5) (nI (D s i e / 4294967296))) (t * 7) (-1) (t * 7 + 4) = nI (e - i) := by
        rw [pk_un (by omega), pk_un (by omega), pk_us]
      have h5 : upd (upd (upd (upd (upd (upd ce (t * 7 + 1) (nI s)) (t * 7 + 2) (pcon p)) (t * 7 + 3) (nI i)) (t * 7 + 4) (nI (e - i))) (t * 7 + 5) (nI (D s i e / 4294967296))) (t * 7) (-1) (t * 7 + 5) = nI (D s i e / 4294967296) := by
        rw [pk_un (by omega), pk_us]
      rw [e_leafState ht h4 h5 (by omega) (by omega), ob, show (6 : Int32) = nI 6 from rfl, nI_add, wrI_nI (by omega) (by omega), ob]
      rfl
    · dsimp only at hw ⊢
      have hw' : w < W - 1 := by omega
      rw [if_pos hw', hhS w (by omega)]
      exact hS w (by show w < W; omega)
    · have := CP.add (P' := P') (v2 := 0) (d := d) hP hPt1 hP1 hpa hpq rfl hhE
      rw [show pSy (s, i, e, p, l, rfn nr hd ln (rsy gs) D s i e, d) = s from rfl, if_pos h8, if_pos h8] at this
      have hl : pLst D (s, i, e, p, l, rfn nr hd ln (rsy gs) D s i e, d) = if e - i = 0 then 2 else if D s i e / 4294967296 = e - i then 1 else 0 := by
        show (if i = e then 2 else if D s i e / 4294967296 = e - i then 1 else 0) = _
        by_cases c : i = e
        · rw [if_pos c, if_pos (show e - i = 0 by omega)]
        · rw [if_neg c, if_neg (show ¬ e - i = 0 by omega)]
      rw [hl] at this
      exact this
  · have h9 : 9 ≤ s := by omega
    obtain ⟨n1, n2, n3⟩ := node h9
    have hal : aLn nr hd ln (rsy gs) D (s, i, e, p, l) = ln (rfn nr hd ln (rsy gs) D s i e) := if_neg h8
    rw [hal]
    obtain ⟨R, bn, ce', W', B, c1, c2, c3, c4⟩ := e_placeNode (gh := gh) (t := t) (z := t + 1) (w0 := W - 1) (d := d) (b0 := b0) (ce := upd (upd (upd (upd (upd ce (t * 7 + 1) (nI s)) (t * 7 + 2) (pcon p)) (t * 7 + 3) (nI i)) (t * 7 + 4) (nI (e - i))) (t * 7 + 5) (nI (D s i e / 4294967296))) (wi := upd wi t (nI d)) (A := A) G F hn hC hR h9 q14 qft qtn qD ht (by omega) pk_us (by omega)
    generalize hr : rfn nr hd ln (rsy gs) D s i e = r at n1 n2 n3 c3 c4 hPt1 ⊢
    have hl5 := (G.2 r n1.1).2.2.1
    have run : f_X4_placeNext (nA ln) (nA gs) (nA gh) (lA PP) Ch (lA R0) (nI W) (nI t) ce hi wi (nA b0) A.1 A.2.1 A.2.2.1 A.2.2.2.1 A.2.2.2.2 = some ((if d ≤ 36 ∧ t + 1 + (W - 1) + ln r ≤ 150 then 1 else 0), lA R, nI W', nI (t + 1), ce', upd hi t (nI (hntE gh P (s, i, e, p, l))), upd wi t (nI d), nA bn, B.1, B.2.1, B.2.2.1, B.2.2.2.1, B.2.2.2.2) := by
      rw [unf]
      unfold jn_X4_placeNext_195
      rw [wrI_nI ht (by omega), ob, e_isKind1 h9 q14, ob, if_neg (by decide), c3, ob]
      dsimp only
      split
      · rfl
      · rfl
    by_cases hfit2 : d ≤ 36 ∧ t + 1 + (W - 1) + ln r ≤ 150
    · rw [if_pos hfit2] at run
      obtain ⟨d1, d2, d3⟩ := c4 hfit2
      refine ⟨1, R, bn, ce', upd hi t (nI (hntE gh P (s, i, e, p, l))), upd wi t (nI d), W', t + 1, B, c1, Nat.le_refl _, run, ⟨fun _ => ⟨Or.inr hfit2.1, by omega⟩, fun _ => rfl⟩, fun _ => ⟨d1, rfl, fun w hw => ?_, ?_⟩⟩
      · dsimp only at hw ⊢
        by_cases hw' : w < W - 1
        · rw [if_pos hw', hhS w (by omega)]
          obtain ⟨x1, x2, x3, x4, x5⟩ := d3.1 w hw'
          obtain ⟨y1, y2, y3, y4, y5⟩ := hS w (by show w < W; omega)
          exact ⟨x1.trans y1, x2.trans y2, x3.trans y3, x4.trans y4, x5.trans y5⟩
        · rw [if_neg hw']
          obtain ⟨x1, x2, x3, x4, x5⟩ := d3.2 (ln r - 1 - (w - (W - 1))) (Nat.zero_le _) (by omega)
          have e1 : W - 1 + (ln r - 1 - (ln r - 1 - (w - (W - 1)))) = w := by omega
          rw [e1] at x1 x2 x3 x4 x5
          refine ⟨x1, ?_, x3, x4, ?_⟩
          · show _ = pcon t
            rw [pcon_ne ht]
            exact x2
          · show _ = nI (if t = 999 then 0 else gh (pRu (P' t) * 5 + (ln r - 1 - (w - (W - 1)))))
            rw [if_neg (by omega), hPt1]
            exact x5
      · have := CP.add (P' := P') (v2 := 0) (d := d) hP hPt1 hP1 hpa hpq rfl hhE
        rw [show pSy (s, i, e, p, l, r, d) = s from rfl, if_neg h8, if_neg h8] at this
        rw [d2]
        exact this
    · rw [if_neg hfit2] at run
      refine ⟨0, R, bn, ce', upd hi t (nI (hntE gh P (s, i, e, p, l))), upd wi t (nI d), W', t + 1, B, c1, Nat.zero_le _, run, ⟨fun h => absurd h (by decide), fun h => absurd ⟨h.1.resolve_left h8, by omega⟩ hfit2⟩, fun h => absurd h (by decide)⟩
end CNEXT
