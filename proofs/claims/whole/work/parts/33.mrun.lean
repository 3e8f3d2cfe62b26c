/-! a step of the reference's grow, and its run -/
section MRUN
variable {nr : Nat} {hd gs ln sg B : Nat → Nat} {n : Nat} {D : Nat → Nat → Nat → Nat}
def dok (a : AST) : Prop := sSy (a.2.1 (a.1 - 1)) ≤ 8 ∨ aDp a.2.2 (a.2.1 (a.1 - 1)) ≤ 36
theorem m_step (G : GW nr hd ln (rsy gs)) (F : Fix nr hd ln (rsy gs) n (lf32 sg) D) (hn : n ≤ 16) (hsg : ∀ t, t < n → sg t ≤ 8) (hM : MChart n D B) {me : Int32} (k : KMG) {N t : Nat} {a : AST} {R cu : Nat → Nat} {M : A8} {wt : Nat → Int32} (hR : ∀ x, R x ≤ dINF) (ht : t < 150) (hA : AI nr ln n D t a) (hW : 0 < a.1) (hS : MS a wt) (hP : MP D t a.2.2 M) :
    ∃ (R' cu' : Nat → Nat) (M' : A8) (wt' : Nat → Int32), (∀ x, R' x ≤ dINF) ∧ ((dok a ∧ lp_X6_grow_23 (nI nr) (nI n) me (nA hd) (nA ln) (nA gs) (nA sg) (lA B) k (N + 1) (nI t) (nI a.1) (lA R) (nA cu) M.1 M.2.1 M.2.2.1 M.2.2.2.1 M.2.2.2.2.1 M.2.2.2.2.2.1 M.2.2.2.2.2.2.1 M.2.2.2.2.2.2.2 wt = lp_X6_grow_23 (nI nr) (nI n) me (nA hd) (nA ln) (nA gs) (nA sg) (lA B) k N (nI (t + 1)) (nI (astep nr hd ln (rsy gs) D t a).1) (lA R') (nA cu') M'.1 M'.2.1 M'.2.2.1 M'.2.2.2.1 M'.2.2.2.2.1 M'.2.2.2.2.2.1 M'.2.2.2.2.2.2.1 M'.2.2.2.2.2.2.2 wt' ∧ MS (astep nr hd ln (rsy gs) D t a) wt' ∧ MP D (t + 1) (astep nr hd ln (rsy gs) D t a).2.2 M') ∨ (¬ dok a ∧ lp_X6_grow_23 (nI nr) (nI n) me (nA hd) (nA ln) (nA gs) (nA sg) (lA B) k (N + 1) (nI t) (nI a.1) (lA R) (nA cu) M.1 M.2.1 M.2.2.1 M.2.2.2.1 M.2.2.2.2.1 M.2.2.2.2.2.1 M.2.2.2.2.2.2.1 M.2.2.2.2.2.2.2 wt = some (nI 0, nI t, nI (a.1 - 1), lA R', nA cu', M'.1, M'.2.1, M'.2.2.1, M'.2.2.2.1, M'.2.2.2.2.1, M'.2.2.2.2.2.1, M'.2.2.2.2.2.2.1, M'.2.2.2.2.2.2.2, wt'))) := by
  have hnr := G.1
  have hI := dINF_v
  obtain ⟨hAs, node⟩ := AI.step G F hn ht hA hW
  obtain ⟨hA1, hA2, hA3⟩ := hA
  obtain ⟨W, S, P⟩ := a
  dsimp only at hA1 hA2 hA3 hW hS hP hAs node ⊢
  obtain ⟨q1, q14, qft, qtn, qD, qp⟩ := hA2 (W - 1) (by omega)
  obtain ⟨w1, w2, w3, w4, w5⟩ := hS (W - 1) (by show W - 1 < W; omega)
  dsimp only at w1 w2 w3 w4 w5
  have hdk : dok (W, S, P) = (sSy (S (W - 1)) ≤ 8 ∨ aDp P (S (W - 1)) ≤ 36) := rfl
  rw [hdk]
  generalize hq : S (W - 1) = q at q1 q14 qft qtn qD qp w1 w2 w3 w4 w5 node ⊢
  obtain ⟨s, i, e, p, l⟩ := q
  dsimp only [sSy, sFr, sTo, sPa, sPl] at q1 q14 qft qtn qD qp w1 w2 w3 w4 w5 node ⊢
  have hst : astep nr hd ln (rsy gs) D t (W, S, P) = (W - 1 + aLn nr hd ln (rsy gs) D (s, i, e, p, l), fun x => if x < W - 1 then S x else (rsy gs (rfn nr hd ln (rsy gs) D s i e) (aLn nr hd ln (rsy gs) D (s, i, e, p, l) - 1 - (x - (W - 1))), cfn ln (rsy gs) D (rfn nr hd ln (rsy gs) D s i e) i e (aLn nr hd ln (rsy gs) D (s, i, e, p, l) - 1 - (x - (W - 1))), cfn ln (rsy gs) D (rfn nr hd ln (rsy gs) D s i e) i e (aLn nr hd ln (rsy gs) D (s, i, e, p, l) - 1 - (x - (W - 1)) + 1), t, aLn nr hd ln (rsy gs) D (s, i, e, p, l) - 1 - (x - (W - 1))), fun k => if k = t then (s, i, e, p, l, rfn nr hd ln (rsy gs) D s i e, aDp P (s, i, e, p, l)) else P k) := by
    unfold astep
    dsimp only
    rw [hq]
    rfl
  rw [hst]
  dsimp only
  have hP' : ∀ k, k < t → (fun k => if k = t then (s, i, e, p, l, rfn nr hd ln (rsy gs) D s i e, aDp P (s, i, e, p, l)) else P k) k = P k := fun k hk => if_neg (by omega)
  have hPt : (fun k => if k = t then (s, i, e, p, l, rfn nr hd ln (rsy gs) D s i e, aDp P (s, i, e, p, l)) else P k) t = (s, i, e, p, l, rfn nr hd ln (rsy gs) D s i e, aDp P (s, i, e, p, l)) := if_pos rfl
  have hadd := MP.add hP hPt hP'
  generalize hd9 : aDp P (s, i, e, p, l) = d at hadd ⊢
  have hd1 : d ≤ 151 := by
    rw [← hd9]
    show (if p = 999 then 0 else pDp (P p) + 1) ≤ 151
    split
    · omega
    · have := (hA3 p (by omega)).2.2.2.2.2.1
      omega
  have hpq : p = 999 ∨ p < t := by
    rcases qp with c | c
    · exact Or.inl c
    · exact Or.inr c.1
  have hcost := m_cost G F hn q1 q14 qft qtn qD
  have hpl : psi (D s i e) ≤ dINF := psi_le (by omega)
  have hpr := e_price (sg := sg) (B := B) q1 q14 qft qtn hn hsg
  rw [mpr_psi F hn hM q1 q14 qft qtn] at hpr
  have unf : lp_X6_grow_23 (nI nr) (nI n) me (nA hd) (nA ln) (nA gs) (nA sg) (lA B) k (N + 1) (nI t) (nI W) (lA R) (nA cu) M.1 M.2.1 M.2.2.1 M.2.2.2.1 M.2.2.2.2.1 M.2.2.2.2.2.1 M.2.2.2.2.2.2.1 M.2.2.2.2.2.2.2 wt = jn_X6_grow_192 (nI nr) (nI n) me (nA hd) (nA ln) (nA gs) (nA sg) (lA B) (lp_X6_grow_23 (nI nr) (nI n) me (nA hd) (nA ln) (nA gs) (nA sg) (lA B) k N) (nI s) (nI t) (nI t) (nI d) (nI t) (nI (W - 1)) (lA R) (nA cu) M.1 (upd M.2.1 t (nI s)) (upd M.2.2.1 t (pcon p)) (upd M.2.2.2.1 t (nI l)) (upd M.2.2.2.2.1 t (nI i)) (upd M.2.2.2.2.2.1 t (nI e)) (upd M.2.2.2.2.2.2.1 t (nI (D s i e / 4294967296))) M.2.2.2.2.2.2.2 wt := by
    simp only [lp_X6_grow_23, nm]
    rw [if_neg (show ¬ nI W ≤ (0 : Int32) from nI_nle hW (by omega)), if_neg (show ¬ nI t = (150 : Int32) from fun c => (show ¬ t = 150 by omega) ((nI_eq (b := 150) (by omega) (by omega)).mp c)), nI_sub1 (show 1 ≤ W by omega), show (5 : Int32) = nI 5 from rfl, nI_mul, rd_nI (by omega) (by omega), ob, w1, wrI_nI ht (by omega), ob, nI_1 (5 * (W - 1)), rd_nI (by omega) (by omega), ob, w2, wrI_nI ht (by omega), ob, show (2 : Int32) = nI 2 from rfl, nI_add, rd_nI (by omega) (by omega), ob, w3, wrI_nI ht (by omega), ob, show (3 : Int32) = nI 3 from rfl, nI_add, rd_nI (by omega) (by omega), ob, w4, wrI_nI ht (by omega), ob, show (4 : Int32) = nI 4 from rfl, nI_add, rd_nI (by omega) (by omega), ob, w5, wrI_nI ht (by omega), ob, rd_nI ht (by omega), ob, pk_us, rd_nI ht (by omega), ob, pk_us, hpr, ob, shr24 (by omega), hcost, wrI_nI ht (by omega), ob, rd_nI ht (by omega), ob, pk_us]
    rcases hpq with c | c
    · have hpc : pcon p = -1 := if_pos c
      have hd0 : d = 0 := by rw [← hd9]; exact if_pos c
      rw [hpc, if_neg (by decide), hd0]
      rfl
    · have hpc : pcon p = nI p := pcon_ne (by omega)
      have hdv : d = pDp (P p) + 1 := by rw [← hd9]; exact if_neg (show ¬ p = 999 by omega)
      rw [hpc, if_pos (nI_pos' (by omega)), ob, rd_nI (by omega) (by omega), ob, (hP p c).2.2.2.2.2.2.2, nI_1 (pDp (P p)), hdv]
  by_cases h8 : s ≤ 8
  · have hal : aLn nr hd ln (rsy gs) D (s, i, e, p, l) = 0 := if_pos h8
    rw [hal]
    rw [show pSy (s, i, e, p, l, rfn nr hd ln (rsy gs) D s i e, d) = s from rfl, if_pos h8] at hadd
    refine ⟨R, cu, _, wt, hR, Or.inl ⟨Or.inl h8, ?_, fun w hw => ?_, hadd⟩⟩
    · rw [unf]
      simp only [jn_X6_grow_192, jn_X6_grow_212, jn_X6_grow_244, jn_X6_grow_278, nm]
      rw [wrI_nI ht (by omega), ob, if_pos (show nI s ≤ (8 : Int32) from (nI_leI (b := 8) (by omega) (by omega)).mpr h8), if_neg (show ¬ (9 : Int32) ≤ nI s from fun c => (show ¬ 9 ≤ s by omega) ((nI_leI (a := 9) (by omega) (by omega)).mp c)), wrI_nI ht (by omega), ob, if_neg (show ¬ (9 : Int32) ≤ nI s from fun c => (show ¬ 9 ≤ s by omega) ((nI_leI (a := 9) (by omega) (by omega)).mp c))]
      have hFU : FU = (FU - 1) + 1 := by have := FU_gt (m := 0) (by omega); omega
      rw [hFU]
      simp only [lp_X6_grow_280]
      rw [if_pos (by decide), nI_1 t]
      rfl
    · dsimp only at hw ⊢
      have hw' : w < W - 1 := by omega
      rw [if_pos hw']
      exact hS w (by show w < W; omega)
  · have h9 : 9 ≤ s := by omega
    have hal : aLn nr hd ln (rsy gs) D (s, i, e, p, l) = ln (rfn nr hd ln (rsy gs) D s i e) := if_neg h8
    rw [hal]
    rw [show pSy (s, i, e, p, l, rfn nr hd ln (rsy gs) D s i e, d) = s from rfl, if_neg h8] at hadd
    obtain ⟨n1, n2, n3⟩ := node h9
    have g8 : ¬ nI s ≤ (8 : Int32) := fun c => h8 ((nI_leI (b := 8) (by omega) (by omega)).mp c)
    have g9 : (9 : Int32) ≤ nI s := (nI_leI (a := 9) (by omega) (by omega)).mpr h9
    by_cases hd6 : d ≤ 36
    · obtain ⟨R', cu', c1, c2, c3⟩ := m_choose (cu0 := cu) G F hn hsg hM h9 q14 qft qtn qD hR
      generalize hr : rfn nr hd ln (rsy gs) D s i e = r at n1 n2 n3 c2 c3 hadd ⊢
      have g := G.2 r n1.1
      have hr20 : r < 20 := by have := n1.1; omega
      obtain ⟨wt', ⟨p1, p2⟩, p3⟩ := l_push (t := t) (w0 := W - 1) (cu := cu') (mt := nI n) (me := me) (mb := lA B) (mp := nI (t + 1)) (R := lA R') (sg := sg) (hd := hd) (wt0 := wt) (M := (upd M.1 t (nI r), upd M.2.1 t (nI s), upd M.2.2.1 t (pcon p), upd M.2.2.2.1 t (nI l), upd M.2.2.2.2.1 t (nI i), upd M.2.2.2.2.2.1 t (nI e), upd M.2.2.2.2.2.2.1 t (nI (D s i e / 4294967296)), upd M.2.2.2.2.2.2.2 t (nI d))) G n1.1 ht (by omega) pk_us (fun m_parts m_open m_row m_cut m_ruleOf m_symbolOf m_parent m_place m_from m_to m_cost m_deep m_waiting => lp_X6_grow_23 (nI nr) (nI n) me (nA hd) (nA ln) (nA gs) (nA sg) (lA B) k N m_parts m_open m_row m_cut m_ruleOf m_symbolOf m_parent m_place m_from m_to m_cost m_deep m_waiting) FU (ln r, wt) (FU_gt (by dsimp only; omega)) ⟨Nat.le_refl _, fun _ _ => rfl, fun m h1 h2 => by dsimp only at h1; omega⟩
      refine ⟨R', cu', _, wt', c1, Or.inl ⟨Or.inr hd6, ?_, fun w hw => ?_, hadd⟩⟩
      · rw [unf]
        simp only [jn_X6_grow_192, jn_X6_grow_212, jn_X6_grow_244, jn_X6_grow_278, nm]
        rw [wrI_nI ht (by omega), ob, if_neg g8, rd_nI ht (by omega), ob, pk_us, if_pos (show nI d ≤ (36 : Int32) from (nI_leI (b := 36) (by omega) (by omega)).mpr hd6), if_pos g9, rd_nI ht (by omega), ob, pk_us, rd_nI ht (by omega), ob, pk_us, c3, ob]
        dsimp only
        rw [wrI_nI ht (by omega), ob, if_pos g9, rd_nI ht (by omega), ob, pk_us, rd_nA hr20 (by omega), ob, nI_1 t]
        dsimp only at p3
        rw [Nat.sub_self, Nat.add_zero] at p3
        exact p3
      · dsimp only at hw ⊢
        by_cases hw' : w < W - 1
        · rw [if_pos hw', p1 _ (by omega), p1 _ (by omega), p1 _ (by omega), p1 _ (by omega), p1 _ (by omega)]
          exact hS w (by show w < W; omega)
        · rw [if_neg hw']
          obtain ⟨x1, x2, x3, x4, x5⟩ := p2 (ln r - 1 - (w - (W - 1))) (by omega)
          have e1 : W - 1 + (ln r - 1 - (ln r - 1 - (w - (W - 1)))) = w := by omega
          rw [e1] at x1 x2 x3 x4 x5
          rw [c2 _ (by omega)] at x2 x3
          refine ⟨x1, x2, x3, ?_, x5⟩
          show _ = pcon t
          rw [pcon_ne ht]
          exact x4
    · refine ⟨R, cu, (M.1, upd M.2.1 t (nI s), upd M.2.2.1 t (pcon p), upd M.2.2.2.1 t (nI l), upd M.2.2.2.2.1 t (nI i), upd M.2.2.2.2.2.1 t (nI e), upd M.2.2.2.2.2.2.1 t (nI (D s i e / 4294967296)), upd M.2.2.2.2.2.2.2 t (nI d)), wt, hR, Or.inr ⟨fun c => (c.resolve_left h8 |> hd6), ?_⟩⟩
      rw [unf]
      simp only [jn_X6_grow_192]
      rw [wrI_nI ht (by omega), ob, if_neg g8, rd_nI ht (by omega), ob, pk_us, if_neg (show ¬ nI d ≤ (36 : Int32) from fun c => hd6 ((nI_leI (b := 36) (by omega) (by omega)).mp c))]
      rfl
end MRUN
