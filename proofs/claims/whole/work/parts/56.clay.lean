/-! the class's layOut -/
theorem le_sub_iff {f a b : Nat} (hf : f < 2 ^ 30) (ha : a < 2 ^ 30) (hb : b < 2 ^ 30) : nI f ≤ nI a - nI b ↔ f + b ≤ a := by
  rw [Int32.le_iff_toInt_le, pk_sub_toInt ha hb, nI_toInt (by omega)]
  omega
def insF (gi : Nat → Int32) : Nat → Bool := fun r => !(decide (gi r = 0))
def bI (b : Bool) : Int32 := if b = true then 1 else 0
def rowsR (P : Nat → PE) (t : Nat) (s : LYS) (br ir : Nat → Int32) : Prop := ∀ u, u < t → nde P u → br u = bI (s.2.2.1 u) ∧ ir u = nI (s.2.2.2 u)
section CLAY
variable {tx : Nat → Nat} {len : Nat} {ct : Nat → Int32} {n : Nat} {ts tl tg fc cs cl : Nat → Nat} {nr : Nat} {ln gh : Nat → Nat} {e T wd : Nat} {P : Nat → PE} {D : Nat → Nat → Nat → Nat} {ce hi wi gi : Nat → Int32}
theorem e_layGap (K : TOK len n ts tl tg fc cs cl) (hct : txtR len tx ct) (hch : ∀ i, i < len → tx i ≤ 126) (C : CP gh ln D T P ce hi wi) (R : TRF nr ln n e T P) (hgh : ∀ x, gh x < 4) {u : Nat} (hu : u < T) (hh : hg P u = true) {s : LYS} {br ir sh : Nat → Int32} (hp : pgR s.1 sh) (hrw : br (pPa (P u)) = bI (s.2.2.1 (pPa (P u))) ∧ ir (pPa (P u)) = nI (s.2.2.2 (pPa (P u)))) (hpa : pPa (P u) < T) (hcol : s.2.1 ≤ s.1.length) (hlen : (gapL tx ts fc gh P u s).1.length ≤ 1300) :
    CR (gapL tx ts fc gh P u s).1 (gapL tx ts fc gh P u s).2 (f_X3_layGap (nI u) (nI (pPa (P u))) (nI n) ct (nA ts) (nA fc) ce hi br ir (nI s.1.length) (nI s.2.1) sh) := by
  have hT := R.1.2.1
  obtain ⟨b1, b2, b3⟩ := hg_spec.mp hh
  obtain ⟨c0, c1, c2, c3, c4, c5, c6, c7, c8⟩ := C u hu
  have hhint : hntP gh P u < 4 := by
    unfold hntP
    split
    · omega
    · exact hgh _
  have flat : ¬ (hntP gh P u = 2 ∧ s.2.2.1 (pPa (P u)) = true) → CR (gapL tx ts fc gh P u s).1 (gapL tx ts fc gh P u s).2 (jn_X3_layGap_60 (nI n) ct (nA ts) (nA fc) ce hi br ir (nI u) (nI s.1.length) (nI s.2.1) sh) := by
    intro hno
    unfold gapL at hlen ⊢
    rw [if_pos hh, if_neg hno] at hlen ⊢
    unfold jn_X3_layGap_60 jn_X3_layGap_74
    rw [e_flatGap K hct hch C R hgh hu b2, ob]
    have hf1 : fgN tx ts fc gh P u ≤ 1 := by unfold fgN; split <;> omega
    by_cases z : fgN tx ts fc gh P u = 0
    · rw [if_pos (show nI (fgN tx ts fc gh P u) ≤ (0 : Int32) by rw [z]; decide), if_pos z]
      exact ⟨sh, hp, rfl⟩
    · rw [if_neg (show ¬ nI (fgN tx ts fc gh P u) ≤ (0 : Int32) from nI_nle (by omega) (by omega)), if_neg z]
      rw [if_neg z] at hlen
      dsimp only at hlen
      rw [List.length_append] at hlen
      have h32 : ([32] : List Nat).length = 1 := rfl
      obtain ⟨sh', k1, k2⟩ := e_put (c := 32) (col := s.2.1) hp (by omega) (by omega)
      rw [show (32 : Int32) = nI 32 from rfl, k2, ob]
      exact ⟨sh', k1, rfl⟩
  unfold f_X3_layGap
  simp only [nm]
  rw [rd_nI (by omega) (by omega), ob, c7]
  by_cases h2 : hntP gh P u = 2
  · rw [if_pos (show nI (hntP gh P u) = (2 : Int32) by rw [h2]; rfl), rd_nI (by omega) (by omega), ob, hrw.1]
    by_cases hb : s.2.2.1 (pPa (P u)) = true
    · rw [hb, if_neg (show ¬ bI true = 0 by decide)]
      unfold gapL at hlen ⊢
      rw [if_pos hh, if_pos ⟨h2, hb⟩] at hlen ⊢
      dsimp only at hlen ⊢
      rw [List.length_append, List.length_append, spc_len] at hlen
      have h10 : ([10] : List Nat).length = 1 := rfl
      obtain ⟨sh1, k1, k2⟩ := e_put (c := 10) (col := s.2.1) hp (by omega) (by omega)
      rw [show (10 : Int32) = nI 10 from rfl, k2, ob]
      dsimp only
      generalize hI : s.2.2.2 (pPa (P u)) = I at *
      have key := loopE (fun N (q : Nat × (Nat → Int32)) => lp_X3_layGap_35 (nI n) ct (nA ts) (nA fc) ce hi br ir (fun p_size p_column p_sheet => jn_X3_layGap_74 (nI n) ct (nA ts) (nA fc) ce hi br ir p_size p_column p_sheet) N (nI (pPa (P u))) (nI q.1) (nI (s.1 ++ [10] ++ spc q.1).length) (nI q.1) q.2)
        (fun Q => CR (s.1 ++ [10] ++ spc I) I Q) (fun q => q.1 ≤ I ∧ pgR (s.1 ++ [10] ++ spc q.1) q.2) (fun q => I - q.1) ?_ FU (0, sh1) (FU_gt (by dsimp only; omega)) ⟨by dsimp only; omega, by show pgR (s.1 ++ [10] ++ []) sh1; rw [List.append_nil]; exact k1⟩
      · have e0 : (s.1 ++ [10] ++ spc 0).length = (s.1 ++ [10]).length := by show (s.1 ++ [10] ++ []).length = _; rw [List.append_nil]
        dsimp only at key
        rw [e0] at key
        exact key
      · rintro N ⟨k, r⟩ ⟨g1, g2⟩
        dsimp only at g1 g2 ⊢
        simp only [lp_X3_layGap_35, jn_X3_layGap_74, nm]
        rw [rd_nI (by omega) (by omega), ob, hrw.2]
        have hpl : (s.1 ++ [10] ++ spc k).length = s.1.length + 1 + k := by rw [List.length_append, List.length_append, spc_len]; rfl
        by_cases c : I ≤ k
        · left
          have ek : k = I := by omega
          rw [ek] at g2 ⊢
          rw [if_pos ((nI_leI (by omega) (by omega)).mpr (by omega))]
          exact ⟨r, g2, rfl⟩
        · right
          rw [if_neg (fun x => c ((nI_leI (by omega) (by omega)).mp x))]
          obtain ⟨sh2, m1, m2⟩ := e_put (c := 32) (col := k) g2 (by omega) (by omega)
          rw [show (32 : Int32) = nI 32 from rfl, m2, ob, of1, nI_add]
          refine ⟨(k + 1, sh2), ⟨by dsimp only; omega, ?_⟩, by dsimp only; omega, ?_⟩
          · show pgR (s.1 ++ [10] ++ (spc k ++ [32])) sh2
            rw [← List.append_assoc]; exact m1
          · dsimp only
            rw [show s.1 ++ [10] ++ spc (k + 1) = s.1 ++ [10] ++ spc k ++ [32] from (List.append_assoc (s.1 ++ [10]) (spc k) [32]).symm]
    · rw [Bool.eq_false_iff.mpr hb, if_pos (show bI false = 0 from rfl)]
      exact flat (fun c => hb c.2)
  · rw [if_neg (show ¬ nI (hntP gh P u) = (2 : Int32) from fun c => h2 ((nI_eq (b := 2) (by omega) (by omega)).mp c))]
    exact flat (fun c => h2 c.1)
theorem e_layPart (K : TOK len n ts tl tg fc cs cl) (hct : txtR len tx ct) (hch : ∀ i, i < len → tx i ≤ 126) (C : CP gh ln D T P ce hi wi) (R : TRF nr ln n e T P) (hnr : nr ≤ 20) (hgh : ∀ x, gh x < 4) (hwd : wd ≤ 100) {f : Nat → Int32} (hf : ∀ u, u < T → f u = nI (FlN tx ts tl fc cs cl gh P T u)) {t : Nat} (ht : t < T) (hne : pFr (P t) < pTo (P t)) {s : LYS} {br ir sh : Nat → Int32} (hp : pgR s.1 sh) (hrw : rowsR P t s br ir) (hL : LI tx ts tl fc cs cl gh P T wd t s) :
    ∃ sh' br' ir', pgR (lst tx ts tl fc cs cl gh (insF gi) P T wd t s).1 sh' ∧ rowsR P (t + 1) (lst tx ts tl fc cs cl gh (insF gi) P T wd t s) br' ir' ∧ f_X3_layPart (nI t) (nI wd) gi (nI n) ct (nA ts) (nA tl) (nA fc) (nA cs) (nA (fun x => cs x + cl x)) ce hi f (nI s.1.length) (nI s.2.1) sh br ir = some (nI (lst tx ts tl fc cs cl gh (insF gi) P T wd t s).1.length, nI (lst tx ts tl fc cs cl gh (insF gi) P T wd t s).2.1, sh', br', ir') := by
  have hT := R.1.2.1
  have hn := R.1.2.2.2
  have hr := R.2.2.2.1 t ht
  obtain ⟨c0, c1, c2, c3, c4, c5, c6, c7, c8⟩ := C t ht
  have hgl := gap_len R hL ht
  have hL2 := LI_step (ins := insF gi) R hL ht
  have hcl := cnt_le R (show t + 1 ≤ T by omega)
  have htk : tkW tl fc cl 0 (posA (t + 1) P) ≤ 160 := by
    refine tkW_le K ?_
    rw [(pos_s R ht).2]
    split <;> omega
  have htk0 : tkW tl fc cl 0 (posA t P) ≤ 160 := by
    refine tkW_le K ?_
    rw [← (pos_s R ht).1]
    omega
  have hlen1 := hL2.1
  have hpcon : pcon (pPa (P t)) = (if pPa (P t) = 999 then -1 else nI (pPa (P t))) := rfl
  have par : pPa (P t) ≠ 999 → 0 < t ∧ pPa (P t) < t ∧ nde P (pPa (P t)) := by
    intro c
    have t0 : 0 < t := by
      rcases Nat.eq_zero_or_pos t with z | z
      · rw [z] at c; exact absurd R.2.1.2.2.1 c
      · exact z
    exact ⟨t0, (R.2.2.1 t t0 ht).1, pa_nde R t0 ht hne⟩
  unfold lst at hlen1 ⊢
  rw [if_neg (show ¬ pTo (P t) ≤ pFr (P t) by omega)] at hlen1 ⊢
  -- behind the gap
  have tail : ∀ (sh1 : Nat → Int32), pgR (gapL tx ts fc gh P t s).1 sh1 → ∃ sh' br' ir', pgR (if pSy (P t) ≤ 8 then ((gapL tx ts fc gh P t s).1 ++ tkS tx ts tl fc cs cl (pFr (P t)) (pTo (P t) - pFr (P t)), (gapL tx ts fc gh P t s).2 + lw tx ts tl fc cs cl P t, s.2.2.1, s.2.2.2) else ((gapL tx ts fc gh P t s).1, (gapL tx ts fc gh P t s).2, updB s.2.2.1 t (brkF tx ts tl fc cs cl gh P T wd t (gapL tx ts fc gh P t s).2), updN s.2.2.2 t (indF (insF gi) P t (brkF tx ts tl fc cs cl gh P T wd t (gapL tx ts fc gh P t s).2) s.2.2.2)) : LYS).1 sh' ∧ rowsR P (t + 1) (if pSy (P t) ≤ 8 then ((gapL tx ts fc gh P t s).1 ++ tkS tx ts tl fc cs cl (pFr (P t)) (pTo (P t) - pFr (P t)), (gapL tx ts fc gh P t s).2 + lw tx ts tl fc cs cl P t, s.2.2.1, s.2.2.2) else ((gapL tx ts fc gh P t s).1, (gapL tx ts fc gh P t s).2, updB s.2.2.1 t (brkF tx ts tl fc cs cl gh P T wd t (gapL tx ts fc gh P t s).2), updN s.2.2.2 t (indF (insF gi) P t (brkF tx ts tl fc cs cl gh P T wd t (gapL tx ts fc gh P t s).2) s.2.2.2)) : LYS) br' ir' ∧ jn_X3_layPart_24 gi (nI n) ct (nA ts) (nA tl) (nA fc) (nA cs) (nA (fun x => cs x + cl x)) ce hi f (nI t) (nI wd) (pcon (pPa (P t))) (nI (gapL tx ts fc gh P t s).1.length) (nI (gapL tx ts fc gh P t s).2) sh1 br ir = some (nI (if pSy (P t) ≤ 8 then ((gapL tx ts fc gh P t s).1 ++ tkS tx ts tl fc cs cl (pFr (P t)) (pTo (P t) - pFr (P t)), (gapL tx ts fc gh P t s).2 + lw tx ts tl fc cs cl P t, s.2.2.1, s.2.2.2) else ((gapL tx ts fc gh P t s).1, (gapL tx ts fc gh P t s).2, updB s.2.2.1 t (brkF tx ts tl fc cs cl gh P T wd t (gapL tx ts fc gh P t s).2), updN s.2.2.2 t (indF (insF gi) P t (brkF tx ts tl fc cs cl gh P T wd t (gapL tx ts fc gh P t s).2) s.2.2.2)) : LYS).1.length, nI (if pSy (P t) ≤ 8 then ((gapL tx ts fc gh P t s).1 ++ tkS tx ts tl fc cs cl (pFr (P t)) (pTo (P t) - pFr (P t)), (gapL tx ts fc gh P t s).2 + lw tx ts tl fc cs cl P t, s.2.2.1, s.2.2.2) else ((gapL tx ts fc gh P t s).1, (gapL tx ts fc gh P t s).2, updB s.2.2.1 t (brkF tx ts tl fc cs cl gh P T wd t (gapL tx ts fc gh P t s).2), updN s.2.2.2 t (indF (insF gi) P t (brkF tx ts tl fc cs cl gh P T wd t (gapL tx ts fc gh P t s).2) s.2.2.2)) : LYS).2.1, sh', br', ir') := by
    intro sh1 g1
    generalize hg1 : (gapL tx ts fc gh P t s).1 = pg1 at *
    generalize hg2 : (gapL tx ts fc gh P t s).2 = col1 at *
    unfold jn_X3_layPart_24
    simp only [nm]
    rw [show (3 : Int32) = nI 3 from rfl, show (4 : Int32) = nI 4 from rfl, e_cell (by omega), ob, c3, e_isLeaf C hT ht (fun h9 => by have := hr.2.2.2.2 h9; omega), ob, e_cell (by omega), c4]
    by_cases h8 : pSy (P t) ≤ 8
    · rw [if_pos h8] at hlen1
      rw [if_pos h8, if_pos h8, if_neg (show ¬ (1 : Int32) = 0 by decide), ob, nI_add]
      dsimp only at hlen1 ⊢
      rw [List.length_append] at hlen1
      obtain ⟨sh2, m1, m2⟩ := e_layTokens K hct hch (a := pFr (P t)) (d := pTo (P t) - pFr (P t)) (col := col1) g1 (by omega) hgl.2 (by omega)
      rw [m2, ob]
      refine ⟨sh2, br, ir, m1, fun u hu hnu => ?_, rfl⟩
      by_cases eu : u = t
      · rw [eu] at hnu; have := hnu.1; omega
      · exact hrw u (by omega) hnu
    · rw [if_neg h8, if_neg h8, if_pos rfl, rd_nI (by omega) (by omega), ob, hf t ht]
      dsimp only
      have hFl := fl_le (tx := tx) (gh := gh) K R ht
      have hru := (hr.2.2.2.2 (by omega)).1
      have hcond : nI (FlN tx ts tl fc cs cl gh P T t) ≤ nI wd - nI col1 ↔ brkF tx ts tl fc cs cl gh P T wd t col1 = false := by
        rw [le_sub_iff (by omega) (by omega) (by omega)]
        unfold brkF
        rw [decide_eq_false_iff_not]
        omega
      generalize hbb : brkF tx ts tl fc cs cl gh P T wd t col1 = b at *
      -- the row of broken is set
      have fin : ∃ br' ir', rowsR P (t + 1) (pg1, col1, updB s.2.2.1 t b, updN s.2.2.2 t (indF (insF gi) P t b s.2.2.2)) br' ir' ∧ jn_X3_layPart_90 gi (nI n) ct (nA ts) (nA tl) (nA fc) (nA cs) (nA (fun x => cs x + cl x)) ce hi f (nI t) (pcon (pPa (P t))) (nI t) (bI b) (nI pg1.length) (nI col1) sh1 br ir = some (nI pg1.length, nI col1, sh1, br', ir') := by
        have hnar : vp_nar .boolean (bI b) = bI b := by cases b <;> rfl
        -- the indents
        have hind : ∀ (I0 : Nat), (if pPa (P t) = 999 then 0 else s.2.2.2 (pPa (P t))) = I0 → ∃ br' ir', rowsR P (t + 1) (pg1, col1, updB s.2.2.1 t b, updN s.2.2.2 t (indF (insF gi) P t b s.2.2.2)) br' ir' ∧ jn_X3_layPart_111 gi (nI n) ct (nA ts) (nA tl) (nA fc) (nA cs) (nA (fun x => cs x + cl x)) ce hi f (nI t) (nI t) (nI I0) (nI pg1.length) (nI col1) sh1 (upd br t (bI b)) ir = some (nI pg1.length, nI col1, sh1, br', ir') := by
          intro I0 hI0
          have old : ∀ (irx : Nat → Int32), (∀ u, u ≠ t → irx u = ir u) → irx t = nI (indF (insF gi) P t b s.2.2.2) → rowsR P (t + 1) (pg1, col1, updB s.2.2.1 t b, updN s.2.2.2 t (indF (insF gi) P t b s.2.2.2)) (upd br t (bI b)) irx := by
            intro irx h1 h2 u hu hnu
            dsimp only
            by_cases eu : u = t
            · rw [eu, pk_us, updB_s, updN_s]; exact ⟨rfl, h2⟩
            · rw [pk_un eu, updB_n eu, updN_n eu, h1 u eu]; exact hrw u (by omega) hnu
          unfold jn_X3_layPart_111 jn_X3_layPart_151
          rw [wrI_nI (by omega) (by omega), ob, rd_nI (by omega) (by omega), ob, pk_us]
          have hif : indF (insF gi) P t b s.2.2.2 = I0 + (if b = true ∧ insF gi (pRu (P t)) = true then 2 else 0) := by unfold indF; rw [hI0]
          by_cases hb : b = true
          · rw [if_neg (show ¬ bI b = 0 by rw [hb]; decide), show (0 : Int32) = nI 0 from rfl, e_cell (by omega), ob, show ce (t * 7 + 0) = ce (t * 7) from rfl, c0, if_neg h8, rd_nI (by omega) (by omega), ob]
            rw [show nI 0 = (0 : Int32) from rfl]
            by_cases hi0 : gi (pRu (P t)) = 0
            · rw [if_pos hi0]
              have hno : ¬ (b = true ∧ insF gi (pRu (P t)) = true) := by
                intro c; have := c.2; unfold insF at this; rw [hi0] at this; exact absurd this (by decide)
              rw [if_neg hno, Nat.add_zero] at hif
              refine ⟨upd br t (bI b), upd ir t (nI I0), old _ (fun u hu => pk_un hu) (by rw [pk_us, hif]), rfl⟩
            · rw [if_neg hi0, rd_nI (by omega) (by omega), ob, pk_us, wrI_nI (by omega) (by omega), ob]
              have hyes : b = true ∧ insF gi (pRu (P t)) = true := ⟨hb, by unfold insF; simp [hi0]⟩
              rw [if_pos hyes] at hif
              refine ⟨upd br t (bI b), upd (upd ir t (nI I0)) t (nI I0 + 2), old _ (fun u hu => by rw [pk_un hu, pk_un hu]) (by rw [pk_us, hif, show (2 : Int32) = nI 2 from rfl, nI_add]), rfl⟩
          · have hno : ¬ (b = true ∧ insF gi (pRu (P t)) = true) := fun c => hb c.1
            rw [if_neg hno, Nat.add_zero] at hif
            rw [if_pos (show bI b = 0 by rw [Bool.eq_false_iff.mpr hb]; rfl)]
            exact ⟨upd br t (bI b), upd ir t (nI I0), old _ (fun u hu => pk_un hu) (by rw [pk_us, hif]), rfl⟩
        unfold jn_X3_layPart_90
        rw [hnar, wrI_nI (by omega) (by omega), ob]
        by_cases hpa : pPa (P t) = 999
        · rw [if_pos ((pcon_m1 (by omega)).mpr hpa)]
          exact hind 0 (if_pos hpa)
        · obtain ⟨q1, q2, q3⟩ := par hpa
          rw [if_neg (fun x => hpa ((pcon_m1 (by omega)).mp x)), hpcon, if_neg hpa, rd_nI (by omega) (by omega), ob, (hrw _ q2 q3).2]
          exact hind _ (if_neg hpa)
      obtain ⟨br', ir', r1, r2⟩ := fin
      refine ⟨sh1, br', ir', g1, r1, ?_⟩
      rw [← r2]
      by_cases hb : b = true
      · rw [if_neg (fun x => by have := hcond.mp x; rw [hb] at this; cases this), hb]
        rfl
      · have hbf : b = false := by cases b <;> simp_all
        rw [if_pos (hcond.mpr hbf), hbf]
        rfl
  unfold f_X3_layPart
  simp only [nm]
  rw [show (2 : Int32) = nI 2 from rfl, e_cell (by omega), ob, c2, e_hasGap C R ht, ob]
  by_cases hh : hg P t = true
  · obtain ⟨b1, b2, b3⟩ := hg_spec.mp hh
    obtain ⟨q1, q2, q3⟩ := par b1
    rw [if_pos hh, if_neg (show ¬ (1 : Int32) = 0 by decide)]
    have hlg := e_layGap K hct hch C R hgh ht hh (s := s) hp (hrw _ q2 q3) (by omega) hL.2.1 (by omega)
    obtain ⟨sh1, m1, m2⟩ := hlg
    have hpc2 : pcon (pPa (P t)) = nI (pPa (P t)) := if_neg b1
    have := tail sh1 m1
    rw [hpc2] at this ⊢
    rw [m2, ob]
    exact this
  · rw [if_neg hh, if_pos rfl]
    have eg : gapL tx ts fc gh P t s = (s.1, s.2.1) := if_neg hh
    have := tail sh (by rw [eg]; exact hp)
    rw [eg] at this ⊢
    exact this
theorem e_layOut (K : TOK len n ts tl tg fc cs cl) (hct : txtR len tx ct) (hch : ∀ i, i < len → tx i ≤ 126) (C : CP gh ln D T P ce hi wi) (R : TRF nr ln n e T P) (hnr : nr ≤ 20) (hgh : ∀ x, gh x < 4) (hpe : posA T P = e) (hwd : wd ≤ 100) {sh f0 br0 ir0 : Nat → Int32} {o1 o2 : Int32} :
    ∃ col sh' f br ir, pgR ((lay tx ts tl fc cs cl gh (insF gi) P T wd T).1 ++ enS tx ts tl fc cs cl n e (lay tx ts tl fc cs cl gh (insF gi) P T wd T).1) sh' ∧ ((lay tx ts tl fc cs cl gh (insF gi) P T wd T).1 ++ enS tx ts tl fc cs cl n e (lay tx ts tl fc cs cl gh (insF gi) P T wd T).1).length ≤ 1300 ∧ f_X3_layOut (nI wd) gi (nI n) ct (nA ts) (nA tl) (nA fc) (nA cs) (nA (fun x => cs x + cl x)) (nI T) (nI (n - e)) ce hi o1 o2 sh f0 br0 ir0 = some (nI ((lay tx ts tl fc cs cl gh (insF gi) P T wd T).1 ++ enS tx ts tl fc cs cl n e (lay tx ts tl fc cs cl gh (insF gi) P T wd T).1).length, col, sh', f, br, ir) := by
  have hT := R.1.2.1
  have hen := R.1.2.2.1
  obtain ⟨f, hf, hm⟩ := e_measure K hct hch C R hnr hgh (f0 := f0)
  have hLT := LI_all (tx := tx) (ts := ts) (tl := tl) (fc := fc) (cs := cs) (cl := cl) (gh := gh) (wd := wd) (ins := insF gi) R T (Nat.le_refl T)
  have hcnt := cnt_le R (Nat.le_refl T)
  -- all the text there is
  have hK := K.2.2.2.2.2.2.2
  have hl80 := K.1
  have htk := tkW_sum K (a := 0) n (by omega)
  have hcm := cmW_sum (cl := cl) (f := fc n) (d := fc (n + 1) - fc n)
  have hfn := K.2.2.2.2.1 n (Nat.le_refl n)
  rw [show fc n + (fc (n + 1) - fc n) = fc (n + 1) by omega] at hcm
  have hadd := tkW_add (tl := tl) (fc := fc) (cl := cl) (a := 0) (d := e) (d' := n - e)
  rw [Nat.zero_add, show e + (n - e) = n by omega] at hadd
  rw [Nat.zero_add] at htk
  have e1 := tkW_len (tx := tx) (ts := ts) (tl := tl) (fc := fc) (cs := cs) (cl := cl) (a := e) (d := n - e)
  have e2 := cmW_len (tx := tx) (cs := cs) (cl := cl) (f := fc n) (d := fc (n + 1) - fc n)
  have hLl := hLT.1
  rw [hpe] at hLl
  have hlenE : ∀ pg : List Nat, (enS tx ts tl fc cs cl n e pg).length ≤ 1 + tkW tl fc cl e (n - e) + cmW cl (fc n) (fc (n + 1) - fc n) := by
    intro pg
    unfold enS
    split
    · exact Nat.zero_le _
    · rw [List.length_append, List.length_append, List.length_append]
      have q1 : (if pg = [] then ([] : List Nat) else [10]).length ≤ 1 := by split <;> simp
      have q2 : (if 0 < n - e ∧ 0 < fc (n + 1) - fc n then ([32] : List Nat) else []).length ≤ (sep (n - e)).length := by
        rw [sep_len]
        split
        · next c => rw [if_neg (by omega)]; simp
        · simp
      omega
  have key := loopE (fun N (q : Nat × (Nat → Int32) × (Nat → Int32) × (Nat → Int32)) => lp_X3_layOut_16 gi (nI n) ct (nA ts) (nA tl) (nA fc) (nA cs) (nA (fun x => cs x + cl x)) (nI T) (nI (n - e)) ce hi (fun p_size p_column p_sheet p_flats p_broken p_indents => (f_X3_layEnd (nI n) ct (nA ts) (nA tl) (nA fc) (nA cs) (nA (fun x => cs x + cl x)) (nI (n - e)) p_size p_column p_sheet).bind fun r6 => some (r6.1, r6.2.1, r6.2.2, p_flats, p_broken, p_indents)) N (nI wd) (nI q.1) (nI (lay tx ts tl fc cs cl gh (insF gi) P T wd q.1).1.length) (nI (lay tx ts tl fc cs cl gh (insF gi) P T wd q.1).2.1) q.2.1 f q.2.2.1 q.2.2.2)
    (fun Q => ∃ col sh' f br ir, pgR ((lay tx ts tl fc cs cl gh (insF gi) P T wd T).1 ++ enS tx ts tl fc cs cl n e (lay tx ts tl fc cs cl gh (insF gi) P T wd T).1) sh' ∧ ((lay tx ts tl fc cs cl gh (insF gi) P T wd T).1 ++ enS tx ts tl fc cs cl n e (lay tx ts tl fc cs cl gh (insF gi) P T wd T).1).length ≤ 1300 ∧ Q = some (nI ((lay tx ts tl fc cs cl gh (insF gi) P T wd T).1 ++ enS tx ts tl fc cs cl n e (lay tx ts tl fc cs cl gh (insF gi) P T wd T).1).length, col, sh', f, br, ir))
    (fun q => q.1 ≤ T ∧ pgR (lay tx ts tl fc cs cl gh (insF gi) P T wd q.1).1 q.2.1 ∧ rowsR P q.1 (lay tx ts tl fc cs cl gh (insF gi) P T wd q.1) q.2.2.1 q.2.2.2) (fun q => T - q.1) ?_ FU (0, sh, br0, ir0) (FU_gt (by dsimp only; omega)) ⟨by dsimp only; omega, pgR_0, fun u hu => absurd hu (Nat.not_lt_zero u)⟩
  · unfold f_X3_layOut
    simp only [nm]
    rw [hm, ob]
    exact key
  · rintro N ⟨t, r, br, ir⟩ ⟨h1, h2, h3⟩
    dsimp only at h1 h2 h3 ⊢
    simp only [lp_X3_layOut_16, jn_X3_layOut_45, nm]
    by_cases h : T ≤ t
    · left
      have et : t = T := by omega
      rw [et] at h2 h3 ⊢
      rw [if_pos ((nI_leI (by omega) (by omega)).mpr (by omega))]
      have hE := hlenE (lay tx ts tl fc cs cl gh (insF gi) P T wd T).1
      have hfit : (lay tx ts tl fc cs cl gh (insF gi) P T wd T).1.length + (enS tx ts tl fc cs cl n e (lay tx ts tl fc cs cl gh (insF gi) P T wd T).1).length ≤ 1300 := by omega
      obtain ⟨col', sh', k1, k2⟩ := e_layEnd K hct hch (pg := (lay tx ts tl fc cs cl gh (insF gi) P T wd T).1) (e := e) (col := (lay tx ts tl fc cs cl gh (insF gi) P T wd T).2.1) h2 hen hLT.2.1 hfit
      rw [k2, ob]
      exact ⟨nI col', sh', f, br, ir, k1, by rw [List.length_append]; exact hfit, rfl⟩
    · right
      have ht : t < T := by omega
      have hr := R.2.2.2.1 t ht
      have hn := R.1.2.2.2
      rw [if_neg (fun c => h ((nI_leI (by omega) (by omega)).mp c)), show (4 : Int32) = nI 4 from rfl, e_cell (by omega), ob, (C t ht).2.2.2.2.1]
      by_cases hne : pFr (P t) < pTo (P t)
      · rw [if_neg (show ¬ nI (pTo (P t) - pFr (P t)) ≤ (0 : Int32) from nI_nle (by omega) (by omega))]
        obtain ⟨sh', br', ir', k1, k2, k3⟩ := e_layPart (gi := gi) K hct hch C R hnr hgh hwd hf ht hne h2 h3 (LI_all R t (by omega))
        rw [k3, ob, of1, nI_add]
        exact ⟨(t + 1, sh', br', ir'), ⟨by dsimp only; omega, k1, k2⟩, by dsimp only; omega, rfl⟩
      · rw [if_pos (show nI (pTo (P t) - pFr (P t)) ≤ (0 : Int32) by rw [show pTo (P t) - pFr (P t) = 0 by omega]; decide), of1, nI_add]
        have el : lay tx ts tl fc cs cl gh (insF gi) P T wd (t + 1) = lay tx ts tl fc cs cl gh (insF gi) P T wd t := if_pos (by omega)
        refine ⟨(t + 1, r, br, ir), ⟨by dsimp only; omega, by dsimp only; rw [el]; exact h2, ?_⟩, by dsimp only; omega, by dsimp only; rw [el]⟩
        dsimp only
        rw [el]
        intro u hu hnu
        by_cases eu : u = t
        · rw [eu] at hnu; exact absurd hnu.2 hne
        · exact h3 u (by omega) hnu
end CLAY
