/-! the class's rule -/
theorem e_isKindA (a : Int32) : (∃ h, 9 ≤ h ∧ h ≤ 14 ∧ a = nI h ∧ f_X5_isKind a = some 1) ∨ ((∀ h, 9 ≤ h → h ≤ 14 → a ≠ nI h) ∧ f_X5_isKind a = some 0) := by
  unfold f_X5_isKind jn_X5_isKind_16 jn_X5_isKind_17
  rw [zc0, zc1, ob, ob]
  by_cases c1 : a < 9
  · right
    rw [if_pos c1]
    refine ⟨fun h h9 h14 e => ?_, rfl⟩
    rw [e] at c1
    have := (nI_ltI (b := 9) (by omega) (by omega)).mp c1
    omega
  · rw [if_neg c1]
    by_cases c2 : 14 < a
    · right
      rw [if_pos c2]
      refine ⟨fun h h9 h14 e => ?_, rfl⟩
      rw [e] at c2
      have := (nI_ltI (a := 14) (by omega) (by omega)).mp c2
      omega
    · left
      rw [if_neg c2]
      obtain ⟨h, hh, eh⟩ := nI_of (x := a) (fun c => c1 (Int32.lt_trans c (by decide)))
      refine ⟨h, ?_, ?_, eh, rfl⟩
      · rcases Nat.lt_or_ge h 9 with d | d
        · rw [eh] at c1; exact absurd ((nI_ltI (b := 9) (by omega) (by omega)).mpr d) c1
        · exact d
      · rcases Nat.lt_or_ge 14 h with d | d
        · rw [eh] at c2; exact absurd ((nI_ltI (a := 14) (by omega) (by omega)).mpr d) c2
        · exact d
theorem r_crule {nr c : Nat} {hd ln gs gh : Nat → Nat} {gi gg : Nat → Int32} (G : GW nr hd ln (rsy gs)) (hg : GG c gg) (hgs : grS nr hd ln gs c) (a1 a2 a3 a4 tz tk : Int32) :
    (∃ h s q n, okR a1 a2 a3 h s q n ∧ ((nr = 20 ∧ f_X5_rule a1 a2 a3 a4 (nI nr) (nA hd) (nA ln) (nA gs) (nA gh) gi gg tz tk = some (2, 0, nI nr, nA hd, nA ln, nA gs, nA gh, gi, gg, tz, tk)) ∨
      (nr < 20 ∧ ∃ c' gg', GG c' gg' ∧ grS (nr + 1) (updN hd nr h) (updN ln nr n) (rowF gs (nr * 5) n (symF s n)) c' ∧ clo (nr + 1) (updN hd nr h) (updN ln nr n) (rsy (rowF gs (nr * 5) n (symF s n))) (mb c') ∧
        f_X5_rule a1 a2 a3 a4 (nI nr) (nA hd) (nA ln) (nA gs) (nA gh) gi gg tz tk = some (0, nI nr, nI (nr + 1), nA (updN hd nr h), nA (updN ln nr n), nA (rowF gs (nr * 5) n (symF s n)), nA (rowF gh (nr * 5) n (hinF q n)), upd gi nr (vp_nar .boolean a4), gg', 0, 0)))) ∨
    ((¬ ∃ h s q n, okR a1 a2 a3 h s q n) ∧ f_X5_rule a1 a2 a3 a4 (nI nr) (nA hd) (nA ln) (nA gs) (nA gh) gi gg tz tk = some (1, 0, nI nr, nA hd, nA ln, nA gs, nA gh, gi, gg, tz, tk)) := by
  have hnr := G.1
  unfold f_X5_rule jn_X5_rule_28
  simp only [nm]
  have hs0 : a2 < 0 → f_X2_symbolsIn a2 = some (-1) := by
    intro h
    unfold f_X2_symbolsIn jn_X2_symbolsIn_10
    rw [if_pos h]
  rcases e_isKindA a1 with ⟨h, h9, h14, eh, ek⟩ | ⟨hno, ek⟩
  · by_cases c2 : a2 < 0
    · right
      refine ⟨fun ⟨h, s, q, n, c⟩ => ?_, ?_⟩
      · rw [c.2.1] at c2
        exact nI_pos c.2.2.2.2.2.1 c2
      · rw [hs0 c2, ob, ek, ob, if_neg (show ¬ (1 : Int32) = 0 by decide), if_pos rfl]
    · obtain ⟨s, hs, es⟩ := nI_of c2
      rcases e_symbolsIn hs with ⟨n, b1, b2, b3, b4, b5⟩ | ⟨b1, b2⟩
      · rw [es, b5, ob, ek, ob, if_neg (show ¬ (1 : Int32) = 0 by decide), if_neg (nI_nm1 (by omega))]
        by_cases c3 : a3 < 0
        · right
          refine ⟨fun ⟨h, s, q, n, c⟩ => ?_, ?_⟩
          · rw [c.2.2.1] at c3
            exact nI_pos c.2.2.2.2.2.2.1 c3
          · have : f_X2_hintsFit a3 (nI n) = some 0 := by
              unfold f_X2_hintsFit
              rw [if_neg (fun x => absurd (Int32.lt_of_lt_of_le c3 x) (Int32.lt_irrefl)), zc0, ob]
            rw [this, ob, if_pos rfl]
        · obtain ⟨q, hq, eq⟩ := nI_of c3
          rw [eq]
          rcases e_hintsFit (n := n) hq b2 with ⟨d1, d2⟩ | ⟨d1, d2⟩
          · left
            refine ⟨h, s, q, n, ⟨eh, rfl, rfl, h9, h14, hs, hq, b3, b2, b4, d1⟩, ?_⟩
            rw [d2, ob, if_neg (show ¬ (1 : Int32) = 0 by decide)]
            by_cases hlt : nr < 20
            · right
              obtain ⟨c', gg', e1, e2, e3, e4⟩ := e_add (gi := gi) (gh := gh) (a4 := a4) G hlt h9 h14 hs hq b3 b2 b4 hg hgs
              refine ⟨hlt, c', gg', e1, e2, e3, ?_⟩
              rw [if_pos (show nI nr < (20 : Int32) from (nI_ltI (b := 20) (by omega) (by omega)).mpr hlt), eh, e4]
              rfl
            · left
              refine ⟨by omega, ?_⟩
              rw [if_neg (show ¬ nI nr < (20 : Int32) from fun x => hlt ((nI_ltI (b := 20) (by omega) (by omega)).mp x))]
          · right
            refine ⟨fun ⟨h', s', q', n', c⟩ => ?_, by rw [d2, ob, if_pos rfl]⟩
            have w2 : s' = s := (nI_eq c.2.2.2.2.2.1 hs).mp c.2.1.symm
            have w3 : q' = q := (nI_eq c.2.2.2.2.2.2.1 hq).mp c.2.2.1.symm
            rw [w2, w3] at c
            have w4 := isN_unique c.2.2.2.2.2.2.2.1 b3
            rw [w4] at c
            exact d1 c.2.2.2.2.2.2.2.2.2.2
      · right
        refine ⟨fun ⟨h', s', q', n', c⟩ => ?_, ?_⟩
        · have w2 : s' = s := (nI_eq c.2.2.2.2.2.1 hs).mp (c.2.1.symm.trans es)
          rw [w2] at c
          exact b1 n' c.2.2.2.2.2.2.2.1 c.2.2.2.2.2.2.2.2.1 c.2.2.2.2.2.2.2.2.2.1
        · rw [es, b2, ob, ek, ob, if_neg (show ¬ (1 : Int32) = 0 by decide), if_pos rfl]
  · right
    refine ⟨fun ⟨h', s', q', n', c⟩ => hno h' c.2.2.2.1 c.2.2.2.2.1 c.1, ?_⟩
    have hz : ∃ v, f_X2_symbolsIn a2 = some v := by
      by_cases c2 : a2 < 0
      · exact ⟨_, hs0 c2⟩
      · obtain ⟨s, hs, es⟩ := nI_of c2
        rw [es]
        rcases e_symbolsIn hs with ⟨n, b1, b2, b3, b4, b5⟩ | ⟨b1, b2⟩
        · exact ⟨_, b5⟩
        · exact ⟨_, b2⟩
    obtain ⟨v, hv⟩ := hz
    rw [hv, ob, ek, ob, if_pos rfl]
