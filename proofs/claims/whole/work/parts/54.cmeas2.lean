/-! the class's measure, whole -/
section CMEAS2
variable {tx : Nat → Nat} {len : Nat} {ct : Nat → Int32} {n : Nat} {ts tl tg fc cs cl : Nat → Nat} {nr : Nat} {ln gh : Nat → Nat} {e T : Nat} {P : Nat → PE} {D : Nat → Nat → Nat → Nat} {ce hi wi : Nat → Int32}
theorem e_measure (K : TOK len n ts tl tg fc cs cl) (hct : txtR len tx ct) (hch : ∀ i, i < len → tx i ≤ 126) (C : CP gh ln D T P ce hi wi) (R : TRF nr ln n e T P) (hnr : nr ≤ 20) (hgh : ∀ x, gh x < 4) {f0 : Nat → Int32} :
    ∃ f, (∀ u, u < T → f u = nI (FlN tx ts tl fc cs cl gh P T u)) ∧ f_X3_measure (nI n) ct (nA ts) (nA tl) (nA fc) (nA cs) (nA (fun x => cs x + cl x)) (nI T) ce hi f0 = some f := by
  have hT := R.1.2.1
  have hT0 := R.1.1
  unfold f_X3_measure
  simp only [nm]
  have k1 := loopE (fun N (q : Nat × (Nat → Int32)) => lp_X3_measure_2 (nI n) ct (nA ts) (nA tl) (nA fc) (nA cs) (nA (fun x => cs x + cl x)) (nI T) ce hi (fun p_flats => lp_X3_measure_55 (nI n) ct (nA ts) (nA tl) (nA fc) (nA cs) (nA (fun x => cs x + cl x)) (nI T) ce hi (fun p_flats => some p_flats) FU (nI T - 1) p_flats) N (nI q.1) q.2)
    (fun Q => ∃ f, (∀ u, u < T → f u = nI (FlN tx ts tl fc cs cl gh P T u)) ∧ Q = some f)
    (fun q => q.1 ≤ T ∧ ∀ u, u < q.1 → q.2 u = nI (bsN tx ts tl fc cs cl P u)) (fun q => T - q.1) ?_ FU (0, f0) (FU_gt (by dsimp only; omega)) ⟨by dsimp only; omega, fun u hu => absurd hu (by dsimp only; omega)⟩
  · exact k1
  · rintro N ⟨x, f⟩ ⟨h1, h2⟩
    dsimp only at h1 h2 ⊢
    simp only [lp_X3_measure_2, jn_X3_measure_38, nm]
    by_cases h : T ≤ x
    · left
      have ex : x = T := by omega
      rw [ex] at h2
      rw [if_pos ((nI_leI (by omega) (by omega)).mpr h), nI_sub1 hT0]
      have k2 := loopE (fun N (q : Nat × (Nat → Int32)) => lp_X3_measure_55 (nI n) ct (nA ts) (nA tl) (nA fc) (nA cs) (nA (fun x => cs x + cl x)) (nI T) ce hi (fun p_flats => some p_flats) N (nI q.1) q.2)
        (fun Q => ∃ f, (∀ u, u < T → f u = nI (FlN tx ts tl fc cs cl gh P T u)) ∧ Q = some f)
        (fun q => q.1 < T ∧ ∀ u, u < T → q.2 u = nI (bsN tx ts tl fc cs cl P u + (csum P (kdN tx ts tl fc cs cl gh P T) u T - csum P (kdN tx ts tl fc cs cl gh P T) u (q.1 + 1)))) (fun q => q.1) ?_ FU (T - 1, f) (FU_gt (by dsimp only; omega)) ⟨by dsimp only; omega, fun u hu => by dsimp only; rw [show T - 1 + 1 = T by omega, Nat.sub_self, Nat.add_zero]; exact h2 u hu⟩
      · exact k2
      · rintro N ⟨c, g⟩ ⟨g1, g2⟩
        dsimp only at g1 g2 ⊢
        simp only [lp_X3_measure_55, jn_X3_measure_107, jn_X3_measure_104, nm]
        cases c with
        | zero =>
          left
          rw [if_pos (show nI 0 ≤ (0 : Int32) by decide)]
          refine ⟨g, fun u hu => ?_, rfl⟩
          rw [g2 u hu, csum_low R hu 1 (by omega), Nat.sub_zero, fl_csum R hu]
        | succ c =>
          right
          obtain ⟨a1, a2, a3, a4, a5, a6, a7⟩ := R.2.2.1 (c + 1) (by omega) g1
          obtain ⟨c0, c1, c2, c3, c4, c5, c6, c7, c8⟩ := C (c + 1) g1
          have hpc : pcon (pPa (P (c + 1))) = nI (pPa (P (c + 1))) := if_neg (by omega)
          have hcs : ∀ u, csum P (kdN tx ts tl fc cs cl gh P T) u (c + 1 + 1) = csum P (kdN tx ts tl fc cs cl gh P T) u (c + 1) + (if pPa (P (c + 1)) = u then kdN tx ts tl fc cs cl gh P T (c + 1) else 0) := fun u => csum_s
          have hmn : ∀ u, csum P (kdN tx ts tl fc cs cl gh P T) u (c + 1 + 1) ≤ csum P (kdN tx ts tl fc cs cl gh P T) u T := fun u => csum_mono (by omega)
          have hgp : (if hg P (c + 1) = true then fgN tx ts fc gh P (c + 1) else 0) = gpN tx ts fc gh P (c + 1) := rfl
          rw [if_neg (show ¬ nI (c + 1) ≤ (0 : Int32) from nI_nle (by omega) (by omega)), show (2 : Int32) = nI 2 from rfl, e_cell (by omega), ob, c2, hpc, if_neg (nI_nm1 (by omega)), rd_nI (by omega) (by omega), ob, rd_nI (by omega) (by omega), ob, e_hasGap C R g1, ob, g2 _ (by omega), g2 _ g1, csum_low R g1 (c + 1 + 1) (by omega), Nat.sub_zero, fl_csum R g1]
          have fin : ∀ (z : Nat → Int32), z = upd g (pPa (P (c + 1))) (nI (bsN tx ts tl fc cs cl P (pPa (P (c + 1))) + (csum P (kdN tx ts tl fc cs cl gh P T) (pPa (P (c + 1))) T - csum P (kdN tx ts tl fc cs cl gh P T) (pPa (P (c + 1))) (c + 1 + 1)) + (FlN tx ts tl fc cs cl gh P T (c + 1) + gpN tx ts fc gh P (c + 1)))) → ∀ u, u < T → z u = nI (bsN tx ts tl fc cs cl P u + (csum P (kdN tx ts tl fc cs cl gh P T) u T - csum P (kdN tx ts tl fc cs cl gh P T) u (c + 1))) := by
            intro z hz u hu
            rw [hz]
            have q1 := hcs u
            have q2 := hmn u
            by_cases eu : u = pPa (P (c + 1))
            · rw [if_pos eu.symm] at q1
              have q3 : kdN tx ts tl fc cs cl gh P T (c + 1) = FlN tx ts tl fc cs cl gh P T (c + 1) + gpN tx ts fc gh P (c + 1) := rfl
              rw [← eu, pk_us]
              congr 1
              omega
            · rw [if_neg (fun x => eu x.symm)] at q1
              rw [pk_un eu, g2 u hu]
              congr 1
              omega
          by_cases hh : hg P (c + 1) = true
          · rw [if_pos hh] at hgp
            have hft : pFr (P (c + 1)) < pTo (P (c + 1)) := by
              unfold hg at hh
              simp only [Bool.and_eq_true, decide_eq_true_eq] at hh
              exact hh.1.2
            rw [if_pos hh, if_neg (show ¬ (1 : Int32) = 0 by decide), e_flatGap K hct hch C R hgh g1 hft, ob, nI_add, nI_add, wrI_nI (by omega) (by omega), ob, dnI, hgp]
            exact ⟨(c, _), ⟨by dsimp only; omega, fin _ rfl⟩, by dsimp only; omega, rfl⟩
          · rw [if_neg hh] at hgp
            rw [if_neg hh, if_pos rfl, show (0 : Int32) = nI 0 from rfl, nI_add, nI_add, wrI_nI (by omega) (by omega), ob, dnI, hgp]
            exact ⟨(c, _), ⟨by dsimp only; omega, fin _ rfl⟩, by dsimp only; omega, rfl⟩
    · right
      have hx : x < T := by omega
      rw [if_neg (fun c => h ((nI_leI (by omega) (by omega)).mp c)), e_isLeaf C hT hx (fun h9 => by have := (R.2.2.2.1 x hx).2.2.2.2 h9; omega), ob]
      have fin : ∀ z : Nat → Int32, z = upd f x (nI (bsN tx ts tl fc cs cl P x)) → ∀ u, u < x + 1 → z u = nI (bsN tx ts tl fc cs cl P u) := by
        intro z hz u hu
        rw [hz]
        by_cases eu : u = x
        · rw [eu, pk_us]
        · rw [pk_un eu]; exact h2 u (by omega)
      by_cases h8 : pSy (P x) ≤ 8
      · have hb : bsN tx ts tl fc cs cl P x = lw tx ts tl fc cs cl P x := if_pos h8
        rw [if_pos h8, if_neg (show ¬ (1 : Int32) = 0 by decide), e_leafWidth (tx := tx) (ts := ts) K C R hx, ob, wrI_nI (by omega) (by omega), ob, of1, nI_add, ← hb]
        exact ⟨(x + 1, _), ⟨by dsimp only; omega, fin _ rfl⟩, by dsimp only; omega, rfl⟩
      · have hb : bsN tx ts tl fc cs cl P x = 0 := if_neg h8
        rw [if_neg h8, if_pos rfl, show (0 : Int32) = nI 0 from rfl, wrI_nI (by omega) (by omega), ob, of1, nI_add, ← hb]
        exact ⟨(x + 1, _), ⟨by dsimp only; omega, fin _ rfl⟩, by dsimp only; omega, rfl⟩
end CMEAS2
