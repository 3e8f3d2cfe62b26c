/-! the reference's measure, whole -/
def MW (tx ts tl fc cs cl gh : Nat → Nat) (P : Nat → PE) (T j : Nat) (q : (Nat → Int32) × (Nat → Int32) × (Nat → Int32) × (Nat → Int32)) : Prop :=
  ∀ u, j ≤ u → u < T → q.1 u = nI (FlN tx ts tl fc cs cl gh P T u) ∧ (pFr (P u) < pTo (P u) → q.2.1 u = nI (bgN tx ts fc (pFr (P u)))) ∧ q.2.2.1 u = 0 ∧ q.2.2.2 u = 0
section MMEAS2
variable {tx : Nat → Nat} {len : Nat} {mk : Nat → Int32} {n : Nat} {ts tl tg fc cs cl : Nat → Nat} {nr : Nat} {ln gh : Nat → Nat} {e T : Nat} {P : Nat → PE} {D : Nat → Nat → Nat → Nat}
theorem e_m142 (K : TOK len n ts tl tg fc cs cl) (hch : ∀ i, i < len → tx i ≤ 126) {M : A8} (C : MP D T P M) (R : TRF nr ln n e T P) (hpe : posA T P = e) (hnr : nr ≤ 20) (hln : ∀ r, r < nr → ln r ≤ 5) (hgh : ∀ x, gh x < 4) {u : Nat} (hu : u < T) (h9 : 9 ≤ pSy (P u)) {wd0 bg0 st br : Nat → Int32} {kk : (Int32) → (Nat → Int32) → (Nat → Int32) → (Nat → Int32) → (Nat → Int32) → Option ((Nat → Int32) × (Nat → Int32) × (Nat → Int32) × (Nat → Int32))} (hst : st u = 0) (hbr : br u = 0) (h0 : wd0 u = 0) (hI : MW tx ts tl fc cs cl gh P T (u + 1) (wd0, bg0, st, br)) :
    ∃ w b, MW tx ts tl fc cs cl gh P T u (w, b, st, br) ∧ lp_X6_measure_142 (nI T) (nA gh) mk (nA ts) (nA tl) (nA cl) (nA fc) M.1 M.2.1 M.2.2.1 M.2.2.2.1 M.2.2.2.2.1 M.2.2.2.2.2.1 kk FU (nI u) (nI (u + 1)) wd0 bg0 st br = kk (nI u) w b st br := by
  have hT := R.1.2.1
  have hn := R.1.2.2.2
  have hM := C u hu
  have hru := R.2.2.2.1 u hu
  have key := loopE (fun N (q : Nat × (Nat → Int32) × (Nat → Int32)) => lp_X6_measure_142 (nI T) (nA gh) mk (nA ts) (nA tl) (nA cl) (nA fc) M.1 M.2.1 M.2.2.1 M.2.2.2.1 M.2.2.2.2.1 M.2.2.2.2.2.1 kk N (nI u) (nI q.1) q.2.1 q.2.2 st br)
    (fun Q => ∃ w b, MW tx ts tl fc cs cl gh P T u (w, b, st, br) ∧ Q = kk (nI u) w b st br)
    (fun q => u + 1 ≤ q.1 ∧ q.1 ≤ T ∧ q.2.1 u = nI (csum P (kdN tx ts tl fc cs cl gh P T) u q.1) ∧ (0 < csum P (kdN tx ts tl fc cs cl gh P T) u q.1 → q.2.2 u = nI (bgN tx ts fc (pFr (P u)))) ∧ MW tx ts tl fc cs cl gh P T (u + 1) (q.2.1, q.2.2, st, br)) (fun q => T - q.1) ?_ FU (u + 1, wd0, bg0) (FU_gt (by dsimp only; omega)) ⟨Nat.le_refl _, by dsimp only; omega, by dsimp only; rw [h0, csum_low R hu (u + 1) (Nat.le_refl _)]; rfl, fun x => absurd x (by dsimp only; rw [csum_low R hu (u + 1) (Nat.le_refl _)]; omega), hI⟩
  · exact key
  · rintro N ⟨c, w, b⟩ ⟨q1, q2, q3, q4, q5⟩
    dsimp only at q1 q2 q3 q4 q5 ⊢
    simp only [lp_X6_measure_142, jn_X6_measure_270, jn_X6_measure_213, jn_X6_measure_209, jn_X6_measure_214, jn_X6_measure_244, jn_X6_measure_267, nm]
    have hfc := fl_csum (tx := tx) (ts := ts) (tl := tl) (fc := fc) (cs := cs) (cl := cl) (gh := gh) R hu
    have hfl := fl_le (tx := tx) (gh := gh) K R hu
    have hb0 : bsN tx ts tl fc cs cl P u = 0 := if_neg (by omega)
    by_cases hc : T ≤ c
    · left
      have ec : c = T := by omega
      rw [ec] at q3 q4
      rw [if_pos ((nI_leI (by omega) (by omega)).mpr hc)]
      refine ⟨w, b, fun v hv hvT => ?_, rfl⟩
      by_cases ev : v = u
      · rw [ev]
        refine ⟨by dsimp only; rw [q3, ← hfc, hb0, Nat.zero_add], fun hne => q4 ?_, hst, hbr⟩
        have := fl_pos (tx := tx) (gh := gh) K R hpe hu hne
        omega
      · exact q5 v (by omega) hvT
    · right
      have hcT : c < T := by omega
      obtain ⟨a1, a2, a3, a4, a5, a6, a7⟩ := R.2.2.1 c (by omega) hcT
      have hmn : csum P (kdN tx ts tl fc cs cl gh P T) u (c + 1) ≤ csum P (kdN tx ts tl fc cs cl gh P T) u T := csum_mono (by omega)
      have hcs : csum P (kdN tx ts tl fc cs cl gh P T) u (c + 1) = csum P (kdN tx ts tl fc cs cl gh P T) u c + (if pPa (P c) = u then kdN tx ts tl fc cs cl gh P T c else 0) := csum_s
      have hkd : kdN tx ts tl fc cs cl gh P T c = FlN tx ts tl fc cs cl gh P T c + gpN tx ts fc gh P c := rfl
      obtain ⟨w1, w2, w3, w4⟩ := q5 c q1 hcT
      dsimp only at w1 w2 w3 w4
      rw [if_neg (fun x => hc ((nI_leI (by omega) (by omega)).mp x)), rd_nI (by omega) (by omega), ob, hM.2.1, if_neg (show ¬ nI (pSy (P u)) ≤ (8 : Int32) from fun x => by have := (nI_leI (b := 8) (by omega) (by omega)).mp x; omega), rd_nI (by omega) (by omega), ob, (C c hcT).2.2.1, show pcon (pPa (P c)) = nI (pPa (P c)) from if_neg (by omega)]
      by_cases hp : pPa (P c) = u
      · rw [if_pos hp] at hcs
        rw [if_pos (show nI (pPa (P c)) = nI u by rw [hp]), rd_nI (by omega) (by omega), ob, w1]
        by_cases hne : pFr (P c) < pTo (P c)
        · have hfp := fl_pos (tx := tx) (gh := gh) K R hpe hcT hne
          have hfcl := fl_le (tx := tx) (gh := gh) K R hcT
          have hkf := kid_first (tx := tx) (gh := gh) K R hpe (show 0 < c by omega) hcT
          rw [hp] at hkf
          have hnm := hne
          have hrc := R.2.2.2.1 c hcT
          have w2' := w2 hne
          rw [if_neg (show ¬ nI (FlN tx ts tl fc cs cl gh P T c) ≤ (0 : Int32) from nI_nle (by omega) (by omega)), rd_nI (by omega) (by omega), ob, q3]
          have fin : ∀ z gp : Nat, z = csum P (kdN tx ts tl fc cs cl gh P T) u c + (FlN tx ts tl fc cs cl gh P T c + gp) → gp = gpN tx ts fc gh P c → ∀ b', b' = (if csum P (kdN tx ts tl fc cs cl gh P T) u c = 0 then upd b u (b c) else upd b u (b u)) → (u + 1 ≤ c + 1 ∧ c + 1 ≤ T ∧ upd w u (nI z) u = nI (csum P (kdN tx ts tl fc cs cl gh P T) u (c + 1)) ∧ (0 < csum P (kdN tx ts tl fc cs cl gh P T) u (c + 1) → b' u = nI (bgN tx ts fc (pFr (P u)))) ∧ MW tx ts tl fc cs cl gh P T (u + 1) (upd w u (nI z), b', st, br)) := by
            intro z gp hz hgp b' hb'
            refine ⟨by omega, by omega, by rw [pk_us, hz, hgp, hcs, hkd], fun _ => ?_, fun v hv hvT => ?_⟩
            · rw [hb']
              by_cases z0 : csum P (kdN tx ts tl fc cs cl gh P T) u c = 0
              · rw [if_pos z0, pk_us, w2', hkf.mp z0]
              · rw [if_neg z0, pk_us, q4 (by omega)]
            · obtain ⟨v1, v2, v3, v4⟩ := q5 v hv hvT
              dsimp only at v1 v2 v3 v4 ⊢
              refine ⟨by rw [pk_un (by omega), v1], fun hx => ?_, v3, v4⟩
              rw [hb']
              split
              · rw [pk_un (by omega), v2 hx]
              · rw [pk_un (by omega), v2 hx]
          by_cases z0 : csum P (kdN tx ts tl fc cs cl gh P T) u c = 0
          · have hz := fin (csum P (kdN tx ts tl fc cs cl gh P T) u c + (FlN tx ts tl fc cs cl gh P T c + 0)) 0 rfl (by
              have : ¬ hg P c = true := fun x => (hg_spec.mp x).2.2 (by rw [hp]; exact hkf.mp z0)
              exact (if_neg this).symm) (upd b u (b c)) (by rw [if_pos z0])
            refine ⟨(c + 1, upd w u (nI (csum P (kdN tx ts tl fc cs cl gh P T) u c + (FlN tx ts tl fc cs cl gh P T c + 0))), upd b u (b c)), hz, by dsimp only; omega, ?_⟩
            rw [if_pos (show nI (csum P (kdN tx ts tl fc cs cl gh P T) u c) ≤ (0 : Int32) by rw [z0]; decide), rd_nI (f := b) (j := c) (by omega) (by omega)]
            simp only [ob]
            rw [if_pos (show nI (csum P (kdN tx ts tl fc cs cl gh P T) u c) = (0 : Int32) by rw [z0]; rfl), wrI_nI (by omega) (by omega), ob, if_pos trivial, show (0 : Int32) = nI 0 from rfl, nI_add, nI_add, wrI_nI (by omega) (by omega), ob, of1, nI_add]
          · have hgc : hg P c = true := hg_spec.mpr ⟨by omega, hne, fun x => z0 (hkf.mpr (by rw [x, hp]))⟩
            have hgp : gpN tx ts fc gh P c = fgN tx ts fc gh P c := if_pos hgc
            have hh : hntP gh P c < 4 := by
              unfold hntP
              split
              · omega
              · exact hgh _
            have hbl := bg_le (tx := tx) (fc := fc) K hch (t := pFr (P c)) (by omega)
            rw [if_neg (show ¬ nI (csum P (kdN tx ts tl fc cs cl gh P T) u c) ≤ (0 : Int32) from nI_nle (by omega) (by omega)), e_mhintOf C R hnr hln (by omega) hcT, rd_nI (f := b) (j := c) (by omega) (by omega), rd_nI (f := b) (j := u) (by omega) (by omega), w2']
            simp only [ob]
            rw [e_mdigit (show bgN tx ts fc (pFr (P c)) < 1000 by omega), bg_dig K (by omega)]
            simp only [ob]
            by_cases hf : hntP gh P c = 0 ∧ ¬ bwd tx ts fc (pFr (P c)) = true
            · have hg0 : fgN tx ts fc gh P c = 0 := if_pos hf
              have hz := fin (csum P (kdN tx ts tl fc cs cl gh P T) u c + (FlN tx ts tl fc cs cl gh P T c + 0)) 0 rfl (by omega) (upd b u (b u)) (by rw [if_neg z0])
              refine ⟨(c + 1, upd w u (nI (csum P (kdN tx ts tl fc cs cl gh P T) u c + (FlN tx ts tl fc cs cl gh P T c + 0))), upd b u (b u)), hz, by dsimp only; omega, ?_⟩
              rw [if_neg (show ¬ (0 : Int32) < nI (hntP gh P c) by rw [hf.1]; decide), if_neg hf.2, if_pos rfl, if_neg (show ¬ nI (csum P (kdN tx ts tl fc cs cl gh P T) u c) = (0 : Int32) from nI_ne0 (by omega) (by omega)), wrI_nI (by omega) (by omega), ob, if_pos trivial, show (0 : Int32) = nI 0 from rfl, nI_add, nI_add, wrI_nI (by omega) (by omega), ob, of1, nI_add]
            · have hg1 : fgN tx ts fc gh P c = 1 := if_neg hf
              have hz := fin (csum P (kdN tx ts tl fc cs cl gh P T) u c + (FlN tx ts tl fc cs cl gh P T c + 1)) 1 rfl (by omega) (upd b u (b u)) (by rw [if_neg z0])
              refine ⟨(c + 1, upd w u (nI (csum P (kdN tx ts tl fc cs cl gh P T) u c + (FlN tx ts tl fc cs cl gh P T c + 1))), upd b u (b u)), hz, by dsimp only; omega, ?_⟩
              have both : ∀ A B : Option ((Nat → Int32) × (Nat → Int32) × (Nat → Int32) × (Nat → Int32)), (if (0 : Int32) < nI (hntP gh P c) then A else if (if bwd tx ts fc (pFr (P c)) = true then (1 : Int32) else 0) = 0 then B else A) = A := by
                intro A B
                by_cases x : hntP gh P c = 0
                · have y : bwd tx ts fc (pFr (P c)) = true := by
                    cases hb : bwd tx ts fc (pFr (P c)) with
                    | true => rfl
                    | false => exact absurd ⟨x, by rw [hb]; decide⟩ hf
                  rw [if_neg (show ¬ (0 : Int32) < nI (hntP gh P c) by rw [x]; decide), if_pos y, if_neg (show ¬ (1 : Int32) = 0 by decide)]
                · rw [if_pos (show (0 : Int32) < nI (hntP gh P c) from (nI_ltI (a := 0) (by omega) (by omega)).mpr (by omega))]
              rw [both, if_neg (show ¬ nI (csum P (kdN tx ts tl fc cs cl gh P T) u c) = (0 : Int32) from nI_ne0 (by omega) (by omega)), wrI_nI (by omega) (by omega), ob, if_neg (show ¬ (1 : Int32) = 0 by decide), nI_1, nI_add, wrI_nI (by omega) (by omega), ob, of1, nI_add]
        · have hf0 := fl_0 (tx := tx) (ts := ts) (tl := tl) (fc := fc) (cs := cs) (cl := cl) (gh := gh) R hpe hcT (by omega)
          have hg0 : gpN tx ts fc gh P c = 0 := if_neg (fun x => hne (hg_spec.mp x).2.1)
          rw [if_pos (show nI (FlN tx ts tl fc cs cl gh P T c) ≤ (0 : Int32) by rw [hf0]; decide), of1, nI_add]
          exact ⟨(c + 1, w, b), ⟨by dsimp only; omega, by dsimp only; omega, by dsimp only; rw [q3, hcs, hkd, hf0, hg0]; rfl, fun x => q4 (by dsimp only at x; omega), q5⟩, by dsimp only; omega, rfl⟩
      · rw [if_neg hp] at hcs
        have hpT : pPa (P c) < T := by omega
        rw [if_neg (fun x => hp ((nI_eq (by omega) (by omega)).mp x)), of1, nI_add]
        exact ⟨(c + 1, w, b), ⟨by dsimp only; omega, by dsimp only; omega, by dsimp only; rw [q3, hcs]; rfl, fun x => q4 (by dsimp only at x; omega), q5⟩, by dsimp only; omega, rfl⟩
theorem e_m142l {M : A8} (C : MP D T P M) (R : TRF nr ln n e T P) {u : Nat} (hu : u < T) (h8 : pSy (P u) ≤ 8) {w b st br : Nat → Int32} {kk : (Int32) → (Nat → Int32) → (Nat → Int32) → (Nat → Int32) → (Nat → Int32) → Option ((Nat → Int32) × (Nat → Int32) × (Nat → Int32) × (Nat → Int32))} :
    lp_X6_measure_142 (nI T) (nA gh) mk (nA ts) (nA tl) (nA cl) (nA fc) M.1 M.2.1 M.2.2.1 M.2.2.2.1 M.2.2.2.2.1 M.2.2.2.2.2.1 kk FU (nI u) (nI (u + 1)) w b st br = kk (nI u) w b st br := by
  have hT := R.1.2.1
  have key := loopE (fun N (_ : Nat) => lp_X6_measure_142 (nI T) (nA gh) mk (nA ts) (nA tl) (nA cl) (nA fc) M.1 M.2.1 M.2.2.1 M.2.2.2.1 M.2.2.2.2.1 M.2.2.2.2.2.1 kk N (nI u) (nI (u + 1)) w b st br)
    (fun Q => Q = kk (nI u) w b st br) (fun _ => True) (fun _ => 0) ?_ FU 0 (FU_gt (by omega)) trivial
  · exact key
  · intro N _ _
    left
    simp only [lp_X6_measure_142]
    by_cases c : T ≤ u + 1
    · rw [if_pos ((nI_leI (by omega) (by omega)).mpr c)]
    · rw [if_neg (fun x => c ((nI_leI (by omega) (by omega)).mp x)), rd_nI (by omega) (by omega), ob, (C u hu).2.1, if_pos (show nI (pSy (P u)) ≤ (8 : Int32) from (nI_leI (b := 8) (by omega) (by omega)).mpr h8)]
theorem MW.up {u : Nat} {w b st br w' b' st' br' : Nat → Int32} (h : MW tx ts tl fc cs cl gh P T (u + 1) (w, b, st, br)) (h1 : ∀ v, v ≠ u → w' v = w v ∧ b' v = b v ∧ st' v = st v ∧ br' v = br v) : MW tx ts tl fc cs cl gh P T (u + 1) (w', b', st', br') := by
  intro v hv hvT
  obtain ⟨a1, a2, a3, a4⟩ := h1 v (by omega)
  obtain ⟨b1, b2, b3, b4⟩ := h v hv hvT
  dsimp only at b1 b2 b3 b4 ⊢
  exact ⟨by rw [a1, b1], fun x => by rw [a2, b2 x], by rw [a3, b3], by rw [a4, b4]⟩
theorem e_mmeasure (K : TOK len n ts tl tg fc cs cl) (hch : ∀ i, i < len → tx i ≤ 126) (hmk : txtR len tx mk) {M : A8} (C : MP D T P M) (R : TRF nr ln n e T P) (hpe : posA T P = e) (hnr : nr ≤ 20) (hln : ∀ r, r < nr → ln r ≤ 5) (hgh : ∀ x, gh x < 4) {wd0 bg0 st0 br0 : Nat → Int32} :
    ∃ q, MW tx ts tl fc cs cl gh P T 0 q ∧ f_X6_measure (nI T) (nA gh) mk (nA ts) (nA tl) (nA cl) (nA fc) M.1 M.2.1 M.2.2.1 M.2.2.2.1 M.2.2.2.2.1 M.2.2.2.2.2.1 wd0 bg0 st0 br0 = some q := by
  have hT := R.1.2.1
  have hT0 := R.1.1
  have hn := R.1.2.2.2
  have hl := K.1
  unfold f_X6_measure
  simp only [nm]
  have key := loopE (fun N (q : Nat × (Nat → Int32) × (Nat → Int32) × (Nat → Int32) × (Nat → Int32)) => lp_X6_measure_7 (nI T) (nA gh) mk (nA ts) (nA tl) (nA cl) (nA fc) M.1 M.2.1 M.2.2.1 M.2.2.2.1 M.2.2.2.2.1 M.2.2.2.2.2.1 (fun m_wide m_begins m_started m_broken => some (m_wide, m_begins, m_started, m_broken)) N (dn q.1) q.2.1 q.2.2.1 q.2.2.2.1 q.2.2.2.2)
    (fun Q => ∃ q, MW tx ts tl fc cs cl gh P T 0 q ∧ Q = some q)
    (fun q => q.1 ≤ T ∧ MW tx ts tl fc cs cl gh P T q.1 q.2) (fun q => q.1) ?_ FU (T, wd0, bg0, st0, br0) (FU_gt (by dsimp only; omega)) ⟨Nat.le_refl _, fun u h1 h2 => absurd h2 (by dsimp only at h1; omega)⟩
  · exact key
  · rintro N ⟨j, w, b, st, br⟩ ⟨q1, q2⟩
    dsimp only at q1 q2 ⊢
    simp only [lp_X6_measure_7, jn_X6_measure_138, jn_X6_measure_276, jn_X6_measure_94, jn_X6_measure_120, nm]
    cases j with
    | zero =>
      left
      rw [if_pos (show dn 0 < 0 by decide)]
      exact ⟨_, q2, rfl⟩
    | succ u =>
      right
      have hu : u < T := by omega
      have hr := R.2.2.2.1 u hu
      obtain ⟨c0, c1, c2, c3, c4, c5, c6, c7⟩ := C u hu
      rw [dn_s, if_neg (nI_pos (by omega)), wrI_nI (by omega) (by omega), wrI_nI (by omega) (by omega), wrI_nI (by omega) (by omega), wrI_nI (by omega) (by omega), rd_nI (f := M.2.1) (by omega) (by omega), rd_nI (f := M.2.2.2.2.2.1) (by omega) (by omega), rd_nI (f := M.2.2.2.2.1) (by omega) (by omega), c1, c4, c5]
      simp only [ob]
      rw [show vp_nar .boolean 0 = (0 : Int32) from rfl, nI_1, rd_nI (by omega) (by omega), rd_nI (by omega) (by omega)]
      simp only [ob]
      by_cases h9 : 9 ≤ pSy (P u)
      · rw [if_pos (show (9 : Int32) ≤ nI (pSy (P u)) from (nI_leI (a := 9) (by omega) (by omega)).mpr h9)]
        obtain ⟨w', b', z1, z2⟩ := e_m142 (mk := mk) K hch C R hpe hnr hln hgh hu h9 (wd0 := upd w u 0) (bg0 := upd b u (-1)) (st := upd st u 0) (br := upd br u 0) (kk := fun x1 m_wide m_begins m_started m_broken => lp_X6_measure_7 (nI T) (nA gh) mk (nA ts) (nA tl) (nA cl) (nA fc) M.1 M.2.1 M.2.2.1 M.2.2.2.1 M.2.2.2.2.1 M.2.2.2.2.2.1 (fun m_wide m_begins m_started m_broken => some (m_wide, m_begins, m_started, m_broken)) N (x1 + Int32.ofInt (-1)) m_wide m_begins m_started m_broken) (pk_us) (pk_us) (pk_us) (MW.up q2 (fun v hv => ⟨pk_un hv, pk_un hv, pk_un hv, pk_un hv⟩))
        refine ⟨(u, w', b', upd st u 0, upd br u 0), ⟨by dsimp only; omega, z1⟩, by dsimp only; omega, ?_⟩
        rw [z2, dn_next]
      · have h8 : pSy (P u) ≤ 8 := by omega
        rw [if_neg (show ¬ (9 : Int32) ≤ nI (pSy (P u)) from fun x => h9 ((nI_leI (a := 9) (by omega) (by omega)).mp x))]
        simp only [e_m142l C R hu h8]
        rw [dn_next]
        by_cases hne : pFr (P u) < pTo (P u)
        · have hf40 := fc_le K (show pFr (P u) + 1 ≤ n + 1 by omega)
          have hfe := fc_end K (show pFr (P u) + 1 ≤ n + 1 by omega)
          have hle := K.2.2.2.2.1 (pFr (P u)) (by omega)
          have htk := K.2.2.1 (pFr (P u)) (by omega)
          have hwd := e_mwidth (tx := tx) K (a := pFr (P u)) (d := pTo (P u) - pFr (P u)) (by omega)
          rw [show pFr (P u) + (pTo (P u) - pFr (P u)) = pTo (P u) by omega] at hwd
          have hlw : FlN tx ts tl fc cs cl gh P T u = (tkS tx ts tl fc cs cl (pFr (P u)) (pTo (P u) - pFr (P u))).length := if_pos h8
          have uu : ∀ {f : Nat → Int32} {x y : Int32}, upd (upd f u x) u y = upd f u y := by
            intro f x y
            funext v
            by_cases c : v = u
            · rw [c, pk_us, pk_us]
            · rw [pk_un c, pk_un c, pk_un c]
          refine ⟨(u, upd w u (nI (FlN tx ts tl fc cs cl gh P T u)), upd b u (nI (bgN tx ts fc (pFr (P u)))), upd st u 0, upd br u 0), ⟨by dsimp only; omega, fun v hv hvT => ?_⟩, by dsimp only; omega, ?_⟩
          · by_cases ev : v = u
            · rw [ev]; exact ⟨pk_us, fun _ => pk_us, pk_us, pk_us⟩
            · exact MW.up q2 (fun v hv => ⟨pk_un hv, pk_un hv, pk_un hv, pk_un hv⟩) v (by dsimp only at hv; omega) hvT
          · rw [if_neg (show ¬ nI (pTo (P u)) ≤ nI (pFr (P u)) from fun x => by have := (nI_leI (by omega) (by omega)).mp x; omega), hwd, hlw]
            simp only [ob]
            rw [nI_1, rd_nA (by omega) (by omega), ob]
            show (if nI (fc (pFr (P u) + 1)) ≤ nI (fc (pFr (P u))) then _ else _) = _
            unfold bgN
            by_cases hfc : fc (pFr (P u)) < fc (pFr (P u) + 1)
            · rw [if_neg (show ¬ nI (fc (pFr (P u) + 1)) ≤ nI (fc (pFr (P u))) from fun x => by have := (nI_leI (by omega) (by omega)).mp x; omega), if_neg (show ¬ (1 : Int32) = 0 by decide), wrI_nI (by omega) (by omega), ob, wrI_nI (by omega) (by omega), ob, uu, uu, if_pos hfc]
              rfl
            · rw [if_pos (show nI (fc (pFr (P u) + 1)) ≤ nI (fc (pFr (P u))) from (nI_leI (by omega) (by omega)).mpr (by omega)), if_pos trivial, show nA ts (pFr (P u)) = nI (ts (pFr (P u))) from rfl, rd_nI (by omega) (by omega), ob, hmk _ (by omega), wrI_nI (by omega) (by omega), ob, wrI_nI (by omega) (by omega), ob, uu, uu, if_neg hfc]
        · have hlw := fl_0 (tx := tx) (ts := ts) (tl := tl) (fc := fc) (cs := cs) (cl := cl) (gh := gh) R hpe hu (by omega)
          refine ⟨(u, upd w u 0, upd b u (-1), upd st u 0, upd br u 0), ⟨by dsimp only; omega, fun v hv hvT => ?_⟩, by dsimp only; omega, ?_⟩
          · by_cases ev : v = u
            · rw [ev]
              exact ⟨by dsimp only; rw [pk_us, hlw]; rfl, fun x => absurd x hne, pk_us, pk_us⟩
            · exact MW.up q2 (fun v hv => ⟨pk_un hv, pk_un hv, pk_un hv, pk_un hv⟩) v (by dsimp only at hv; omega) hvT
          · rw [if_pos ((nI_leI (by omega) (by omega)).mpr (by omega))]
end MMEAS2
