/-! the reference's start, and print -/
section MSTART
variable {tx : Nat → Nat} {len : Nat} {mk : Nat → Int32} {n : Nat} {ts tl tg fc cs cl : Nat → Nat} {nr : Nat} {ln gh : Nat → Nat} {e T wd : Nat} {P : Nat → PE} {D : Nat → Nat → Nat → Nat} {gi : Nat → Int32} {S : Nat → LYS}
theorem e_m85 (R : TRF nr ln n e T P) {M : A8} (C : MP D T P M) {x0 t k : Nat} (hx : PX P x0 t) (ht : t < T) (hne : pFr (P t) < pTo (P t)) (hk0 : x0 ≤ k) (hk : k < t) (hkn : pFr (P k) < pTo (P k)) {c x2 x3 : Int32} {wi st br : Nat → Int32} {kk : (Int32) → (Int32) → (Int32) → (Nat → Int32) → (Nat → Int32) → Option ((Nat → Int32) × (Nat → Int32))} :
    ∃ k', k < k' ∧ k' ≤ t ∧ pFr (P k') < pTo (P k') ∧ pPa (P k') = k ∧ lp_X6_start_85 c M.2.2.1 wi kk FU x2 x3 (nI k) (nI t) st br = kk x2 x3 (nI k') st br := by
  have hT := R.1.2.1
  have key := loopE (fun N v => lp_X6_start_85 c M.2.2.1 wi kk N x2 x3 (nI k) (nI v) st br)
    (fun Q => ∃ k', k < k' ∧ k' ≤ t ∧ pFr (P k') < pTo (P k') ∧ pPa (P k') = k ∧ Q = kk x2 x3 (nI k') st br) (fun v => k < v ∧ v ≤ t ∧ pFr (P v) < pTo (P v)) (fun v => v) ?_ FU t (FU_gt (by omega)) ⟨hk, Nat.le_refl _, hne⟩
  · exact key
  · rintro N v ⟨h1, h2, h3⟩
    simp only [lp_X6_start_85, nm]
    have a1 := frx R hx ht (show x0 ≤ v by omega) h2
    have a2 := frx R hx ht hk0 (by omega)
    have a3 := same_sub R h1 (by omega) hkn (by omega)
    have a4 := pa_sub R h1 (by omega) a3.1
    rw [rd_nI (by omega) (by omega), ob, ob, (C v (by omega)).2.2.1, show pcon (pPa (P v)) = nI (pPa (P v)) from if_neg a4.2.2]
    by_cases c1 : pPa (P v) = k
    · left
      rw [if_pos (by rw [c1])]
      exact ⟨v, h1, h2, h3, c1, rfl⟩
    · right
      rw [if_neg (fun x => c1 ((nI_eq (by omega) (by omega)).mp x))]
      exact ⟨pPa (P v), ⟨by omega, by omega, (pa_nde R (by omega) (by omega) h3).2⟩, a4.2.1, rfl⟩
theorem e_mstart (K : TOK len n ts tl tg fc cs cl) {M : A8} (C : MP D T P M) (R : TRF nr ln n e T P) (hwd : wd ≤ 100) (hS : ∀ x, S (x + 1) = lst tx ts tl fc cs cl gh (insF gi) P T wd x (S x)) (hL : ∀ x, x ≤ T → LI tx ts tl fc cs cl gh P T wd x (S x)) {x0 t k0 : Nat} (hx : PX P x0 t) (ht : t < T) (hne : pFr (P t) < pTo (P t)) (h8 : pSy (P t) ≤ 8) (hk0 : x0 ≤ k0) (hkt : k0 ≤ t) (hkn : pFr (P k0) < pTo (P k0)) {st br wi : Nat → Int32} (hst : ST P T k0 (S k0) st br) (hwi : ∀ u, u < T → wi u = nI (FlN tx ts tl fc cs cl gh P T u)) {G : List Nat × Nat} (hG : gapL tx ts fc gh P k0 (S k0) = G) (hGl : G.2 ≤ 10000) :
    ∃ st' br', ST P T t (S t) st' br' ∧ gapL tx ts fc gh P t (S t) = G ∧ f_X6_start (nI k0) (nI t) (nI wd) (nI G.2) M.2.2.1 wi st br = some (st', br') := by
  have hT := R.1.2.1
  unfold f_X6_start
  simp only [nm]
  have key := loopE (fun N (z : Nat × (Nat → Int32) × (Nat → Int32)) => lp_X6_start_3 (nI G.2) M.2.2.1 wi (fun m_started m_broken => some (m_started, m_broken)) N (nI t) (nI wd) (nI z.1) z.2.1 z.2.2)
    (fun Q => ∃ st' br', ST P T t (S t) st' br' ∧ gapL tx ts fc gh P t (S t) = G ∧ Q = some (st', br')) (fun z => x0 ≤ z.1 ∧ z.1 ≤ t ∧ pFr (P z.1) < pTo (P z.1) ∧ ST P T z.1 (S z.1) z.2.1 z.2.2 ∧ gapL tx ts fc gh P z.1 (S z.1) = G) (fun z => t - z.1) ?_ FU (k0, st, br) (FU_gt (by dsimp only; omega)) ⟨hk0, hkt, hkn, hst, hG⟩
  · exact key
  · rintro N ⟨k, sk, bk⟩ ⟨h1, h2, h3, h4, h5⟩
    dsimp only at h1 h2 h3 h4 h5 ⊢
    simp only [lp_X6_start_3, jn_X6_start_34, jn_X6_start_39, jn_X6_start_80, jn_X6_start_81, nm]
    by_cases ek : k = t
    · left
      rw [ek] at h4 h5
      rw [if_pos (by rw [ek])]
      exact ⟨sk, bk, h4, h5, rfl⟩
    · right
      have hkt' : k < t := by omega
      have a1 := frx R hx ht h1 h2
      have hss := same_sub R hkt' ht h3 (by omega)
      have hnk : nde P k := ⟨hss.2, h3⟩
      have hfl := fl_le (tx := tx) (gh := gh) K R (show k < T by omega)
      have hSk : S (k + 1) = _ := (hS k).trans (lst_n hnk)
      rw [h5] at hSk
      -- whatever is stored is what the layout says
      have fin : ∀ b : Bool, b = brkF tx ts tl fc cs cl gh P T wd k G.2 → ∃ s' : Nat × (Nat → Int32) × (Nat → Int32), (x0 ≤ s'.1 ∧ s'.1 ≤ t ∧ pFr (P s'.1) < pTo (P s'.1) ∧ ST P T s'.1 (S s'.1) s'.2.1 s'.2.2 ∧ gapL tx ts fc gh P s'.1 (S s'.1) = G) ∧ t - s'.1 < t - k ∧ lp_X6_start_85 (nI G.2) M.2.2.1 wi (fun x2 x3 x6 m_started m_broken => lp_X6_start_3 (nI G.2) M.2.2.1 wi (fun m_started m_broken => some (m_started, m_broken)) N x2 x3 x6 m_started m_broken) FU (nI t) (nI wd) (nI k) (nI t) (upd sk k 1) (upd bk k (bI b)) = lp_X6_start_3 (nI G.2) M.2.2.1 wi (fun m_started m_broken => some (m_started, m_broken)) N (nI t) (nI wd) (nI s'.1) s'.2.1 s'.2.2 := by
        intro b hb
        obtain ⟨k', m1, m2, m3, m4, m5⟩ := e_m85 R C hx ht hne h1 hkt' h3 (c := nI G.2) (x2 := nI t) (x3 := nI wd) (wi := wi) (st := upd sk k 1) (br := upd bk k (bI b)) (kk := fun x2 x3 x6 m_started m_broken => lp_X6_start_3 (nI G.2) M.2.2.1 wi (fun m_started m_broken => some (m_started, m_broken)) N x2 x3 x6 m_started m_broken)
        have hem := top_empty R hx ht m2 (a := k + 1) (by omega) (Or.inr (by omega))
        have hSS : S k' = S (k + 1) := S_to hS (by omega) hem
        have hng := hg_hi R hx ht m2 (by omega) (by omega)
        refine ⟨(k', upd sk k 1, upd bk k (bI b)), ⟨by dsimp only; omega, m2, m3, ?_, ?_⟩, by dsimp only; omega, m5⟩
        · intro u hu hun
          dsimp only
          by_cases eu : u = k
          · refine ⟨fun _ => ?_, fun c => by omega⟩
            rw [eu, pk_us, pk_us, hSS, hSk]
            dsimp only
            rw [updB_s, hb]
            exact ⟨rfl, rfl⟩
          · rw [pk_un eu, pk_un eu]
            refine ⟨fun c => ?_, fun c => (h4 u hu hun).2 (by omega)⟩
            have hlt : u < k := by
              rcases Nat.lt_or_ge u k with x | x
              · exact x
              · have := hem u (by omega) c
                have := hun.2
                omega
            have := (h4 u hu hun).1 hlt
            rw [hSS, hSk]
            dsimp only
            rw [updB_n eu]
            exact this
        · have hgp : gapL tx ts fc gh P k' (S k') = ((S k').1, (S k').2.1) := if_neg hng
          dsimp only
          rw [hgp, hSS, hSk]
      have hbrk : brkF tx ts tl fc cs cl gh P T wd k G.2 = decide (wd < FlN tx ts tl fc cs cl gh P T k + G.2) := rfl
      rw [if_neg (fun x => ek ((nI_eq (by omega) (by omega)).mp x)), rd_nI (by omega) (by omega), (C k (by omega)).2.2.1, rd_nI (f := wi) (by omega) (by omega), hwi k (by omega), wrI_nI (by omega) (by omega), wrI_nI (by omega) (by omega), wrI_nI (by omega) (by omega)]
      simp only [ob]
      rw [show vp_nar .boolean 0 = bI false from rfl, show vp_nar .boolean 1 = bI true from rfl, show upd sk k (bI true) = upd sk k 1 from rfl]
      -- may it be broken?
      have yes : (∃ s' : Nat × (Nat → Int32) × (Nat → Int32), (x0 ≤ s'.1 ∧ s'.1 ≤ t ∧ pFr (P s'.1) < pTo (P s'.1) ∧ ST P T s'.1 (S s'.1) s'.2.1 s'.2.2 ∧ gapL tx ts fc gh P s'.1 (S s'.1) = G) ∧ t - s'.1 < t - k ∧ (if nI (FlN tx ts tl fc cs cl gh P T k) ≤ nI wd - nI G.2 then lp_X6_start_85 (nI G.2) M.2.2.1 wi (fun x2 x3 x6 m_started m_broken => lp_X6_start_3 (nI G.2) M.2.2.1 wi (fun m_started m_broken => some (m_started, m_broken)) N x2 x3 x6 m_started m_broken) FU (nI t) (nI wd) (nI k) (nI t) (upd sk k 1) (upd bk k (bI false)) else lp_X6_start_85 (nI G.2) M.2.2.1 wi (fun x2 x3 x6 m_started m_broken => lp_X6_start_3 (nI G.2) M.2.2.1 wi (fun m_started m_broken => some (m_started, m_broken)) N x2 x3 x6 m_started m_broken) FU (nI t) (nI wd) (nI k) (nI t) (upd sk k 1) (upd bk k (bI true))) = lp_X6_start_3 (nI G.2) M.2.2.1 wi (fun m_started m_broken => some (m_started, m_broken)) N (nI t) (nI wd) (nI s'.1) s'.2.1 s'.2.2) := by
        by_cases hw : FlN tx ts tl fc cs cl gh P T k + G.2 ≤ wd
        · rw [if_pos ((le_sub_iff (by omega) (by omega) (by omega)).mpr hw)]
          exact fin false (by rw [hbrk, decide_eq_false (by omega)])
        · rw [if_neg (fun x => hw ((le_sub_iff (by omega) (by omega) (by omega)).mp x))]
          exact fin true (by rw [hbrk, decide_eq_true (by omega)])
      by_cases hp : pPa (P k) = 999
      · rw [show pcon (pPa (P k)) = -1 from if_pos hp, if_pos (show (-1 : Int32) < 0 by decide), if_neg (show ¬ (1 : Int32) = 0 by decide)]
        exact yes
      · have kp : 0 < k := by
          rcases Nat.eq_zero_or_pos k with z | z
          · rw [z] at hp; exact absurd R.2.1.2.2.1 hp
          · exact z
        have p1 := (R.2.2.1 k kp (by omega)).1
        have p2 := pa_nde R kp (by omega) h3
        have p3 := ((h4 (pPa (P k)) (by omega) p2).1 p1).2
        rw [show pcon (pPa (P k)) = nI (pPa (P k)) from if_neg hp, if_neg (nI_pos (by omega)), rd_nI (by omega) (by omega), ob, p3]
        cases hb : (S k).2.2.1 (pPa (P k)) with
        | true =>
          rw [if_neg (show ¬ bI true = 0 by decide), if_neg (show ¬ (1 : Int32) = 0 by decide)]
          exact yes
        | false =>
          rw [if_pos (show bI false = 0 by decide)]
          refine fin false ?_
          have h6 := (hL (k + 1) (by omega)).2.2.2.2 k (by omega) hnk
          rw [S_brk hS (show pPa (P k) ≠ k by omega), hb, hSk] at h6
          dsimp only at h6
          rw [updB_s] at h6
          cases hc : brkF tx ts tl fc cs cl gh P T wd k G.2 with
          | false => rfl
          | true =>
            rcases h6 hc with c | c
            · exact absurd c hp
            · cases c
end MSTART
