/-! the reference's joint, between and start -/
def PX (P : Nat → PE) (x0 t : Nat) : Prop := x0 ≤ t ∧ posA t P = posA x0 P ∧ (x0 = 0 ∨ (0 < x0 ∧ pSy (P (x0 - 1)) ≤ 8 ∧ pFr (P (x0 - 1)) < pTo (P (x0 - 1))))
def ST (P : Nat → PE) (T x : Nat) (s : LYS) (st br : Nat → Int32) : Prop := ∀ u, u < T → nde P u → (u < x → st u = 1 ∧ br u = bI (s.2.2.1 u)) ∧ (x ≤ u → st u = 0)
section MLAY
variable {tx : Nat → Nat} {len : Nat} {mk : Nat → Int32} {n : Nat} {ts tl tg fc cs cl : Nat → Nat} {nr : Nat} {ln gh : Nat → Nat} {e T wd : Nat} {P : Nat → PE} {D : Nat → Nat → Nat → Nat} {gi : Nat → Int32} {S : Nat → LYS}
theorem lst_e {ins : Nat → Bool} {x : Nat} {s : LYS} (h : pTo (P x) ≤ pFr (P x)) : lst tx ts tl fc cs cl gh ins P T wd x s = s := if_pos h
theorem lst_n {ins : Nat → Bool} {x : Nat} {s : LYS} (h : nde P x) : lst tx ts tl fc cs cl gh ins P T wd x s = ((gapL tx ts fc gh P x s).1, (gapL tx ts fc gh P x s).2, updB s.2.2.1 x (brkF tx ts tl fc cs cl gh P T wd x (gapL tx ts fc gh P x s).2), updN s.2.2.2 x (indF ins P x (brkF tx ts tl fc cs cl gh P T wd x (gapL tx ts fc gh P x s).2) s.2.2.2)) := by
  unfold lst
  rw [if_neg (by have := h.2; omega), if_neg (by have := h.1; omega)]
theorem lst_l {ins : Nat → Bool} {x : Nat} {s : LYS} (h : pSy (P x) ≤ 8) (h2 : pFr (P x) < pTo (P x)) : lst tx ts tl fc cs cl gh ins P T wd x s = ((gapL tx ts fc gh P x s).1 ++ tkS tx ts tl fc cs cl (pFr (P x)) (pTo (P x) - pFr (P x)), (gapL tx ts fc gh P x s).2 + lw tx ts tl fc cs cl P x, s.2.2.1, s.2.2.2) := by
  unfold lst
  rw [if_neg (by omega), if_pos h]
theorem S_skip (hS : ∀ x, S (x + 1) = lst tx ts tl fc cs cl gh (insF gi) P T wd x (S x)) {a : Nat} : ∀ d, (∀ v, a ≤ v → v < a + d → pTo (P v) ≤ pFr (P v)) → S (a + d) = S a := by
  intro d
  induction d with
  | zero => intro _; rfl
  | succ d ih =>
    intro h
    rw [show a + (d + 1) = a + d + 1 by omega, hS, lst_e (h (a + d) (by omega) (by omega)), ih (fun v h1 h2 => h v h1 (by omega))]
theorem S_to (hS : ∀ x, S (x + 1) = lst tx ts tl fc cs cl gh (insF gi) P T wd x (S x)) {a b : Nat} (hab : a ≤ b) (h : ∀ v, a ≤ v → v < b → pTo (P v) ≤ pFr (P v)) : S b = S a := by
  have := S_skip hS (a := a) (b - a) (fun v h1 h2 => h v h1 (by omega))
  rwa [show a + (b - a) = b by omega] at this
theorem S_brk (hS : ∀ x, S (x + 1) = lst tx ts tl fc cs cl gh (insF gi) P T wd x (S x)) {x u : Nat} (hu : u ≠ x) : (S (x + 1)).2.2.1 u = (S x).2.2.1 u := by
  rw [hS]
  unfold lst
  split
  · rfl
  · split
    · rfl
    · dsimp only; rw [updB_n hu]
/-- the indents, by the parts above -/
theorem S_ind (R : TRF nr ln n e T P) (hS : ∀ x, S (x + 1) = lst tx ts tl fc cs cl gh (insF gi) P T wd x (S x)) : ∀ x, x ≤ T → ∀ u, u < x → nde P u → (S x).2.2.2 u = indF (insF gi) P u ((S x).2.2.1 u) (S x).2.2.2 := by
  intro x
  induction x with
  | zero => intro _ u hu; omega
  | succ x ih =>
    intro hx u hu hn
    have hpu : pPa (P u) = 999 ∨ pPa (P u) < u := by
      rcases Nat.eq_zero_or_pos u with z | z
      · left; rw [z]; exact R.2.1.2.2.1
      · right; exact (R.2.2.1 u z (by omega)).1
    have hT := R.1.2.1
    rw [hS]
    by_cases hem : pTo (P x) ≤ pFr (P x)
    · rw [lst_e hem]
      by_cases eu : u = x
      · rw [eu] at hn; have := hn.2; omega
      · exact ih (by omega) u (by omega) hn
    · by_cases h8 : pSy (P x) ≤ 8
      · rw [lst_l h8 (by omega)]
        by_cases eu : u = x
        · rw [eu] at hn; have := hn.1; omega
        · exact ih (by omega) u (by omega) hn
      · rw [lst_n ⟨by omega, by omega⟩]
        dsimp only
        by_cases eu : u = x
        · rw [eu] at hpu
          rw [eu, updN_s, updB_s]
          unfold indF
          rw [updN_n (by omega)]
        · rw [updN_n eu, updB_n eu, ih (by omega) u (by omega) hn]
          unfold indF
          rw [updN_n (by omega)]
theorem frx (R : TRF nr ln n e T P) {x0 t v : Nat} (hx : PX P x0 t) (ht : t < T) (h1 : x0 ≤ v) (h2 : v ≤ t) : pFr (P v) = pFr (P t) := by
  rw [(pos_s R (show v < T by omega)).1, (pos_s R ht).1]
  have a1 := pos_le R h1 (show v ≤ T by omega)
  have a2 := pos_le R h2 (by omega)
  have := hx.2.1
  omega
theorem hg_low (R : TRF nr ln n e T P) {x0 t v : Nat} (hx : PX P x0 t) (ht : t < T) (h1 : x0 ≤ v) (h2 : v ≤ t) (hne : pFr (P v) < pTo (P v)) (hp : pPa (P v) < x0) : hg P v = true := by
  have hT := R.1.2.1
  refine hg_spec.mpr ⟨by omega, hne, ?_⟩
  rcases hx.2.2 with c | ⟨c1, c2, c3⟩
  · omega
  · have a1 := fr_le R (show pPa (P v) ≤ x0 - 1 by omega) (by omega)
    have a2 := (pos_s R (show x0 - 1 < T by omega)).2
    rw [if_pos c2, show x0 - 1 + 1 = x0 by omega] at a2
    have a3 := (pos_s R (show v < T by omega)).1
    have a4 := pos_le R h1 (show v ≤ T by omega)
    omega
theorem hg_hi (R : TRF nr ln n e T P) {x0 t v : Nat} (hx : PX P x0 t) (ht : t < T) (h2 : v ≤ t) (h0 : x0 ≤ pPa (P v)) (h3 : pPa (P v) ≤ v) : ¬ hg P v = true := by
  intro c
  have := (hg_spec.mp c).2.2
  have a1 := frx R hx ht h0 (by omega)
  have a2 := frx R hx ht (show x0 ≤ v by omega) h2
  omega
theorem top_empty (R : TRF nr ln n e T P) {x0 t k : Nat} (hx : PX P x0 t) (ht : t < T) (hk : k ≤ t) {a : Nat} (ha : x0 ≤ a) (hp : pPa (P k) = 999 ∨ pPa (P k) < a) : ∀ v, a ≤ v → v < k → pTo (P v) ≤ pFr (P v) := by
  intro v h1 h2
  rcases Nat.lt_or_ge (pFr (P v)) (pTo (P v)) with c | c
  · exfalso
    have a1 := frx R hx ht (show x0 ≤ v by omega) (by omega)
    have a2 := frx R hx ht (show x0 ≤ k by omega) hk
    have a3 := same_sub R h2 (by omega) c (by omega)
    have a4 := pa_sub R h2 (by omega) a3.1
    omega
  · exact c
theorem e_joint (R : TRF nr ln n e T P) {M : A8} (C : MP D T P M) {x0 t : Nat} (hx : PX P x0 t) (ht : t < T) (hne : pFr (P t) < pTo (P t)) {st br : Nat → Int32} {s : LYS} (hst : ST P T x0 s st br) :
    ∃ k, x0 ≤ k ∧ k ≤ t ∧ pFr (P k) < pTo (P k) ∧ (pPa (P k) = 999 ∨ pPa (P k) < x0) ∧ f_X6_joint (nI t) M.2.2.1 st = some (nI k) := by
  have hT := R.1.2.1
  unfold f_X6_joint jn_X6_joint_35
  simp only [nm]
  have key := loopE (fun N v => lp_X6_joint_2 M.2.2.1 st (fun x2 => some x2) N (nI v))
    (fun Q => ∃ k, x0 ≤ k ∧ k ≤ t ∧ pFr (P k) < pTo (P k) ∧ (pPa (P k) = 999 ∨ pPa (P k) < x0) ∧ Q = some (nI k)) (fun v => x0 ≤ v ∧ v ≤ t ∧ pFr (P v) < pTo (P v)) (fun v => v) ?_ FU t (FU_gt (by omega)) ⟨hx.1, Nat.le_refl _, hne⟩
  · exact key
  · rintro N v ⟨h1, h2, h3⟩
    simp only [lp_X6_joint_2, nm]
    rw [rd_nI (by omega) (by omega), ob, ob, (C v (by omega)).2.2.1]
    by_cases hp : pPa (P v) = 999
    · left
      rw [show pcon (pPa (P v)) = -1 from if_pos hp, if_pos (show (-1 : Int32) < 0 by decide)]
      exact ⟨v, h1, h2, h3, Or.inl hp, rfl⟩
    · have v0 : 0 < v := by
        rcases Nat.eq_zero_or_pos v with z | z
        · rw [z] at hp; exact absurd R.2.1.2.2.1 hp
        · exact z
      have a1 := (R.2.2.1 v v0 (by omega)).1
      have hn := pa_nde R v0 (by omega) h3
      have hs := hst (pPa (P v)) (by omega) hn
      rw [show pcon (pPa (P v)) = nI (pPa (P v)) from if_neg hp, if_neg (nI_pos (by omega)), rd_nI (by omega) (by omega), ob]
      by_cases hc : pPa (P v) < x0
      · left
        rw [(hs.1 hc).1, if_neg (show ¬ (1 : Int32) = 0 by decide)]
        exact ⟨v, h1, h2, h3, Or.inr hc, rfl⟩
      · right
        rw [hs.2 (by omega), if_pos rfl, ob]
        exact ⟨pPa (P v), ⟨by omega, by omega, hn.2⟩, a1, rfl⟩
theorem e_between (K : TOK len n ts tl tg fc cs cl) (hch : ∀ i, i < len → tx i ≤ 126) {M : A8} (C : MP D T P M) (R : TRF nr ln n e T P) (hnr : nr ≤ 20) (hln : ∀ r, r < nr → ln r ≤ 5) (hgh : ∀ x, gh x < 4) (hS : ∀ x, S (x + 1) = lst tx ts tl fc cs cl gh (insF gi) P T wd x (S x)) (hL : ∀ x, x ≤ T → LI tx ts tl fc cs cl gh P T wd x (S x)) {k : Nat} (hk : k < T) (hne : pFr (P k) < pTo (P k)) (hpa : pPa (P k) ≠ 999 → hg P k = true) {st br bg sh : Nat → Int32} (hst : ST P T k (S k) st br) (hbg : bg k = nI (bgN tx ts fc (pFr (P k)))) (hp : pgR (S k).1 sh) :
    MR (gapL tx ts fc gh P k (S k)).1 (gapL tx ts fc gh P k (S k)).2 (f_X6_between (nI k) (nA gh) gi M.1 M.2.2.1 M.2.2.2.1 bg br (nI (S k).2.1) (nI (S k).1.length) sh) := by
  have hT := R.1.2.1
  have hn := R.1.2.2.2
  have hr := R.2.2.2.1 k hk
  have hgl := gap_len R (hL k (by omega)) hk
  have hcn := cnt_le R (show k + 1 ≤ T by omega)
  have hpo := (pos_s R hk).1
  have htw := tkW_le K (a := 0) (d := posA k P) (by omega)
  unfold f_X6_between jn_X6_between_128 jn_X6_between_144 jn_X6_between_150
  simp only [nm]
  rw [rd_nI (by omega) (by omega), ob, (C k hk).2.2.1]
  by_cases hpk : pPa (P k) = 999
  · have hng : ¬ hg P k = true := fun c => (hg_spec.mp c).1 hpk
    rw [show pcon (pPa (P k)) = -1 from if_pos hpk, if_neg (show ¬ (0 : Int32) ≤ -1 by decide)]
    have hgp : gapL tx ts fc gh P k (S k) = ((S k).1, (S k).2.1) := if_neg hng
    rw [hgp]
    exact ⟨sh, hp, rfl⟩
  · have hgk := hpa hpk
    have k0 : 0 < k := by
      rcases Nat.eq_zero_or_pos k with z | z
      · rw [z] at hpk; exact absurd R.2.1.2.2.1 hpk
      · exact z
    have a1 := (R.2.2.1 k k0 hk).1
    have hnd := pa_nde R k0 hk hne
    have hs := (hst (pPa (P k)) (by omega) hnd).1 a1
    have hh : hntP gh P k < 4 := by
      unfold hntP
      split
      · omega
      · exact hgh _
    rw [show pcon (pPa (P k)) = nI (pPa (P k)) from if_neg hpk, if_pos (show (0 : Int32) ≤ nI (pPa (P k)) from (nI_leI (a := 0) (by omega) (by omega)).mpr (by omega)), e_mhintOf C R hnr hln k0 hk, ob, rd_nI (by omega) (by omega), ob, rd_nI (by omega) (by omega), ob, hs.2, hbg, e_mdigit (by have := bg_le (tx := tx) (fc := fc) K hch (t := pFr (P k)) (by omega); omega), ob, bg_dig K (by omega)]
    have flat : ¬ (hntP gh P k = 2 ∧ (S k).2.2.1 (pPa (P k)) = true) → MR (gapL tx ts fc gh P k (S k)).1 (gapL tx ts fc gh P k (S k)).2 (if (0 : Int32) < nI (hntP gh P k) then (f_X6_put 32 (nI (S k).2.1) (nI (S k).1.length) sh).bind fun r6 => some (r6.1, r6.2.1, r6.2.2) else if (if bwd tx ts fc (pFr (P k)) = true then (1 : Int32) else 0) = 0 then some (nI (S k).2.1, nI (S k).1.length, sh) else (f_X6_put 32 (nI (S k).2.1) (nI (S k).1.length) sh).bind fun r6 => some (r6.1, r6.2.1, r6.2.2)) := by
      intro hno
      unfold gapL at hgl ⊢
      rw [if_pos hgk, if_neg hno] at hgl ⊢
      by_cases hf : hntP gh P k = 0 ∧ ¬ bwd tx ts fc (pFr (P k)) = true
      · have hg0 : fgN tx ts fc gh P k = 0 := if_pos hf
        rw [if_pos hg0, if_neg (show ¬ (0 : Int32) < nI (hntP gh P k) by rw [hf.1]; decide), if_neg hf.2, if_pos rfl]
        exact ⟨sh, hp, rfl⟩
      · have hg1 : ¬ fgN tx ts fc gh P k = 0 := by unfold fgN; rw [if_neg hf]; omega
        rw [if_neg hg1] at hgl ⊢
        dsimp only at hgl
        rw [List.length_append] at hgl
        have h32 : ([32] : List Nat).length = 1 := rfl
        obtain ⟨sh', k1, k2⟩ := e_mput (c := 32) (col := (S k).2.1) hp (by omega)
        rw [show (32 : Int32) = nI 32 from rfl, k2, ob]
        have both : ∀ A B : Option ((Int32) × (Int32) × (Nat → Int32)), (if (0 : Int32) < nI (hntP gh P k) then A else if (if bwd tx ts fc (pFr (P k)) = true then (1 : Int32) else 0) = 0 then B else A) = A := by
          intro A B
          by_cases x : hntP gh P k = 0
          · have y : bwd tx ts fc (pFr (P k)) = true := by
              cases hb : bwd tx ts fc (pFr (P k)) with
              | true => rfl
              | false => exact absurd ⟨x, by rw [hb]; decide⟩ hf
            rw [if_neg (show ¬ (0 : Int32) < nI (hntP gh P k) by rw [x]; decide), if_pos y, if_neg (show ¬ (1 : Int32) = 0 by decide)]
          · rw [if_pos (show (0 : Int32) < nI (hntP gh P k) from (nI_ltI (a := 0) (by omega) (by omega)).mpr (by omega))]
        rw [both]
        exact ⟨sh', k1, rfl⟩
    by_cases h2 : hntP gh P k = 2
    · rw [if_pos (show nI (hntP gh P k) = (2 : Int32) by rw [h2]; rfl)]
      by_cases hb : (S k).2.2.1 (pPa (P k)) = true
      · rw [if_neg (show ¬ bI ((S k).2.2.1 (pPa (P k))) = 0 by rw [hb]; decide)]
        have hin := S_ind R hS k (by omega)
        have hI := (hL k (by omega)).2.2.1 (pPa (P k)) a1 hnd
        have hdp := ((R.2.2.2.1 (pPa (P k)) (by omega)).2.2.2.2 hnd.1).2
        unfold gapL at hgl ⊢
        rw [if_pos hgk, if_pos ⟨h2, hb⟩] at hgl ⊢
        dsimp only at hgl ⊢
        rw [List.length_append, List.length_append, spc_len] at hgl
        have h10 : ([10] : List Nat).length = 1 := rfl
        generalize hII : (S k).2.2.2 (pPa (P k)) = I at *
        obtain ⟨sh', k1, k2⟩ := e_mput (c := 10) (col := (S k).2.1) hp (by omega)
        rw [show (10 : Int32) = nI 10 from rfl, k2, ob]
        dsimp only
        -- the spaces
        have sp : ∀ q, 2 * q = I → ∀ sh1, pgR ((S k).1 ++ [10]) sh1 → MR ((S k).1 ++ [10] ++ spc I) I (lp_X6_between_104 (nA gh) gi M.1 M.2.2.1 M.2.2.2.1 bg br (fun m_column m_printed m_print => some (m_column, m_printed, m_print)) FU (nI q) 0 0 (nI ((S k).1 ++ [10]).length) sh1) := by
          intro q hq sh1 hp1
          have k3 := loopE (fun N (z : Nat × (Nat → Int32)) => lp_X6_between_104 (nA gh) gi M.1 M.2.2.1 M.2.2.2.1 bg br (fun m_column m_printed m_print => some (m_column, m_printed, m_print)) N (nI q) (nI z.1) (nI z.1) (nI ((S k).1 ++ [10] ++ spc z.1).length) z.2)
            (fun Q => MR ((S k).1 ++ [10] ++ spc I) I Q) (fun z => z.1 ≤ I ∧ pgR ((S k).1 ++ [10] ++ spc z.1) z.2) (fun z => I - z.1) ?_ FU (0, sh1) (FU_gt (by dsimp only; omega)) ⟨Nat.zero_le _, by dsimp only; rw [show spc 0 = [] from rfl, List.append_nil]; exact hp1⟩
          · dsimp only at k3
            rw [show spc 0 = [] from rfl, List.append_nil] at k3
            exact k3
          · rintro N ⟨j, sj⟩ ⟨j1, j2⟩
            dsimp only at j1 j2 ⊢
            simp only [lp_X6_between_104, nm]
            rw [show (2 : Int32) = nI 2 from rfl, nI_mul, hq]
            by_cases hj : I ≤ j
            · left
              have ej : j = I := by omega
              rw [if_pos ((nI_leI (by omega) (by omega)).mpr hj)]
              rw [ej] at j2 ⊢
              exact ⟨sj, j2, rfl⟩
            · right
              have hjl : ((S k).1 ++ [10] ++ spc j).length = (S k).1.length + 1 + j := by rw [List.length_append, List.length_append, spc_len, h10]
              obtain ⟨sh2, m1, m2⟩ := e_mput (c := 32) (col := j) j2 (by omega)
              rw [if_neg (fun x => hj ((nI_leI (by omega) (by omega)).mp x)), show (32 : Int32) = nI 32 from rfl, m2, ob, of1, nI_add]
              have es : (S k).1 ++ [10] ++ spc j ++ [32] = (S k).1 ++ [10] ++ spc (j + 1) := by
                show _ = (S k).1 ++ [10] ++ (spc j ++ [32])
                rw [List.append_assoc ((S k).1 ++ [10])]
              rw [es] at m1
              refine ⟨(j + 1, sh2), ⟨by dsimp only; omega, m1⟩, by dsimp only; omega, ?_⟩
              dsimp only
              rw [es]
        -- the depth
        have k4 := loopE (fun N (z : Nat × Nat) => lp_X6_between_44 (nA gh) gi M.1 M.2.2.1 M.2.2.2.1 bg br (fun x4 m_column m_printed m_print => lp_X6_between_104 (nA gh) gi M.1 M.2.2.1 M.2.2.2.1 bg br (fun m_column m_printed m_print => some (m_column, m_printed, m_print)) FU x4 0 0 m_printed m_print) N (nI z.1) (pcon z.2) (nI ((S k).2.1 + 1)) (nI ((S k).1 ++ [10]).length) sh')
          (fun Q => MR ((S k).1 ++ [10] ++ spc I) I Q) (fun z => (z.2 = 999 ∨ (z.2 < k ∧ nde P z.2)) ∧ 2 * z.1 + (if z.2 = 999 then 0 else (S k).2.2.2 z.2) = I) (fun z => if z.2 = 999 then 0 else z.2 + 1) ?_ FU (0, pPa (P k)) (FU_gt (by dsimp only; split <;> omega)) ⟨Or.inr ⟨a1, hnd⟩, by dsimp only; rw [if_neg hpk, hII]; omega⟩
        · dsimp only at k4
          rw [show pcon (pPa (P k)) = nI (pPa (P k)) from if_neg hpk] at k4
          exact k4
        · rintro N ⟨q, v⟩ ⟨v1, v2⟩
          dsimp only at v1 v2 ⊢
          simp only [lp_X6_between_44, jn_X6_between_80, jn_X6_between_81, nm]
          by_cases hv : v = 999
          · left
            rw [if_pos hv, Nat.add_zero] at v2
            rw [show pcon v = -1 from if_pos hv, if_pos (show (-1 : Int32) < 0 by decide)]
            exact sp q v2 sh' k1
          · right
            rw [if_neg hv] at v2
            obtain ⟨w1, w2⟩ : v < k ∧ nde P v := by
              rcases v1 with c | c
              · exact absurd c hv
              · exact c
            have hb2 := ((hst v (by omega) w2).1 w1).2
            have hiv := hin v w1 w2
            have hr2 := ((R.2.2.2.1 v (by omega)).2.2.2.2 w2.1).1
            rw [hiv] at v2
            unfold indF at v2
            have hpv : pPa (P v) = 999 ∨ (pPa (P v) < v ∧ nde P (pPa (P v))) := by
              rcases Nat.eq_zero_or_pos v with z | z
              · left; rw [z]; exact R.2.1.2.2.1
              · right; exact ⟨(R.2.2.1 v z (by omega)).1, pa_nde R z (by omega) w2.2⟩
            have nxt : ∀ q', 2 * q' + (if pPa (P v) = 999 then 0 else (S k).2.2.2 (pPa (P v))) = I → ((pPa (P v) = 999 ∨ (pPa (P v) < k ∧ nde P (pPa (P v)))) ∧ 2 * q' + (if pPa (P v) = 999 then 0 else (S k).2.2.2 (pPa (P v))) = I) ∧ (if pPa (P v) = 999 then 0 else pPa (P v) + 1) < (if v = 999 then 0 else v + 1) := by
              intro q' hq'
              refine ⟨⟨?_, hq'⟩, ?_⟩
              · rcases hpv with c | c
                · exact Or.inl c
                · exact Or.inr ⟨by omega, c.2⟩
              · rw [if_neg hv]
                rcases hpv with c | c
                · rw [if_pos c]; omega
                · split <;> omega
            rw [show pcon v = nI v from if_neg hv, if_neg (nI_pos (by omega)), rd_nI (by omega) (by omega), ob, hb2, rd_nI (by omega) (by omega), ob, (C v (by omega)).2.2.1, rd_nI (by omega) (by omega), ob, (C v (by omega)).1, if_neg (show ¬ pSy (P v) ≤ 8 by have := w2.1; omega), rd_nI (by omega) (by omega), ob]
            by_cases hbv : (S k).2.2.1 v = true
            · rw [if_neg (show ¬ bI ((S k).2.2.1 v) = 0 by rw [hbv]; decide)]
              by_cases hgi : gi (pRu (P v)) = 0
              · have hno : ¬ ((S k).2.2.1 v = true ∧ insF gi (pRu (P v)) = true) := fun c => by
                  have := c.2; unfold insF at this; rw [hgi] at this; exact absurd this (by decide)
                rw [if_neg hno] at v2
                have := nxt q (by omega)
                rw [if_pos hgi, show (0 : Int32) = nI 0 from rfl, nI_add]
                exact ⟨(q, pPa (P v)), this.1, this.2, rfl⟩
              · have hyes : (S k).2.2.1 v = true ∧ insF gi (pRu (P v)) = true := ⟨hbv, by unfold insF; rw [decide_eq_false hgi]; rfl⟩
                rw [if_pos hyes] at v2
                have := nxt (q + 1) (by omega)
                rw [if_neg hgi, nI_1]
                exact ⟨(q + 1, pPa (P v)), this.1, this.2, rfl⟩
            · have hbf : (S k).2.2.1 v = false := by
                cases hc : (S k).2.2.1 v with
                | true => exact absurd hc hbv
                | false => rfl
              have hno : ¬ ((S k).2.2.1 v = true ∧ insF gi (pRu (P v)) = true) := fun c => hbv c.1
              rw [if_neg hno] at v2
              have := nxt q (by omega)
              rw [if_pos (show bI ((S k).2.2.1 v) = 0 by rw [hbf]; decide), show (0 : Int32) = nI 0 from rfl, nI_add]
              exact ⟨(q, pPa (P v)), this.1, this.2, rfl⟩
      · have hbf : (S k).2.2.1 (pPa (P k)) = false := by
          cases hc : (S k).2.2.1 (pPa (P k)) with
          | true => exact absurd hc hb
          | false => rfl
        rw [if_pos (show bI ((S k).2.2.1 (pPa (P k))) = 0 by rw [hbf]; decide)]
        exact flat (fun c => hb c.2)
    · rw [if_neg (show ¬ nI (hntP gh P k) = (2 : Int32) from fun x => h2 ((nI_eq (b := 2) (by omega) (by omega)).mp x))]
      exact flat (fun c => h2 c.1)
end MLAY
