/-! the layout, part by part -/
abbrev LYS : Type := List Nat × Nat × (Nat → Bool) × (Nat → Nat)
def updB (f : Nat → Bool) (k : Nat) (v : Bool) : Nat → Bool := fun j => if j = k then v else f j
theorem updB_s {f : Nat → Bool} {k : Nat} {v : Bool} : updB f k v k = v := if_pos rfl
theorem updB_n {f : Nat → Bool} {k j : Nat} {v : Bool} (h : j ≠ k) : updB f k v j = f j := if_neg h
def spc (k : Nat) : List Nat := txS (fun _ => 32) 0 k
theorem spc_len {k : Nat} : (spc k).length = k := txS_len
/-- page and column behind the gap before u -/
def gapL (tx ts fc gh : Nat → Nat) (P : Nat → PE) (u : Nat) (s : LYS) : List Nat × Nat :=
  if hg P u = true then (if hntP gh P u = 2 ∧ s.2.2.1 (pPa (P u)) = true then (s.1 ++ [10] ++ spc (s.2.2.2 (pPa (P u))), s.2.2.2 (pPa (P u))) else if fgN tx ts fc gh P u = 0 then (s.1, s.2.1) else (s.1 ++ [32], s.2.1 + 1)) else (s.1, s.2.1)
def brkF (tx ts tl fc cs cl gh : Nat → Nat) (P : Nat → PE) (T wd u col : Nat) : Bool := decide (wd < FlN tx ts tl fc cs cl gh P T u + col)
def indF (ins : Nat → Bool) (P : Nat → PE) (u : Nat) (b : Bool) (ind : Nat → Nat) : Nat := (if pPa (P u) = 999 then 0 else ind (pPa (P u))) + (if b = true ∧ ins (pRu (P u)) = true then 2 else 0)
def lst (tx ts tl fc cs cl gh : Nat → Nat) (ins : Nat → Bool) (P : Nat → PE) (T wd u : Nat) (s : LYS) : LYS :=
  if pTo (P u) ≤ pFr (P u) then s
  else if pSy (P u) ≤ 8 then ((gapL tx ts fc gh P u s).1 ++ tkS tx ts tl fc cs cl (pFr (P u)) (pTo (P u) - pFr (P u)), (gapL tx ts fc gh P u s).2 + lw tx ts tl fc cs cl P u, s.2.2.1, s.2.2.2)
  else ((gapL tx ts fc gh P u s).1, (gapL tx ts fc gh P u s).2, updB s.2.2.1 u (brkF tx ts tl fc cs cl gh P T wd u (gapL tx ts fc gh P u s).2), updN s.2.2.2 u (indF ins P u (brkF tx ts tl fc cs cl gh P T wd u (gapL tx ts fc gh P u s).2) s.2.2.2))
def lay (tx ts tl fc cs cl gh : Nat → Nat) (ins : Nat → Bool) (P : Nat → PE) (T wd : Nat) : Nat → LYS
  | 0 => ([], 0, fun _ => false, fun _ => 0)
  | t + 1 => lst tx ts tl fc cs cl gh ins P T wd t (lay tx ts tl fc cs cl gh ins P T wd t)
/-- the gaps so far -/
def cnt (P : Nat → PE) (t : Nat) : Nat := sumR (fun u => if hg P u = true then 1 else 0) t
/-- a node that has tokens -/
def nde (P : Nat → PE) (u : Nat) : Prop := 9 ≤ pSy (P u) ∧ pFr (P u) < pTo (P u)
section LAY
variable {tx : Nat → Nat} {len : Nat} {n : Nat} {ts tl tg fc cs cl : Nat → Nat} {nr : Nat} {ln gh : Nat → Nat} {e T wd : Nat} {P : Nat → PE} {ins : Nat → Bool}
theorem hg_spec {u : Nat} : hg P u = true ↔ pPa (P u) ≠ 999 ∧ pFr (P u) < pTo (P u) ∧ pFr (P u) ≠ pFr (P (pPa (P u))) := by
  unfold hg
  simp only [Bool.and_eq_true, decide_eq_true_eq]
  exact ⟨fun h => ⟨h.1.1, h.1.2, h.2⟩, fun h => ⟨⟨h.1, h.2.1⟩, h.2.2⟩⟩
theorem fr_mono (R : TRF nr ln n e T P) : ∀ d k, k + d < T → pFr (P k) ≤ pFr (P (k + d)) := by
  intro d
  induction d with
  | zero => intro k _; exact Nat.le_refl _
  | succ d ih =>
    intro k h
    refine Nat.le_trans (ih k (by omega)) ?_
    have h1 := R.2.2.2.2.1 (k + d) (by omega)
    have h2 := (R.2.2.2.1 (k + d) (by omega)).2.2.1
    rw [show k + (d + 1) = k + d + 1 by omega, h1]
    split <;> omega
theorem fr_le (R : TRF nr ln n e T P) {k t : Nat} (h : k ≤ t) (ht : t < T) : pFr (P k) ≤ pFr (P t) := by
  have := fr_mono R (t - k) k (by omega)
  rwa [show k + (t - k) = t by omega] at this
/-- a part with tokens that begins where a later one begins holds it -/
theorem same_sub (R : TRF nr ln n e T P) {u t : Nat} (hut : u < t) (ht : t < T) (hne : pFr (P u) < pTo (P u)) (hf : pFr (P t) ≤ pFr (P u)) : t < en P T u ∧ 9 ≤ pSy (P u) := by
  have h9 : 9 ≤ pSy (P u) := by
    rcases Nat.lt_or_ge (pSy (P u)) 9 with c | c
    · have h1 := R.2.2.2.2.1 u (by omega)
      rw [if_pos (by omega)] at h1
      have h2 := fr_le R (show u + 1 ≤ t by omega) ht
      omega
    · exact c
  refine ⟨?_, h9⟩
  rcases Nat.lt_or_ge t (en P T u) with c | c
  · exact c
  · have hin := en_in (P := P) (show u < T by omega)
    have h1 := R.2.2.2.2.2.1 u (en P T u) (by omega) (by omega) (fun j hj hj2 => en_sub (T := T) hj hj2) (en_at (by omega) (by omega))
    have h2 := fr_le R c ht
    omega
theorem pa_sub (R : TRF nr ln n e T P) {u t : Nat} (hut : u < t) (ht : t < T) (hin : t < en P T u) : u ≤ pPa (P t) ∧ pPa (P t) < t ∧ pPa (P t) ≠ 999 := by
  obtain ⟨a1, a2, a3, a4, a5, a6, a7⟩ := R.2.2.1 t (by omega) ht
  have hT := R.1.2.1
  refine ⟨?_, a1, by omega⟩
  rcases Nat.lt_or_ge (pPa (P t)) u with c | c
  · have h1 := a7 u c hut
    have h2 := en_sub (P := P) (T := T) hut hin
    omega
  · exact c
theorem cnt_ok (R : TRF nr ln n e T P) : ∀ t, t ≤ T → cnt P t = 0 ∨ ∃ u, u < t ∧ hg P u = true ∧ cnt P t ≤ pFr (P u) := by
  intro t
  induction t with
  | zero => intro _; exact Or.inl rfl
  | succ t ih =>
    intro h
    have hs : cnt P (t + 1) = cnt P t + (if hg P t = true then 1 else 0) := rfl
    by_cases hh : hg P t = true
    · right
      rw [if_pos hh] at hs
      obtain ⟨b1, b2, b3⟩ := hg_spec.mp hh
      have t0 : 0 < t := by
        rcases Nat.eq_zero_or_pos t with z | z
        · rw [z] at b1; exact absurd R.2.1.2.2.1 b1
        · exact z
      obtain ⟨a1, a2, a3, a4, a5, a6, a7⟩ := R.2.2.1 t t0 (by omega)
      refine ⟨t, by omega, hh, ?_⟩
      rcases ih (by omega) with c | ⟨u, c1, c2, c3⟩
      · omega
      · obtain ⟨d1, d2, d3⟩ := hg_spec.mp c2
        have hm := fr_le R (show u ≤ t by omega) (by omega)
        rcases Nat.lt_or_ge (pFr (P u)) (pFr (P t)) with c | c
        · omega
        · have hs1 := same_sub R c1 (by omega) d2 c
          have hp := pa_sub R c1 (by omega) hs1.1
          have h4 := fr_le R hp.1 (show pPa (P t) < T by omega)
          omega
    · rw [if_neg hh, Nat.add_zero] at hs
      rw [hs]
      rcases ih (by omega) with c | ⟨u, c1, c2, c3⟩
      · exact Or.inl c
      · exact Or.inr ⟨u, by omega, c2, c3⟩
theorem cnt_le (R : TRF nr ln n e T P) {t : Nat} (ht : t ≤ T) : cnt P t ≤ 15 := by
  rcases cnt_ok R t ht with c | ⟨u, c1, c2, c3⟩
  · omega
  · have h1 := R.2.2.2.1 u (by omega)
    have h2 := (hg_spec.mp c2).2.1
    have := R.1.2.2.2
    omega
theorem tkW_add {a d d' : Nat} : tkW tl fc cl a d + tkW tl fc cl (a + d) d' = tkW tl fc cl a (d + d') := by
  induction d' with
  | zero => rfl
  | succ d' ih =>
    show _ + (tkW tl fc cl (a + d) d' + (tl (a + d + d') + cmW cl (fc (a + d + d')) (fc (a + d + d' + 1) - fc (a + d + d')) + 1)) = tkW tl fc cl a (d + d') + (tl (a + (d + d')) + cmW cl (fc (a + (d + d'))) (fc (a + (d + d') + 1) - fc (a + (d + d'))) + 1)
    rw [← Nat.add_assoc, ih, Nat.add_assoc a d d']
/-- what holds of the layout -/
def LI (tx ts tl fc cs cl gh : Nat → Nat) (P : Nat → PE) (T wd t : Nat) (s : LYS) : Prop :=
  s.1.length ≤ 75 * cnt P t + tkW tl fc cl 0 (posA t P) ∧ s.2.1 ≤ s.1.length ∧
  (∀ u, u < t → nde P u → s.2.2.2 u ≤ 2 * (pDp (P u) + 1)) ∧
  (∀ u, u < t → nde P u → s.2.2.1 u = false → t < en P T u → s.2.1 + (sumR (wN tx ts tl fc cs cl gh P) (en P T u) - sumR (wN tx ts tl fc cs cl gh P) t) ≤ wd) ∧
  (∀ u, u < t → nde P u → s.2.2.1 u = true → pPa (P u) = 999 ∨ s.2.2.1 (pPa (P u)) = true)
theorem pa_nde (R : TRF nr ln n e T P) {u : Nat} (h0 : 0 < u) (hu : u < T) (hne : pFr (P u) < pTo (P u)) : nde P (pPa (P u)) := by
  obtain ⟨a1, a2, a3, a4, a5, a6, a7⟩ := R.2.2.1 u h0 hu
  exact ⟨a2, by omega⟩
theorem LI_flat (R : TRF nr ln n e T P) {t : Nat} {s : LYS} (h : LI tx ts tl fc cs cl gh P T wd t s) {u : Nat} (hu : u < t) (ht : t ≤ T) (hn : nde P u) (hb : s.2.2.1 u = false) : ∀ v, u ≤ v → v < t → v < en P T u → nde P v → s.2.2.1 v = false := by
  intro v
  induction v using Nat.strongRecOn with
  | _ v ih =>
    intro h1 h2 h3 h4
    by_cases ev : v = u
    · rw [ev]; exact hb
    · have hp := pa_sub R (show u < v by omega) (by omega) h3
      have hpn := pa_nde R (show 0 < v by omega) (by omega) h4.2
      have hi := ih (pPa (P v)) hp.2.1 hp.1 (by omega) (by omega) hpn
      cases hc : s.2.2.1 v with
      | false => rfl
      | true =>
        rcases h.2.2.2.2 v h2 h4 hc with c | c
        · exact absurd c hp.2.2
        · rw [hi] at c; cases c
theorem pos_s (R : TRF nr ln n e T P) {t : Nat} (ht : t < T) : pFr (P t) = posA t P ∧ posA (t + 1) P = (if pSy (P t) ≤ 8 then pTo (P t) else pFr (P t)) := by
  refine ⟨?_, ?_⟩
  · unfold posA
    rcases Nat.eq_zero_or_pos t with z | z
    · rw [if_pos z, z]; exact R.2.1.1
    · rw [if_neg (by omega)]
      have := R.2.2.2.2.1 (t - 1) (by omega)
      rwa [show t - 1 + 1 = t by omega] at this
  · unfold posA
    rw [if_neg (by omega), Nat.add_sub_cancel]
theorem gap_col {t : Nat} {s : LYS} (hb : hg P t = true → s.2.2.1 (pPa (P t)) = false) : gapL tx ts fc gh P t s = (if gpN tx ts fc gh P t = 0 then (s.1, s.2.1) else (s.1 ++ [32], s.2.1 + 1)) ∧ (gapL tx ts fc gh P t s).2 = s.2.1 + gpN tx ts fc gh P t := by
  unfold gapL gpN
  by_cases hh : hg P t = true
  · rw [if_pos hh, if_pos hh, if_neg (by rw [hb hh]; exact fun c => absurd c.2 (by decide))]
    unfold fgN
    by_cases c : hntP gh P t = 0 ∧ ¬ bwd tx ts fc (pFr (P t)) = true
    · rw [if_pos c, if_pos rfl]
      exact ⟨rfl, rfl⟩
    · rw [if_neg c, if_neg (by omega)]
      exact ⟨rfl, rfl⟩
  · rw [if_neg hh, if_neg hh, if_pos rfl]
    exact ⟨rfl, rfl⟩
theorem gap_len (R : TRF nr ln n e T P) {t : Nat} {s : LYS} (h : LI tx ts tl fc cs cl gh P T wd t s) (ht : t < T) : (gapL tx ts fc gh P t s).1.length ≤ 75 * cnt P (t + 1) + tkW tl fc cl 0 (posA t P) ∧ (gapL tx ts fc gh P t s).2 ≤ (gapL tx ts fc gh P t s).1.length := by
  have hs : cnt P (t + 1) = cnt P t + (if hg P t = true then 1 else 0) := rfl
  obtain ⟨l1, l2, l3, l4, l5⟩ := h
  unfold gapL
  by_cases hh : hg P t = true
  · rw [if_pos hh] at hs ⊢
    obtain ⟨b1, b2, b3⟩ := hg_spec.mp hh
    have t0 : 0 < t := by
      rcases Nat.eq_zero_or_pos t with z | z
      · rw [z] at b1; exact absurd R.2.1.2.2.1 b1
      · exact z
    have hpn := pa_nde R t0 ht b2
    have hpt := (R.2.2.1 t t0 ht).1
    split
    · have h1 := l3 (pPa (P t)) hpt hpn
      have h2 := ((R.2.2.2.1 (pPa (P t)) (by omega)).2.2.2.2 hpn.1).2
      dsimp only
      rw [List.length_append, List.length_append, spc_len]
      have : ([10] : List Nat).length = 1 := rfl
      omega
    · split
      · dsimp only; omega
      · dsimp only
        rw [List.length_append]
        have : ([32] : List Nat).length = 1 := rfl
        omega
  · rw [if_neg hh] at hs ⊢
    dsimp only; omega
theorem LI_step (R : TRF nr ln n e T P) {t : Nat} {s : LYS} (h : LI tx ts tl fc cs cl gh P T wd t s) (ht : t < T) : LI tx ts tl fc cs cl gh P T wd (t + 1) (lst tx ts tl fc cs cl gh ins P T wd t s) := by
  have hgl := gap_len R h ht
  have hfl := fun u hu hn hb => LI_flat R h (u := u) hu (by omega) hn hb
  obtain ⟨p1, p2⟩ := pos_s R ht
  have hr := R.2.2.2.1 t ht
  have hw : sumR (wN tx ts tl fc cs cl gh P) (t + 1) = sumR (wN tx ts tl fc cs cl gh P) t + (bsN tx ts tl fc cs cl P t + gpN tx ts fc gh P t) := rfl
  have hcs : cnt P (t + 1) = cnt P t + (if hg P t = true then 1 else 0) := rfl
  have hsub : ∀ u, u < t → t + 1 < en P T u → hg P t = true → nde P u → s.2.2.1 u = false → s.2.2.1 (pPa (P t)) = false := by
    intro u hu hte hh hn hb
    obtain ⟨b1, b2, b3⟩ := hg_spec.mp hh
    have hp := pa_sub R hu ht (by omega)
    exact hfl u hu hn hb (pPa (P t)) hp.1 hp.2.1 (by omega) (pa_nde R (by omega) ht b2)
  have h' := h
  obtain ⟨l1, l2, l3, l4, l5⟩ := h'
  unfold lst
  by_cases hem : pTo (P t) ≤ pFr (P t)
  · rw [if_pos hem]
    have hgf : ¬ hg P t = true := fun c => by have := (hg_spec.mp c).2.1; omega
    have g0 : gpN tx ts fc gh P t = 0 := if_neg hgf
    have b0 : bsN tx ts tl fc cs cl P t = 0 := by
      unfold bsN lw
      split
      · rw [show pTo (P t) - pFr (P t) = 0 by omega]; rfl
      · rfl
    have hnt : ¬ nde P t := fun c => by have := c.2; omega
    have pe : posA (t + 1) P = posA t P := by rw [p2, ← p1]; split <;> omega
    rw [if_neg hgf] at hcs
    refine ⟨by rw [pe]; omega, l2, fun u hu hn => ?_, fun u hu hn hb hte => ?_, fun u hu hn hb => ?_⟩
    · by_cases eu : u = t
      · rw [eu] at hn; exact absurd hn hnt
      · exact l3 u (by omega) hn
    · by_cases eu : u = t
      · rw [eu] at hn; exact absurd hn hnt
      · have := l4 u (by omega) hn hb (by omega)
        rw [hw, g0, b0]; omega
    · by_cases eu : u = t
      · rw [eu] at hn; exact absurd hn hnt
      · exact l5 u (by omega) hn hb
  · rw [if_neg hem]
    by_cases h8 : pSy (P t) ≤ 8
    · rw [if_pos h8]
      rw [if_pos h8] at p2
      have hnt : ¬ nde P t := fun c => by have := c.1; omega
      have hb : bsN tx ts tl fc cs cl P t = lw tx ts tl fc cs cl P t := if_pos h8
      have hlw := tkW_len (tx := tx) (ts := ts) (tl := tl) (fc := fc) (cs := cs) (cl := cl) (a := pFr (P t)) (d := pTo (P t) - pFr (P t))
      have hlw2 : lw tx ts tl fc cs cl P t = (tkS tx ts tl fc cs cl (pFr (P t)) (pTo (P t) - pFr (P t))).length := rfl
      have hadd := tkW_add (tl := tl) (fc := fc) (cl := cl) (a := 0) (d := pFr (P t)) (d' := pTo (P t) - pFr (P t))
      rw [Nat.zero_add, show pFr (P t) + (pTo (P t) - pFr (P t)) = pTo (P t) by omega] at hadd
      refine ⟨?_, ?_, fun u hu hn => ?_, fun u hu hn hbu hte => ?_, fun u hu hn hbu => ?_⟩
      · dsimp only
        rw [List.length_append, p2]
        rw [← p1] at hgl
        omega
      · dsimp only
        rw [List.length_append]; omega
      · by_cases eu : u = t
        · rw [eu] at hn; exact absurd hn hnt
        · exact l3 u (by omega) hn
      · by_cases eu : u = t
        · rw [eu] at hn; exact absurd hn hnt
        · have h1 := l4 u (by omega) hn hbu (by omega)
          have h2 := (gap_col (tx := tx) (ts := ts) (fc := fc) (gh := gh) (t := t) (s := s) (fun hh => hsub u (by omega) hte hh hn hbu)).2
          have h3 : sumR (wN tx ts tl fc cs cl gh P) (t + 1) ≤ sumR (wN tx ts tl fc cs cl gh P) (en P T u) := sumR_mono (by omega)
          dsimp only
          rw [h2]; omega
      · by_cases eu : u = t
        · rw [eu] at hn; exact absurd hn hnt
        · exact l5 u (by omega) hn hbu
    · rw [if_neg h8]
      rw [if_neg h8] at p2
      have hb0 : bsN tx ts tl fc cs cl P t = 0 := if_neg h8
      have hF : FlN tx ts tl fc cs cl gh P T t = sumR (wN tx ts tl fc cs cl gh P) (en P T t) - sumR (wN tx ts tl fc cs cl gh P) (t + 1) := if_neg h8
      have par : 0 < t → pPa (P t) < t ∧ nde P (pPa (P t)) := fun t0 => ⟨(R.2.2.1 t t0 ht).1, pa_nde R t0 ht (by omega)⟩
      have hT := R.1.2.1
      have z0 : 0 < t → pPa (P t) ≠ 999 := fun t0 => by have := (par t0).1; omega
      have z1 : ¬ 0 < t → pPa (P t) = 999 := fun c => by rw [show t = 0 by omega]; exact R.2.1.2.2.1
      refine ⟨?_, hgl.2, fun u hu hn => ?_, fun u hu hn hbu hte => ?_, fun u hu hn hbu => ?_⟩
      · dsimp only
        rw [p2, p1]; exact hgl.1
      · dsimp only
        by_cases eu : u = t
        · rw [eu, updN_s]
          unfold indF
          have : (if brkF tx ts tl fc cs cl gh P T wd t (gapL tx ts fc gh P t s).2 = true ∧ ins (pRu (P t)) = true then 2 else 0) ≤ 2 := by split <;> omega
          by_cases c : 0 < t
          · rw [if_neg (z0 c)]
            have h1 := l3 (pPa (P t)) (par c).1 (par c).2
            have h2 := (R.2.2.1 t c ht).2.2.2.2.2.1
            omega
          · rw [if_pos (z1 c)]; omega
        · rw [updN_n eu]; exact l3 u (by omega) hn
      · dsimp only at hbu ⊢
        by_cases eu : u = t
        · rw [eu, updB_s] at hbu
          unfold brkF at hbu
          have hbu' := of_decide_eq_false hbu
          rw [eu]
          omega
        · rw [updB_n eu] at hbu
          have h1 := l4 u (by omega) hn hbu (by omega)
          have h2 := (gap_col (tx := tx) (ts := ts) (fc := fc) (gh := gh) (t := t) (s := s) (fun hh => hsub u (by omega) hte hh hn hbu)).2
          have h3 : sumR (wN tx ts tl fc cs cl gh P) (t + 1) ≤ sumR (wN tx ts tl fc cs cl gh P) (en P T u) := sumR_mono (by omega)
          rw [h2]; omega
      · dsimp only at hbu ⊢
        by_cases eu : u = t
        · rw [eu, updB_s] at hbu
          rw [eu]
          by_cases c : 0 < t
          · right
            obtain ⟨q1, q2⟩ := par c
            rw [updB_n (by omega)]
            cases hc : s.2.2.1 (pPa (P t)) with
            | true => rfl
            | false =>
              exfalso
              unfold brkF at hbu
              have hbu' := of_decide_eq_true hbu
              have hk := kid_in R c ht rfl
              have h1 := l4 (pPa (P t)) q1 q2 hc hk
              have h2 := (gap_col (tx := tx) (ts := ts) (fc := fc) (gh := gh) (t := t) (s := s) (fun _ => hc)).2
              have hle : en P T t ≤ en P T (pPa (P t)) := by
                refine en_ge (by omega) (en_in ht).2 (by have := (en_in (P := P) ht).1; omega) (fun j hj hj2 => ?_)
                rcases Nat.lt_trichotomy j t with x | x | x
                · exact en_sub (T := T) hj (by omega)
                · rw [x]; exact en_sub (T := T) q1 hk
                · have y1 := en_sub (P := P) (T := T) x hj2
                  have y2 := en_sub (P := P) (T := T) q1 hk
                  omega
              have h3 : sumR (wN tx ts tl fc cs cl gh P) (en P T t) ≤ sumR (wN tx ts tl fc cs cl gh P) (en P T (pPa (P t))) := sumR_mono hle
              have h4 : sumR (wN tx ts tl fc cs cl gh P) (t + 1) ≤ sumR (wN tx ts tl fc cs cl gh P) (en P T t) := sumR_mono (en_in ht).1
              omega
          · exact Or.inl (z1 c)
        · rw [updB_n eu] at hbu
          rcases l5 u (by omega) hn hbu with c | c
          · exact Or.inl c
          · right
            have : pPa (P u) ≠ t := by
              rcases Nat.eq_zero_or_pos u with y | y
              · rw [y, R.2.1.2.2.1]; omega
              · have := (R.2.2.1 u y (by omega)).1; omega
            rw [updB_n this]; exact c
theorem LI_0 : LI tx ts tl fc cs cl gh P T wd 0 ([], 0, fun _ => false, fun _ => 0) :=
  ⟨Nat.zero_le _, Nat.le_refl _, fun u hu => absurd hu (Nat.not_lt_zero u), fun u hu => absurd hu (Nat.not_lt_zero u), fun u hu => absurd hu (Nat.not_lt_zero u)⟩
theorem LI_all (R : TRF nr ln n e T P) : ∀ t, t ≤ T → LI tx ts tl fc cs cl gh P T wd t (lay tx ts tl fc cs cl gh ins P T wd t) := by
  intro t
  induction t with
  | zero => intro _; exact LI_0
  | succ t ih => intro h; exact LI_step R (ih (by omega)) (by omega)
end LAY
