/-! the reference's grow, whole; both end alike -/
section MGROW2
variable {nr : Nat} {hd gs ln sg B : Nat → Nat} {n : Nat} {D : Nat → Nat → Nat → Nat}
def mrun (nr : Nat) (hd ln : Nat → Nat) (sy : Nat → Nat → Nat) (D : Nat → Nat → Nat → Nat) (e T : Nat) : Prop := T ≤ 150 ∧ ∀ t, t < T → 0 < (arun nr hd ln sy D e t).1 ∧ dok (arun nr hd ln sy D e t)
theorem mrun.AI (G : GW nr hd ln (rsy gs)) (F : Fix nr hd ln (rsy gs) n (lf32 sg) D) (hn : n ≤ 16) {e : Nat} (hen : e ≤ n) (hf : D 9 0 e < dINF) : ∀ T, mrun nr hd ln (rsy gs) D e T → AI nr ln n D T (arun nr hd ln (rsy gs) D e T) := by
  intro T
  induction T with
  | zero => intro _; exact okRun.AI G F hn hen hf 0 (fun t ht => by omega)
  | succ T ih =>
    intro h
    have h0 := h.1
    have h1 : mrun nr hd ln (rsy gs) D e T := ⟨by omega, fun t ht => h.2 t (by omega)⟩
    exact (AI.step G F hn (by omega) (ih h1) (h.2 T (by omega)).1).1
theorem e_mgrow (G : GW nr hd ln (rsy gs)) (F : Fix nr hd ln (rsy gs) n (lf32 sg) D) (hn : n ≤ 16) (hsg : ∀ t, t < n → sg t ≤ 8) (hM : MChart n D B) {e : Nat} (hen : e ≤ n) (hf : D 9 0 e < dINF) {p0 o0 : Int32} {R0 cu0 : Nat → Nat} {M : A8} {wt0 : Nat → Int32} (hR : ∀ x, R0 x ≤ dINF) :
    ∃ (R cu : Nat → Nat) (M' : A8) (wt : Nat → Int32), (∀ x, R x ≤ dINF) ∧
      ((∃ T, mrun nr hd ln (rsy gs) D e T ∧ (arun nr hd ln (rsy gs) D e T).1 = 0 ∧ MP D T (arun nr hd ln (rsy gs) D e T).2.2 M' ∧ f_X6_grow (nI nr) (nI n) (nI e) (nA hd) (nA ln) (nA gs) (nA sg) (lA B) p0 o0 (lA R0) (nA cu0) M.1 M.2.1 M.2.2.1 M.2.2.2.1 M.2.2.2.2.1 M.2.2.2.2.2.1 M.2.2.2.2.2.2.1 M.2.2.2.2.2.2.2 wt0 = some (nI 1, nI T, nI 0, lA R, nA cu, M'.1, M'.2.1, M'.2.2.1, M'.2.2.2.1, M'.2.2.2.2.1, M'.2.2.2.2.2.1, M'.2.2.2.2.2.2.1, M'.2.2.2.2.2.2.2, wt)) ∨
       (∃ T W, mrun nr hd ln (rsy gs) D e T ∧ 0 < (arun nr hd ln (rsy gs) D e T).1 ∧ (T = 150 ∨ ¬ dok (arun nr hd ln (rsy gs) D e T)) ∧ f_X6_grow (nI nr) (nI n) (nI e) (nA hd) (nA ln) (nA gs) (nA sg) (lA B) p0 o0 (lA R0) (nA cu0) M.1 M.2.1 M.2.2.1 M.2.2.2.1 M.2.2.2.2.1 M.2.2.2.2.2.1 M.2.2.2.2.2.2.1 M.2.2.2.2.2.2.2 wt0 = some (nI 0, nI T, nI W, lA R, nA cu, M'.1, M'.2.1, M'.2.2.1, M'.2.2.2.1, M'.2.2.2.2.1, M'.2.2.2.2.2.1, M'.2.2.2.2.2.2.1, M'.2.2.2.2.2.2.2, wt))) := by
  have key := loopE (fun N (s : Nat × (Nat → Nat) × (Nat → Nat) × A8 × (Nat → Int32)) => lp_X6_grow_23 (nI nr) (nI n) (nI e) (nA hd) (nA ln) (nA gs) (nA sg) (lA B) (fun m_parts m_open m_row m_cut m_ruleOf m_symbolOf m_parent m_place m_from m_to m_cost m_deep m_waiting => (zc 1).bind fun v41 => some (v41, m_parts, m_open, m_row, m_cut, m_ruleOf, m_symbolOf, m_parent, m_place, m_from, m_to, m_cost, m_deep, m_waiting)) N (nI s.1) (nI (arun nr hd ln (rsy gs) D e s.1).1) (lA s.2.1) (nA s.2.2.1) s.2.2.2.1.1 s.2.2.2.1.2.1 s.2.2.2.1.2.2.1 s.2.2.2.1.2.2.2.1 s.2.2.2.1.2.2.2.2.1 s.2.2.2.1.2.2.2.2.2.1 s.2.2.2.1.2.2.2.2.2.2.1 s.2.2.2.1.2.2.2.2.2.2.2 s.2.2.2.2)
    (fun Q => ∃ (R cu : Nat → Nat) (M' : A8) (wt : Nat → Int32), (∀ x, R x ≤ dINF) ∧ ((∃ T, mrun nr hd ln (rsy gs) D e T ∧ (arun nr hd ln (rsy gs) D e T).1 = 0 ∧ MP D T (arun nr hd ln (rsy gs) D e T).2.2 M' ∧ Q = some (nI 1, nI T, nI 0, lA R, nA cu, M'.1, M'.2.1, M'.2.2.1, M'.2.2.2.1, M'.2.2.2.2.1, M'.2.2.2.2.2.1, M'.2.2.2.2.2.2.1, M'.2.2.2.2.2.2.2, wt)) ∨ (∃ T W, mrun nr hd ln (rsy gs) D e T ∧ 0 < (arun nr hd ln (rsy gs) D e T).1 ∧ (T = 150 ∨ ¬ dok (arun nr hd ln (rsy gs) D e T)) ∧ Q = some (nI 0, nI T, nI W, lA R, nA cu, M'.1, M'.2.1, M'.2.2.1, M'.2.2.2.1, M'.2.2.2.2.1, M'.2.2.2.2.2.1, M'.2.2.2.2.2.2.1, M'.2.2.2.2.2.2.2, wt))))
    (fun s => mrun nr hd ln (rsy gs) D e s.1 ∧ (∀ x, s.2.1 x ≤ dINF) ∧ MS (arun nr hd ln (rsy gs) D e s.1) s.2.2.2.2 ∧ MP D s.1 (arun nr hd ln (rsy gs) D e s.1).2.2 s.2.2.2.1) (fun s => 151 - s.1) ?_
    FU (0, R0, cu0, M, ch5 wt0 0 9 0 (nI e) (-1) 0) (FU_gt (by dsimp only; omega)) ⟨⟨Nat.zero_le _, fun t ht => by dsimp only at ht; omega⟩, hR, fun w hw => ?_, fun k hk => by dsimp only at hk; omega⟩
  · have unf : f_X6_grow (nI nr) (nI n) (nI e) (nA hd) (nA ln) (nA gs) (nA sg) (lA B) p0 o0 (lA R0) (nA cu0) M.1 M.2.1 M.2.2.1 M.2.2.2.1 M.2.2.2.2.1 M.2.2.2.2.2.1 M.2.2.2.2.2.2.1 M.2.2.2.2.2.2.2 wt0 = lp_X6_grow_23 (nI nr) (nI n) (nI e) (nA hd) (nA ln) (nA gs) (nA sg) (lA B) (fun m_parts m_open m_row m_cut m_ruleOf m_symbolOf m_parent m_place m_from m_to m_cost m_deep m_waiting => (zc 1).bind fun v41 => some (v41, m_parts, m_open, m_row, m_cut, m_ruleOf, m_symbolOf, m_parent, m_place, m_from, m_to, m_cost, m_deep, m_waiting)) FU (nI 0) (nI 1) (lA R0) (nA cu0) M.1 M.2.1 M.2.2.1 M.2.2.2.1 M.2.2.2.2.1 M.2.2.2.2.2.1 M.2.2.2.2.2.2.1 M.2.2.2.2.2.2.2 (ch5 wt0 0 9 0 (nI e) (-1) 0) := by
      unfold f_X6_grow
      have hp := e_push (a1 := 9) (a2 := 0) (a3 := nI e) (a4 := -1) (a5 := 0) (w := 0) (wt := wt0) (by omega)
      rw [show nI 0 = (0 : Int32) from rfl] at hp
      rw [hp, ob]
      rfl
    rw [unf]
    exact key
  · rintro N ⟨t, R, cu, M, wt⟩ ⟨q1, q2, q3, q4⟩
    dsimp only at q1 q2 q3 q4 ⊢
    have hA := mrun.AI G F hn hen hf t q1
    by_cases hW : 0 < (arun nr hd ln (rsy gs) D e t).1
    · by_cases ht : t = 150
      · left
        subst ht
        refine ⟨R, cu, M, wt, q2, Or.inr ⟨150, (arun nr hd ln (rsy gs) D e 150).1, q1, hW, Or.inl rfl, ?_⟩⟩
        have h1 := hA.1
        simp only [lp_X6_grow_23]
        rw [if_neg (show ¬ nI (arun nr hd ln (rsy gs) D e 150).1 ≤ (0 : Int32) from nI_nle hW (by omega)), if_pos (show nI 150 = (150 : Int32) from rfl)]
        rfl
      · have ht' : t < 150 := by have := q1.1; omega
        obtain ⟨R', cu', M', wt', c1, c2⟩ := m_step (N := N) (me := nI e) G F hn hsg hM (fun m_parts m_open m_row m_cut m_ruleOf m_symbolOf m_parent m_place m_from m_to m_cost m_deep m_waiting => (zc 1).bind fun v41 => some (v41, m_parts, m_open, m_row, m_cut, m_ruleOf, m_symbolOf, m_parent, m_place, m_from, m_to, m_cost, m_deep, m_waiting)) (cu := cu) q2 ht' hA hW q3 q4
        rcases c2 with ⟨d1, d2, d3, d4⟩ | ⟨d1, d2⟩
        · right
          refine ⟨(t + 1, R', cu', M', wt'), ⟨⟨by dsimp only; omega, fun t' p => ?_⟩, c1, d3, d4⟩, by dsimp only; omega, d2⟩
          dsimp only at p
          by_cases e1 : t' = t
          · subst e1; exact ⟨hW, d1⟩
          · exact q1.2 t' (by omega)
        · left
          exact ⟨R', cu', M', wt', c1, Or.inr ⟨t, _, q1, hW, Or.inr d1, d2⟩⟩
    · left
      have hW0 : (arun nr hd ln (rsy gs) D e t).1 = 0 := by omega
      refine ⟨R, cu, M, wt, q2, Or.inl ⟨t, q1, hW0, q4, ?_⟩⟩
      rw [hW0]
      simp only [lp_X6_grow_23]
      rw [if_pos (show nI 0 ≤ (0 : Int32) from Int32.le_refl _)]
      rfl
  · have hw0 : w = 0 := by have : w < 1 := hw; omega
    subst hw0
    have hc := ch5_is (wt := wt0) (b := 0) (v0 := 9) (v1 := 0) (v2 := nI e) (v3 := -1) (v4 := 0)
    exact hc.2
/-- the machine never shrinks in parts and waiting entries together -/
theorem arun_grow {sy : Nat → Nat → Nat} {e t : Nat} (hW : 0 < (arun nr hd ln sy D e t).1) : t + (arun nr hd ln sy D e t).1 ≤ t + 1 + (arun nr hd ln sy D e (t + 1)).1 := by
  show _ ≤ t + 1 + ((arun nr hd ln sy D e t).1 - 1 + _)
  omega
theorem same_ok {sy : Nat → Nat → Nat} {e T T' : Nat} (h : okTree nr hd ln sy D e T) (hT : T ≤ 150) : (mrun nr hd ln sy D e T' ∧ (arun nr hd ln sy D e T').1 = 0 → T' = T) ∧ ¬ (mrun nr hd ln sy D e T' ∧ 0 < (arun nr hd ln sy D e T').1 ∧ (T' = 150 ∨ ¬ dok (arun nr hd ln sy D e T'))) := by
  refine ⟨fun h1 => ?_, fun h1 => ?_⟩
  · rcases Nat.lt_trichotomy T' T with c | c | c
    · have := (h.1 T' c).1; omega
    · exact c
    · have := (h1.1.2 T c).1
      have := h.2
      omega
  · rcases Nat.lt_trichotomy T' T with c | c | c
    · have h2 := h.1 T' c
      rcases h1.2.2 with d | d
      · have : okRun nr hd ln sy D e T' := fun t ht => h.1 t (by omega)
        have := this.fit
        omega
      · exact d h2.2.1
    · have h2 := h.2
      have h3 := h1.2.1
      rw [c] at h3
      omega
    · have := (h1.1.2 T c).1
      have := h.2
      omega
theorem same_bad {sy : Nat → Nat → Nat} {e T T' : Nat} (h : badTree nr hd ln sy D e T) : ¬ (mrun nr hd ln sy D e T' ∧ (arun nr hd ln sy D e T').1 = 0) := by
  intro h1
  have hlt : T < T' := by
    rcases Nat.lt_trichotomy T T' with c | c | c
    · exact c
    · have h3 := h.2.1
      have h4 := h1.2
      rw [← c] at h4
      omega
    · have := (h.1 T' c).1
      have := h1.2
      omega
  have hdk := (h1.1.2 T hlt).2
  have hov : 150 < T + 1 + (arun nr hd ln sy D e (T + 1)).1 := by
    rcases Nat.lt_or_ge 150 (T + 1 + (arun nr hd ln sy D e (T + 1)).1) with c | c
    · exact c
    · exact absurd ⟨hdk, c⟩ h.2.2
  have hall : ∀ t, T + 1 ≤ t → t ≤ T' → 150 < t + (arun nr hd ln sy D e t).1 := by
    intro t
    induction t with
    | zero => intro h2; omega
    | succ t ih =>
      intro p1 p2
      by_cases c : t = T
      · subst c; exact hov
      · have h2 := ih (by omega) (by omega)
        have h3 := arun_grow (h1.1.2 t (by omega)).1
        omega
  have h5 := hall T' (by omega) (Nat.le_refl _)
  have h6 := h1.1.1
  have h7 := h1.2
  omega
end MGROW2
