/-! the class's grow -/
/-- the machine after t steps, for a tree that ends at e -/
noncomputable def arun (nr : Nat) (hd ln : Nat → Nat) (sy : Nat → Nat → Nat) (D : Nat → Nat → Nat → Nat) (e : Nat) : Nat → AST
  | 0 => (1, fun _ => (9, 0, e, 999, 0), fun _ => (0, 0, 0, 0, 0, 0, 0))
  | t + 1 => astep nr hd ln sy D t (arun nr hd ln sy D e t)
/-- the first T steps go well -/
def okRun (nr : Nat) (hd ln : Nat → Nat) (sy : Nat → Nat → Nat) (D : Nat → Nat → Nat → Nat) (e T : Nat) : Prop := ∀ t, t < T → 0 < (arun nr hd ln sy D e t).1 ∧ okStep nr hd ln sy D t (arun nr hd ln sy D e t)
def okTree (nr : Nat) (hd ln : Nat → Nat) (sy : Nat → Nat → Nat) (D : Nat → Nat → Nat → Nat) (e T : Nat) : Prop := okRun nr hd ln sy D e T ∧ (arun nr hd ln sy D e T).1 = 0
def badTree (nr : Nat) (hd ln : Nat → Nat) (sy : Nat → Nat → Nat) (D : Nat → Nat → Nat → Nat) (e T : Nat) : Prop := okRun nr hd ln sy D e T ∧ 0 < (arun nr hd ln sy D e T).1 ∧ ¬ okStep nr hd ln sy D T (arun nr hd ln sy D e T)
section CGROW
variable {nr : Nat} {hd gs gh ln sg PP : Nat → Nat} {n : Nat} {D : Nat → Nat → Nat → Nat}
theorem okRun.fit {sy : Nat → Nat → Nat} {e T : Nat} (h : okRun nr hd ln sy D e T) : T + (arun nr hd ln sy D e T).1 ≤ 150 := by
  cases T with
  | zero => show 0 + 1 ≤ 150; omega
  | succ T => exact (h T (by omega)).2.2
theorem okRun.AI (G : GW nr hd ln (rsy gs)) (F : Fix nr hd ln (rsy gs) n (lf32 sg) D) (hn : n ≤ 16) {e : Nat} (hen : e ≤ n) (hf : D 9 0 e < dINF) : ∀ T, okRun nr hd ln (rsy gs) D e T → AI nr ln n D T (arun nr hd ln (rsy gs) D e T) := by
  intro T
  induction T with
  | zero =>
    intro _
    refine ⟨by show 1 ≤ 1 + 4 * 0; omega, fun w hw => ?_, fun k hk => by omega⟩
    exact ⟨by show 1 ≤ 9; omega, by show 9 ≤ 14; omega, Nat.zero_le _, hen, hf, Or.inl rfl⟩
  | succ T ih =>
    intro h
    have h1 : okRun nr hd ln (rsy gs) D e T := fun t ht => h t (by omega)
    have h2 := h T (by omega)
    have h3 := h1.fit
    exact (AI.step G F hn (by omega) (ih h1) h2.1).1
theorem e_grow (G : GW nr hd ln (rsy gs)) (F : Fix nr hd ln (rsy gs) n (lf32 sg) D) (hn : n ≤ 16) {Ch : Nat → Int32} (hC : ChartOK nr hd ln (rsy gs) n D PP Ch) {e : Nat} (hen : e ≤ n) (hf : D 9 0 e < dINF) (hE : f_X0_treeEnd (nI n) (lA PP) = some (nI e)) {R0 b0 : Nat → Nat} {ce hi wi : Nat → Int32} {A : A5} {ow os ok : Int32} (hR : ∀ x, R0 x ≤ dINF) :
    ∃ (R bn : Nat → Nat) (ce' hi' wi' : Nat → Int32) (B : A5), (∀ x, R x ≤ dINF) ∧
      ((∃ T, T ≤ 150 ∧ okTree nr hd ln (rsy gs) D e T ∧ CP gh ln D T (arun nr hd ln (rsy gs) D e T).2.2 ce' hi' wi' ∧ f_X4_grow (nI n) (nA ln) (nA gs) (nA gh) (nI n) (lA PP) Ch (lA R0) ow os ok ce hi wi (nA b0) A.1 A.2.1 A.2.2.1 A.2.2.2.1 A.2.2.2.2 = some (nI 1, lA R, nI 0, nI T, nI (n - e), ce', hi', wi', nA bn, B.1, B.2.1, B.2.2.1, B.2.2.2.1, B.2.2.2.2)) ∨
       (∃ T W, T < 150 ∧ badTree nr hd ln (rsy gs) D e T ∧ f_X4_grow (nI n) (nA ln) (nA gs) (nA gh) (nI n) (lA PP) Ch (lA R0) ow os ok ce hi wi (nA b0) A.1 A.2.1 A.2.2.1 A.2.2.2.1 A.2.2.2.2 = some (nI 0, lA R, nI W, nI 0, nI 0, ce', hi', wi', nA bn, B.1, B.2.1, B.2.2.1, B.2.2.2.1, B.2.2.2.2))) := by
  have key := loopE (fun N (s : Nat × Nat × (Nat → Nat) × Nat × Nat × (Nat → Int32) × (Nat → Int32) × (Nat → Int32) × (Nat → Nat) × A5) => lp_X4_grow_31 (nA ln) (nA gs) (nA gh) (nI n) (lA PP) Ch (fun x1 x2 x3 h_traced t_waiting t_size t_skipped t_cells t_hints t_within t_begins t_waitSymbols t_waitParents t_waitFirsts t_waitEnds t_waitHints => jn_X4_grow_61 (nA ln) (nA gs) (nA gh) (nI n) (lA PP) Ch x1 x2 x3 h_traced t_waiting t_size t_skipped t_cells t_hints t_within t_begins t_waitSymbols t_waitParents t_waitFirsts t_waitEnds t_waitHints) N (nI n) (nI e) (nI s.2.1) (nI s.1) (lA s.2.2.1) (nI s.2.2.2.1) (nI s.2.2.2.2.1) 0 s.2.2.2.2.2.1 s.2.2.2.2.2.2.1 s.2.2.2.2.2.2.2.1 (nA s.2.2.2.2.2.2.2.2.1) s.2.2.2.2.2.2.2.2.2.1 s.2.2.2.2.2.2.2.2.2.2.1 s.2.2.2.2.2.2.2.2.2.2.2.1 s.2.2.2.2.2.2.2.2.2.2.2.2.1 s.2.2.2.2.2.2.2.2.2.2.2.2.2)
    (fun Q => ∃ (R bn : Nat → Nat) (ce' hi' wi' : Nat → Int32) (B : A5), (∀ x, R x ≤ dINF) ∧ ((∃ T, T ≤ 150 ∧ okTree nr hd ln (rsy gs) D e T ∧ CP gh ln D T (arun nr hd ln (rsy gs) D e T).2.2 ce' hi' wi' ∧ Q = some (nI 1, lA R, nI 0, nI T, nI (n - e), ce', hi', wi', nA bn, B.1, B.2.1, B.2.2.1, B.2.2.2.1, B.2.2.2.2)) ∨ (∃ T W, T < 150 ∧ badTree nr hd ln (rsy gs) D e T ∧ Q = some (nI 0, lA R, nI W, nI 0, nI 0, ce', hi', wi', nA bn, B.1, B.2.1, B.2.2.1, B.2.2.2.1, B.2.2.2.2))))
    (fun s => s.1 ≤ 150 ∧ (∀ x, s.2.2.1 x ≤ dINF) ∧ ((s.2.1 = 1 ∧ okRun nr hd ln (rsy gs) D e s.1 ∧ s.2.2.2.1 = (arun nr hd ln (rsy gs) D e s.1).1 ∧ s.2.2.2.2.1 = s.1 ∧ CS gh (arun nr hd ln (rsy gs) D e s.1) s.2.2.2.2.2.2.2.2.2.1 s.2.2.2.2.2.2.2.2.2.2.1 s.2.2.2.2.2.2.2.2.2.2.2.1 s.2.2.2.2.2.2.2.2.2.2.2.2.1 s.2.2.2.2.2.2.2.2.2.2.2.2.2 ∧ CP gh ln D s.1 (arun nr hd ln (rsy gs) D e s.1).2.2 s.2.2.2.2.2.1 s.2.2.2.2.2.2.1 s.2.2.2.2.2.2.2.1) ∨ (s.2.1 = 0 ∧ ∃ T, T < 150 ∧ badTree nr hd ln (rsy gs) D e T))) (fun s => 151 - s.1 + s.2.1) ?_
    FU (0, 1, R0, 1, 0, ce, hi, wi, b0, upd A.1 0 9, upd A.2.1 0 (-1), upd A.2.2.1 0 0, upd A.2.2.2.1 0 (nI e), upd A.2.2.2.2 0 0) (FU_gt (by dsimp only; omega)) ⟨by dsimp only; omega, hR, Or.inl ⟨rfl, fun t ht => by dsimp only at ht; omega, rfl, rfl, fun w hw => ?_, fun k hk => by dsimp only at hk; omega⟩⟩
  · obtain ⟨R, bn, ce', hi', wi', B, c1, c2⟩ := key
    have unf : f_X4_grow (nI n) (nA ln) (nA gs) (nA gh) (nI n) (lA PP) Ch (lA R0) ow os ok ce hi wi (nA b0) A.1 A.2.1 A.2.2.1 A.2.2.2.1 A.2.2.2.2 = lp_X4_grow_31 (nA ln) (nA gs) (nA gh) (nI n) (lA PP) Ch (fun x1 x2 x3 h_traced t_waiting t_size t_skipped t_cells t_hints t_within t_begins t_waitSymbols t_waitParents t_waitFirsts t_waitEnds t_waitHints => jn_X4_grow_61 (nA ln) (nA gs) (nA gh) (nI n) (lA PP) Ch x1 x2 x3 h_traced t_waiting t_size t_skipped t_cells t_hints t_within t_begins t_waitSymbols t_waitParents t_waitFirsts t_waitEnds t_waitHints) FU (nI n) (nI e) (nI 1) (nI 0) (lA R0) (nI 1) (nI 0) 0 ce hi wi (nA b0) (upd A.1 0 9) (upd A.2.1 0 (-1)) (upd A.2.2.1 0 0) (upd A.2.2.2.1 0 (nI e)) (upd A.2.2.2.2 0 0) := by
      have haw := e_await (a1 := 9) (a2 := -1) (a3 := 0) (a4 := nI e) (a5 := 0) (z := 0) (w := 0) (aS := A.1) (aP := A.2.1) (aF := A.2.2.1) (aE := A.2.2.2.1) (aH := A.2.2.2.2) (by omega) (by omega)
      rw [if_pos (by omega)] at haw
      unfold f_X4_grow f_X4_drop
      simp only [nm]
      rw [hE, ob, ob]
      dsimp only
      rw [show (0 : Int32) = nI 0 from rfl] at haw ⊢
      rw [haw, ob]
      rfl
    rw [unf]
    exact ⟨R, bn, ce', hi', wi', B, c1, c2⟩
  · rintro N ⟨t, f, R, W, z, ce, hi, wi, bn, A⟩ ⟨q1, q2, q3⟩
    dsimp only at q1 q2 q3 ⊢
    rcases q3 with ⟨rfl, r1, r2, r3, r4, r5⟩ | ⟨rfl, T, r1, r2⟩
    · subst r2; subst r3
      have hfit := r1.fit
      by_cases hW : 0 < (arun nr hd ln (rsy gs) D e z).1
      · have ht : z < 150 := by omega
        obtain ⟨v, R', bn', ce', hi', wi', W', z', B, d1, d2, d3, d4, d5⟩ := e_placeNext (gh := gh) (b0 := bn) G F hn hC q2 ht (okRun.AI G F hn hen hf z r1) hW hfit r4 r5
        have unf : lp_X4_grow_31 (nA ln) (nA gs) (nA gh) (nI n) (lA PP) Ch (fun x1 x2 x3 h_traced t_waiting t_size t_skipped t_cells t_hints t_within t_begins t_waitSymbols t_waitParents t_waitFirsts t_waitEnds t_waitHints => jn_X4_grow_61 (nA ln) (nA gs) (nA gh) (nI n) (lA PP) Ch x1 x2 x3 h_traced t_waiting t_size t_skipped t_cells t_hints t_within t_begins t_waitSymbols t_waitParents t_waitFirsts t_waitEnds t_waitHints) (N + 1) (nI n) (nI e) (nI 1) (nI z) (lA R) (nI (arun nr hd ln (rsy gs) D e z).1) (nI z) 0 ce hi wi (nA bn) A.1 A.2.1 A.2.2.1 A.2.2.2.1 A.2.2.2.2 = lp_X4_grow_31 (nA ln) (nA gs) (nA gh) (nI n) (lA PP) Ch (fun x1 x2 x3 h_traced t_waiting t_size t_skipped t_cells t_hints t_within t_begins t_waitSymbols t_waitParents t_waitFirsts t_waitEnds t_waitHints => jn_X4_grow_61 (nA ln) (nA gs) (nA gh) (nI n) (lA PP) Ch x1 x2 x3 h_traced t_waiting t_size t_skipped t_cells t_hints t_within t_begins t_waitSymbols t_waitParents t_waitFirsts t_waitEnds t_waitHints) N (nI n) (nI e) (nI v) (nI (z + 1)) (lA R') (nI W') (nI z') 0 ce' hi' wi' (nA bn') B.1 B.2.1 B.2.2.1 B.2.2.2.1 B.2.2.2.2 := by
          simp only [lp_X4_grow_31, nm]
          rw [if_neg (show ¬ (150 : Int32) ≤ nI z from fun c => (show ¬ 150 ≤ z by omega) ((nI_leI (a := 150) (by omega) (by omega)).mp c)), if_neg (show ¬ nI 1 = (0 : Int32) by decide), if_neg (show ¬ nI (arun nr hd ln (rsy gs) D e z).1 ≤ (0 : Int32) from nI_nle hW (by omega)), d3, ob, of1, nI_add]
        right
        by_cases hok : okStep nr hd ln (rsy gs) D z (arun nr hd ln (rsy gs) D e z)
        · have hv := d4.mpr hok
          obtain ⟨g1, g2, g3, g4⟩ := d5 hv
          subst hv; subst g1; subst g2
          refine ⟨(z + 1, 1, R', (astep nr hd ln (rsy gs) D z (arun nr hd ln (rsy gs) D e z)).1, z + 1, ce', hi', wi', bn', B), ⟨by dsimp only; omega, d1, Or.inl ⟨rfl, fun t' ht' => ?_, rfl, rfl, g3, g4⟩⟩, by dsimp only; omega, unf⟩
          dsimp only at ht'
          by_cases e1 : t' = z
          · subst e1; exact ⟨hW, hok⟩
          · exact r1 t' (by omega)
        · have hv : v = 0 := by
            rcases Nat.eq_zero_or_pos v with c | c
            · exact c
            · exact absurd (d4.mp (by omega)) hok
          subst hv
          exact ⟨(z + 1, 0, R', W', z', ce', hi', wi', bn', B), ⟨by dsimp only; omega, d1, Or.inr ⟨rfl, z, ht, r1, hW, hok⟩⟩, by dsimp only; omega, unf⟩
      · left
        have hW0 : (arun nr hd ln (rsy gs) D e z).1 = 0 := by omega
        refine ⟨R, bn, ce, hi, wi, A, q2, Or.inl ⟨z, by omega, ⟨r1, hW0⟩, r5, ?_⟩⟩
        have hjn : jn_X4_grow_61 (nA ln) (nA gs) (nA gh) (nI n) (lA PP) Ch (nI n) (nI e) (nI 1) (lA R) (nI 0) (nI z) 0 ce hi wi (nA bn) A.1 A.2.1 A.2.2.1 A.2.2.2.1 A.2.2.2.2 = some (nI 1, lA R, nI 0, nI z, nI (n - e), ce, hi, wi, nA bn, A.1, A.2.1, A.2.2.1, A.2.2.2.1, A.2.2.2.2) := by
          unfold jn_X4_grow_61
          rw [if_neg (show ¬ nI 1 = (0 : Int32) by decide), if_pos (show nI 0 ≤ (0 : Int32) from Int32.le_refl _), nI_sub hen]
          rfl
        rw [hW0]
        simp only [lp_X4_grow_31]
        by_cases c : (150 : Int32) ≤ nI z
        · rw [if_pos c]; exact hjn
        · rw [if_neg c, if_neg (show ¬ nI 1 = (0 : Int32) by decide), if_pos (show nI 0 ≤ (0 : Int32) from Int32.le_refl _)]; exact hjn
    · left
      refine ⟨R, bn, ce, hi, wi, A, q2, Or.inr ⟨T, W, r1, r2, ?_⟩⟩
      have hjn : jn_X4_grow_61 (nA ln) (nA gs) (nA gh) (nI n) (lA PP) Ch (nI n) (nI e) (nI 0) (lA R) (nI W) (nI z) 0 ce hi wi (nA bn) A.1 A.2.1 A.2.2.1 A.2.2.2.1 A.2.2.2.2 = some (nI 0, lA R, nI W, nI 0, nI 0, ce, hi, wi, nA bn, A.1, A.2.1, A.2.2.1, A.2.2.2.1, A.2.2.2.2) := by
        unfold jn_X4_grow_61 jn_X4_grow_72 f_X4_drop
        rw [if_pos (show nI 0 = (0 : Int32) from rfl)]
        rfl
      simp only [lp_X4_grow_31]
      by_cases c : (150 : Int32) ≤ nI t
      · rw [if_pos c]; exact hjn
      · rw [if_neg c, if_pos (show nI 0 = (0 : Int32) from rfl)]; exact hjn
  · have hw0 : w = 0 := by have : w < 1 := hw; omega
    subst hw0
    show upd A.1 0 9 0 = nI 9 ∧ upd A.2.1 0 (-1) 0 = pcon 999 ∧ upd A.2.2.1 0 0 0 = nI 0 ∧ upd A.2.2.2.1 0 (nI e) 0 = nI e ∧ upd A.2.2.2.2 0 0 0 = nI (if (999 : Nat) = 999 then 0 else gh _)
    rw [if_pos rfl, pk_us, pk_us, pk_us, pk_us, pk_us]
    exact ⟨rfl, rfl, rfl, rfl, rfl⟩
end CGROW
