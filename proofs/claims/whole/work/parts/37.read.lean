/-! read and cutText -/
def tseq (tx : Nat → Nat) (len : Nat) (s0 : TS) : Nat → Option TS
  | 0 => some s0
  | k + 1 => (tseq tx len s0 k).bind (fun s => if len ≤ s.1 then some s else tstep tx len s)
/-- the cut ends well in s; or it has too many tokens behind s -/
def tGood (tx : Nat → Nat) (len : Nat) (s0 s : TS) : Prop := ∃ k, tseq tx len s0 k = some s ∧ len ≤ s.1
def tBad (tx : Nat → Nat) (len : Nat) (s0 s : TS) : Prop := ∃ k, tseq tx len s0 k = some s ∧ s.1 < len ∧ tstep tx len s = none
section READ
variable {tx : Nat → Nat} {len : Nat} {s0 : TS}
theorem tseq_end {k m : Nat} {s : TS} (h : tseq tx len s0 k = some s) (he : len ≤ s.1) (hm : k ≤ m) : tseq tx len s0 m = some s := by
  induction m with
  | zero => rw [show k = 0 by omega] at h; exact h
  | succ m ih =>
    by_cases c : k = m + 1
    · rw [← c]; exact h
    · show (tseq tx len s0 m).bind _ = _
      rw [ih (by omega)]
      show (if len ≤ s.1 then some s else tstep tx len s) = some s
      rw [if_pos he]
theorem tseq_none {k m : Nat} (h : tseq tx len s0 k = none) (hm : k ≤ m) : tseq tx len s0 m = none := by
  induction m with
  | zero => rw [show k = 0 by omega] at h; exact h
  | succ m ih =>
    by_cases c : k = m + 1
    · rw [← c]; exact h
    · show (tseq tx len s0 m).bind _ = _
      rw [ih (by omega)]
      rfl
theorem tseq_s {k : Nat} {s : TS} (h : tseq tx len s0 k = some s) (hlt : s.1 < len) : tseq tx len s0 (k + 1) = tstep tx len s := by
  show (tseq tx len s0 k).bind _ = _
  rw [h]
  show (if len ≤ s.1 then some s else tstep tx len s) = _
  rw [if_neg (by omega)]
theorem tGood_unique {s s' : TS} (h : tGood tx len s0 s) (h' : tGood tx len s0 s') : s = s' := by
  obtain ⟨k, h1, h2⟩ := h
  obtain ⟨k', h1', h2'⟩ := h'
  have a := tseq_end h1 h2 (Nat.le_max_left k k')
  have b := tseq_end h1' h2' (Nat.le_max_right k k')
  exact Option.some.inj (a.symm.trans b)
theorem tGood_bad {s s' : TS} (h : tGood tx len s0 s) (h' : tBad tx len s0 s') : False := by
  obtain ⟨k, h1, h2⟩ := h
  obtain ⟨k', h1', h2', h3'⟩ := h'
  have c : tseq tx len s0 (k' + 1) = none := (tseq_s h1' h2').trans h3'
  have a := tseq_end h1 h2 (Nat.le_max_left k (k' + 1))
  have b := tseq_none c (Nat.le_max_right k (k' + 1))
  rw [a] at b
  cases b
theorem tBad_unique {s s' : TS} (h : tBad tx len s0 s) (h' : tBad tx len s0 s') : s = s' := by
  obtain ⟨k, h1, h2, h3⟩ := h
  obtain ⟨k', h1', h2', h3'⟩ := h'
  have c : tseq tx len s0 (k + 1) = none := (tseq_s h1 h2).trans h3
  have c' : tseq tx len s0 (k' + 1) = none := (tseq_s h1' h2').trans h3'
  rcases Nat.lt_trichotomy k k' with d | d | d
  · have := tseq_none c (show k + 1 ≤ k' by omega)
    rw [h1'] at this; cases this
  · rw [d, h1'] at h1; exact (Option.some.inj h1).symm
  · have := tseq_none c' (show k' + 1 ≤ k by omega)
    rw [h1] at this; cases this
theorem fitB : ∀ v, v < 128 → fits .byte (.int (nI v)) = true := by decide +kernel
theorem e_read (hl : len ≤ 80) {kt ct0 : Nat → Int32} (ht : ∀ i, i < len → kt i = nI (tx i)) (hc : ∀ i, i < len → tx i ≤ 126) {o1 o2 o3 : Int32} {ts tl tg fc cs cl : Nat → Nat} (h0 : s0 = (0, 0, 0, ts, tl, tg, updN fc 0 0, cs, cl)) :
    (∃ s, tGood tx len s0 s ∧ TI len s ∧ f_X1_read (nI len) kt o1 o2 o3 ct0 (nA ts) (nA tl) (nA tg) (nA fc) (nA cs) (nA (fun x => cs x + cl x)) = some (1, nI len, nI s.2.1, nI s.2.2.1, va_cpy kt ct0 0 0 len, nA s.2.2.2.1, nA s.2.2.2.2.1, nA s.2.2.2.2.2.1, nA (updN s.2.2.2.2.2.2.1 (s.2.1 + 1) s.2.2.1), nA s.2.2.2.2.2.2.2.1, nA (cEnd s))) ∨
    (∃ s, tBad tx len s0 s ∧ TI len s ∧ f_X1_read (nI len) kt o1 o2 o3 ct0 (nA ts) (nA tl) (nA tg) (nA fc) (nA cs) (nA (fun x => cs x + cl x)) = some (0, nI len, nI s.2.1, nI s.2.2.1, va_cpy kt ct0 0 0 len, nA s.2.2.2.1, nA s.2.2.2.2.1, nA s.2.2.2.2.2.1, nA s.2.2.2.2.2.2.1, nA s.2.2.2.2.2.2.2.1, nA (cEnd s))) := by
  have hcp : cpB kt ct0 80 80 0 0 (nI len) = some (va_cpy kt ct0 0 0 len) := by
    unfold cpB
    rw [nI_clamp (show len < 2 ^ 31 by omega), show (0 : Int32).toNatClampNeg = 0 from by decide]
    rw [if_pos ⟨⟨by decide, by decide, nI_pos (by omega), by omega, by omega⟩, List.all_eq_true.mpr (fun i hi => by
      have hi' := List.mem_range.mp hi
      rw [Nat.zero_add, ht i hi']
      exact fitB _ (by have := hc i hi'; omega))⟩]
  have ht' : ∀ i, i < len → va_cpy kt ct0 0 0 len i = nI (tx i) := fun i hi => by rw [sb_cpy0 hi]; exact ht i hi
  generalize hct : va_cpy kt ct0 0 0 len = ct at hcp ht' ⊢
  have unf : f_X1_read (nI len) kt o1 o2 o3 ct0 (nA ts) (nA tl) (nA tg) (nA fc) (nA cs) (nA (fun x => cs x + cl x)) = lp_X1_read_55 kt (fun c_length c_size c_comments c_text c_starts c_lengths c_signs c_firstComments c_commentStarts c_commentEnds => jn_X1_read_89 kt c_length c_size c_comments c_text c_starts c_lengths c_signs c_firstComments c_commentStarts c_commentEnds) FU (nI s0.1) (nI 0) (nI len) (nI s0.2.1) (nI s0.2.2.1) ct (nA s0.2.2.2.1) (nA s0.2.2.2.2.1) (nA s0.2.2.2.2.2.1) (nA s0.2.2.2.2.2.2.1) (nA s0.2.2.2.2.2.2.2.1) (nA (cEnd s0)) := by
    unfold f_X1_read
    simp only [nm]
    have e1 : (if (80 : Int32) < 80 then (80 : Int32) else 80) = nI 80 := by decide
    have e2 : (if nI 80 < nI len then nI 80 else nI len) = nI len := if_neg (fun c => (show ¬ 80 < len by omega) ((nI_ltI (by omega) (by omega)).mp c))
    have e3 : (if (0 : Int32) < nI len then nI len else (0 : Int32)) = nI len := by
      by_cases c : (0 : Int32) < nI len
      · rw [if_pos c]
      · rw [if_neg c]
        have : len = 0 := by
          rcases Nat.eq_zero_or_pos len with d | d
          · exact d
          · exact absurd ((nI_ltI (a := 0) (by omega) (by omega)).mpr d) c
        rw [this]; rfl
    rw [e1, e2, e3, hcp, ob, show (0 : Int32) = nI 0 from rfl, wr_nA (by omega) (by omega), ob, h0]
    rfl
  rw [unf]
  have key := loopE (fun N (q : Nat × TS) => lp_X1_read_55 kt (fun c_length c_size c_comments c_text c_starts c_lengths c_signs c_firstComments c_commentStarts c_commentEnds => jn_X1_read_89 kt c_length c_size c_comments c_text c_starts c_lengths c_signs c_firstComments c_commentStarts c_commentEnds) N (nI q.2.1) (nI q.1) (nI len) (nI q.2.2.1) (nI q.2.2.2.1) ct (nA q.2.2.2.2.1) (nA q.2.2.2.2.2.1) (nA q.2.2.2.2.2.2.1) (nA q.2.2.2.2.2.2.2.1) (nA q.2.2.2.2.2.2.2.2.1) (nA (cEnd q.2)))
    (fun R => (∃ s, tGood tx len s0 s ∧ TI len s ∧ R = some (1, nI len, nI s.2.1, nI s.2.2.1, ct, nA s.2.2.2.1, nA s.2.2.2.2.1, nA s.2.2.2.2.2.1, nA (updN s.2.2.2.2.2.2.1 (s.2.1 + 1) s.2.2.1), nA s.2.2.2.2.2.2.2.1, nA (cEnd s))) ∨ (∃ s, tBad tx len s0 s ∧ TI len s ∧ R = some (0, nI len, nI s.2.1, nI s.2.2.1, ct, nA s.2.2.2.1, nA s.2.2.2.2.1, nA s.2.2.2.2.2.1, nA s.2.2.2.2.2.2.1, nA s.2.2.2.2.2.2.2.1, nA (cEnd s))))
    (fun q => tseq tx len s0 q.1 = some q.2 ∧ TI len q.2 ∧ q.1 ≤ q.2.1) (fun q => len - q.2.1) ?_ FU (0, s0) (FU_gt (by rw [h0]; dsimp only; omega)) ⟨rfl, by rw [h0]; exact ⟨Nat.zero_le _, Nat.zero_le _, Nat.le_refl _⟩, Nat.zero_le _⟩
  · exact key
  · rintro N ⟨k, s⟩ ⟨q1, q2, q3⟩
    dsimp only at q1 q2 q3 ⊢
    have q2' := q2
    obtain ⟨t1, t2, t3⟩ := q2
    have hend : len ≤ s.1 → jn_X1_read_89 kt (nI len) (nI s.2.1) (nI s.2.2.1) ct (nA s.2.2.2.1) (nA s.2.2.2.2.1) (nA s.2.2.2.2.2.1) (nA s.2.2.2.2.2.2.1) (nA s.2.2.2.2.2.2.2.1) (nA (cEnd s)) = some (1, nI len, nI s.2.1, nI s.2.2.1, ct, nA s.2.2.2.1, nA s.2.2.2.2.1, nA s.2.2.2.2.2.1, nA (updN s.2.2.2.2.2.2.1 (s.2.1 + 1) s.2.2.1), nA s.2.2.2.2.2.2.2.1, nA (cEnd s)) := by
      intro _
      unfold jn_X1_read_89
      rw [nI_1 s.2.1, wr_nA (by omega) (by omega), ob]
      rfl
    by_cases he : len ≤ s.1
    · left
      refine Or.inl ⟨s, ⟨k, q1, he⟩, q2', ?_⟩
      simp only [lp_X1_read_55]
      by_cases c : (80 : Int32) ≤ nI k
      · rw [if_pos c]; exact hend he
      · rw [if_neg c, if_pos ((nI_leI (by omega) (by omega)).mpr he)]; exact hend he
    · have hlt : s.1 < len := by omega
      have hk : ¬ (80 : Int32) ≤ nI k := fun c => (show ¬ 80 ≤ k by omega) ((nI_leI (a := 80) (by omega) (by omega)).mp c)
      have hx : ¬ nI len ≤ nI s.1 := fun c => he ((nI_leI (by omega) (by omega)).mp c)
      have htk := e_take hl ht' hc q2' hlt
      cases hst : tstep tx len s with
      | none =>
        left
        refine Or.inr ⟨s, ⟨k, q1, hlt, hst⟩, q2', ?_⟩
        simp only [lp_X1_read_55, nm]
        rw [if_neg hk, if_neg hx, htk.2 hst, ob]
        dsimp only
        rw [if_pos rfl]
        rfl
      | some s' =>
        right
        have hti := tstep_TI q2' hlt hst
        refine ⟨(k + 1, s'), ⟨(tseq_s q1 hlt).trans hst, hti.1, by dsimp only; omega⟩, by dsimp only; have := hti.1.1; omega, ?_⟩
        dsimp only
        have h5 := hti.1.1
        simp only [lp_X1_read_55, nm]
        rw [if_neg hk, if_neg hx, htk.1 s' hst, ob]
        dsimp only
        rw [if_neg (nI_nm1 (by omega)), of1, nI_add]
end READ
