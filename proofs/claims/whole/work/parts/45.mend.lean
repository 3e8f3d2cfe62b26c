/-! the reference's end loop -/
abbrev R29 : Type := Int32 × (Int32) × (Int32) × (Int32) × (Int32) × (Int32) × (Int32) × (Int32) × (Int32) × (Int32) × (Nat → Int32) × (Nat → Int32) × (Nat → Int32) × (Nat → Int32) × (Nat → Int32) × (Nat → Int32) × (Nat → Int32) × (Nat → Int64) × (Nat → Int64) × (Nat → Int32) × (Nat → Int32) × (Nat → Int32) × (Nat → Int32) × (Nat → Int32) × (Nat → Int32) × (Nat → Int32) × (Nat → Int32) × (Nat → Int32) × (Nat → Int32)
abbrev K28 : Type := (Int32) → (Int32) → (Int32) → (Int32) → (Int32) → (Int32) → (Int32) → (Int32) → (Int32) → (Nat → Int32) → (Nat → Int32) → (Nat → Int32) → (Nat → Int32) → (Nat → Int32) → (Nat → Int32) → (Nat → Int32) → (Nat → Int64) → (Nat → Int64) → (Nat → Int32) → (Nat → Int32) → (Nat → Int32) → (Nat → Int32) → (Nat → Int32) → (Nat → Int32) → (Nat → Int32) → (Nat → Int32) → (Nat → Int32) → (Nat → Int32) → Option R29
theorem e_mEnd {n : Nat} {B : Nat → Nat} (hn : n ≤ 16) (hB : ∀ x, B x ≤ dINF) {q1 q2 : Int32} {q3 q4 q5 q6 : Nat → Int32} {K : K28} {th : Int32} {tr : Int32} {cm : Int32} {pa : Int32} {op : Int32} {rp : Int32} {pd : Int32} {kp : Nat → Int32} {tA : Nat → Int32} {tL : Nat → Int32} {sg : Nat → Int32} {cA : Nat → Int32} {cL : Nat → Int32} {fC : Nat → Int32} {ro : Nat → Int64} {cu : Nat → Int32} {rO : Nat → Int32} {sO : Nat → Int32} {pO : Nat → Int32} {pl : Nat → Int32} {fr : Nat → Int32} {to : Nat → Int32} {co : Nat → Int32} {de : Nat → Int32} {wa : Nat → Int32} :
    ∃ e, isEnd (fun e => B e + (n - e) * 16777216) n e ∧ lp_X6_repair_52 q1 q2 q3 q4 q5 q6 K FU (nI 1) th tr (nI n) cm pa (nI 0) op rp pd kp tA tL sg cA cL fC (lA B) ro cu rO sO pO pl fr to co de wa = K th tr (nI n) cm pa (nI e) op rp pd kp tA tL sg cA cL fC (lA B) ro cu rO sO pO pl fr to co de wa := by
  have hI := dINF_v
  have key := loopE (fun N (w : Nat × Nat) => lp_X6_repair_52 q1 q2 q3 q4 q5 q6 K N (nI w.1) th tr (nI n) cm pa (nI w.2) op rp pd kp tA tL sg cA cL fC (lA B) ro cu rO sO pO pl fr to co de wa)
    (fun R => ∃ e, isEnd (fun e => B e + (n - e) * 16777216) n e ∧ R = K th tr (nI n) cm pa (nI e) op rp pd kp tA tL sg cA cL fC (lA B) ro cu rO sO pO pl fr to co de wa)
    (fun w => 1 ≤ w.1 ∧ w.1 ≤ n + 1 ∧ w.2 < w.1 ∧ ∀ e', e' < w.1 → B w.2 + (n - w.2) * 16777216 ≤ B e' + (n - e') * 16777216 ∧ (w.2 < e' → B w.2 + (n - w.2) * 16777216 < B e' + (n - e') * 16777216)) (fun w => n + 1 - w.1) ?_ FU (1, 0) (FU_gt (by dsimp only; omega)) ⟨by dsimp only; omega, by dsimp only; omega, by dsimp only; omega, fun e' he' => ?_⟩
  · exact key
  · rintro N ⟨t, b⟩ ⟨h1, h2, h3, h4⟩
    dsimp only at h1 h2 h3 h4 ⊢
    simp only [lp_X6_repair_52, jn_X6_repair_121, nm]
    by_cases h : n < t
    · left
      rw [if_pos ((nI_ltI (by omega) (by omega)).mpr h)]
      exact ⟨b, ⟨by omega, fun e' he' => h4 e' (by omega)⟩, rfl⟩
    · right
      have b1 := hB t
      have b2 := hB b
      rw [if_neg (fun c => h ((nI_ltI (by omega) (by omega)).mp c)), rd_lA (by omega) (by omega), ob, rd_lA (by omega) (by omega), ob, nI_sub (show t ≤ n by omega), nI_sub (show b ≤ n by omega), nI_l (by omega), nI_l (by omega), show (16777216 : Int64) = lN 16777216 from rfl, lN_mul, lN_mul, lN_add, lN_add, of1, nI_add, Nat.mul_comm 16777216 (n - t), Nat.mul_comm 16777216 (n - b)]
      by_cases hc : B b + (n - b) * 16777216 < B t + (n - t) * 16777216
      · rw [if_pos ((lgc_gt (by omega) (by omega)).mpr hc)]
        refine ⟨(t + 1, b), ⟨by dsimp only; omega, by dsimp only; omega, by dsimp only; omega, fun e' he' => ?_⟩, by dsimp only; omega, rfl⟩
        dsimp only at he' ⊢
        by_cases e1 : e' = t
        · rw [e1]; exact ⟨by omega, fun _ => hc⟩
        · exact h4 e' (by omega)
      · rw [if_neg (fun c => hc ((lgc_gt (by omega) (by omega)).mp c))]
        refine ⟨(t + 1, t), ⟨by dsimp only; omega, by dsimp only; omega, by dsimp only; omega, fun e' he' => ?_⟩, by dsimp only; omega, rfl⟩
        dsimp only at he' ⊢
        by_cases e1 : e' = t
        · rw [e1]; exact ⟨Nat.le_refl _, fun c => by omega⟩
        · have := (h4 e' (by omega)).1
          exact ⟨by omega, fun c => by omega⟩
  · dsimp only at he' ⊢
    have : e' = 0 := by omega
    rw [this]
    exact ⟨Nat.le_refl _, fun c => by omega⟩
