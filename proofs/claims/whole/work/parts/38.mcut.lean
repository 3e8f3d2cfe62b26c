/-! the reference's cutText follows the same steps -/
section MCUT
variable {tx : Nat → Nat} {len : Nat} {mt : Nat → Int32}
/-- the reference's kept text holds the text below a place -/
def kpt (tx : Nat → Nat) (a : Nat) (mk : Nat → Int32) : Prop := ∀ i, i < a → mk i = nI (tx i)
abbrev R10 : Type := Int32 × (Int32) × (Int32) × (Nat → Int32) × (Nat → Int32) × (Nat → Int32) × (Nat → Int32) × (Nat → Int32) × (Nat → Int32) × (Nat → Int32)
theorem e_mkeep (hl : len ≤ 80) (ht : ∀ i, i < len → mt i = nI (tx i)) {a e : Nat} (hae : a ≤ e) (hel : e ≤ len) {mk : Nat → Int32} (hk : kpt tx a mk) {L : Int32} {k19 : (Int32) → (Int32) → (Int32) → (Nat → Int32) → (Nat → Int32) → (Nat → Int32) → (Nat → Int32) → (Nat → Int32) → (Nat → Int32) → (Nat → Int32) → Option R10} {x1 x2 : Int32} {A B C D F G : Nat → Int32} :
    ∃ mk', kpt tx e mk' ∧ jn_X6_cutText_234 L mt k19 (nI a) (nI e) x1 x2 mk A B C D F G = k19 (nI e) x1 x2 mk' A B C D F G := by
  unfold jn_X6_cutText_234
  simp only [nm]
  have key := loopE (fun N (q : Nat × (Nat → Int32)) => lp_X6_cutText_236 L mt (fun x2 m_tokens m_comments m_kept m_tokenAt m_tokenLength m_sign m_commentAt m_commentLength m_firstComment => k19 x2 m_tokens m_comments m_kept m_tokenAt m_tokenLength m_sign m_commentAt m_commentLength m_firstComment) N (nI e) (nI q.1) x1 x2 q.2 A B C D F G)
    (fun R => ∃ mk', kpt tx e mk' ∧ R = k19 (nI e) x1 x2 mk' A B C D F G)
    (fun q => q.1 ≤ e ∧ kpt tx q.1 q.2) (fun q => e - q.1) ?_ FU (a, mk) (FU_gt (by dsimp only; omega)) ⟨hae, hk⟩
  · exact key
  · rintro N ⟨c, m⟩ ⟨h1, h2⟩
    dsimp only at h1 h2 ⊢
    simp only [lp_X6_cutText_236, nm]
    by_cases h : e ≤ c
    · left
      refine ⟨m, fun i hi => h2 i (by omega), ?_⟩
      rw [if_pos ((nI_leI (by omega) (by omega)).mpr h)]
    · right
      refine ⟨(c + 1, upd m c (nI (tx c))), ⟨by dsimp only; omega, ?_⟩, by dsimp only; omega, ?_⟩
      · intro i hi
        dsimp only at hi ⊢
        by_cases hic : i = c
        · rw [hic, pk_us]
        · rw [pk_un hic]
          exact h2 i (by omega)
      · dsimp only
        rw [if_neg (fun x => h ((nI_leI (by omega) (by omega)).mp x)), rd_nI (by omega) (by omega), ob, ht c (by omega), wrI_nI (by omega) (by omega), ob, of1, nI_add]
theorem e_mstep (hl : len ≤ 80) (ht : ∀ i, i < len → mt i = nI (tx i)) (hc : ∀ i, i < len → tx i ≤ 126) {s : TS} (hT : TI len s) (hlt : s.1 < len) {mk : Nat → Int32} (hk : kpt tx s.1 mk) {N : Nat} {k264 : (Int32) → (Int32) → (Nat → Int32) → (Nat → Int32) → (Nat → Int32) → (Nat → Int32) → (Nat → Int32) → (Nat → Int32) → (Nat → Int32) → Option R10} :
    (∀ s', tstep tx len s = some s' → ∃ mk', kpt tx s'.1 mk' ∧ lp_X6_cutText_19 (nI len) mt k264 (N + 1) (nI s.1) (nI s.2.1) (nI s.2.2.1) mk (nA s.2.2.2.1) (nA s.2.2.2.2.1) (nA s.2.2.2.2.2.1) (nA s.2.2.2.2.2.2.2.1) (nA s.2.2.2.2.2.2.2.2) (nA s.2.2.2.2.2.2.1) = lp_X6_cutText_19 (nI len) mt k264 N (nI s'.1) (nI s'.2.1) (nI s'.2.2.1) mk' (nA s'.2.2.2.1) (nA s'.2.2.2.2.1) (nA s'.2.2.2.2.2.1) (nA s'.2.2.2.2.2.2.2.1) (nA s'.2.2.2.2.2.2.2.2) (nA s'.2.2.2.2.2.2.1)) ∧
    (tstep tx len s = none → ∃ mk', lp_X6_cutText_19 (nI len) mt k264 (N + 1) (nI s.1) (nI s.2.1) (nI s.2.2.1) mk (nA s.2.2.2.1) (nA s.2.2.2.2.1) (nA s.2.2.2.2.2.1) (nA s.2.2.2.2.2.2.2.1) (nA s.2.2.2.2.2.2.2.2) (nA s.2.2.2.2.2.2.1) = some (0, nI s.2.1, nI s.2.2.1, mk', nA s.2.2.2.1, nA s.2.2.2.2.1, nA s.2.2.2.2.2.1, nA s.2.2.2.2.2.2.2.1, nA s.2.2.2.2.2.2.2.2, nA s.2.2.2.2.2.2.1)) := by
  obtain ⟨a, nt, nc, ts, tl, tg, fc, cs, cl⟩ := s
  obtain ⟨h1, h2, h3⟩ := hT
  dsimp only at h1 h2 h3 hlt hk ⊢
  have hb := hc a hlt
  have hte := tEnd_in (tx := tx) hlt
  have hcl := clsF_ge (tx := tx) (len := len) (a := a)
  have i32 : ∀ v : Nat, v < 1000 → (nI (tx a) = nI v ↔ tx a = v) := fun v hv => nI_eq (by omega) (by omega)
  have hk1 : kpt tx a (upd mk a (nI (tx a))) := fun i hi => by rw [pk_un (by omega)]; exact hk i hi
  generalize hmk : upd mk a (nI (tx a)) = mk1 at hk1
  generalize hK : lp_X6_cutText_19 (nI len) mt k264 N = K
  have unf : lp_X6_cutText_19 (nI len) mt k264 (N + 1) (nI a) (nI nt) (nI nc) mk (nA ts) (nA tl) (nA tg) (nA cs) (nA cl) (nA fc) = jn_X6_cutText_59 (nI len) mt K (nI a) (if tx a = 123 ∧ clsF tx len a < len then nI (clsF tx len a + 1) else -1) (nI nt) (nI nc) mk1 (nA ts) (nA tl) (nA tg) (nA cs) (nA cl) (nA fc) := by
    simp only [lp_X6_cutText_19]
    rw [if_neg (fun c => (show ¬ len ≤ a by omega) ((nI_leI (by omega) (by omega)).mp c)), rd_nI (by omega) (by omega), ob, ht a hlt, wrI_nI (by omega) (by omega), ob, ob, hmk, hK]
    by_cases c3 : tx a = 123
    · rw [if_pos (show nI (tx a) = (123 : Int32) from (i32 123 (by omega)).mpr c3), e_commentEnd hl ht hc hlt, ob]
      by_cases c4 : clsF tx len a < len
      · rw [if_pos c4, if_pos ⟨c3, c4⟩]
      · rw [if_neg c4, if_neg (fun x => c4 x.2)]
    · rw [if_neg (show ¬ nI (tx a) = (123 : Int32) from fun x => c3 ((i32 123 (by omega)).mp x)), if_neg (fun x => c3 x.1)]
  rw [unf]
  unfold tstep
  dsimp only
  by_cases c2 : tx a = 123 ∧ clsF tx len a < len
  · rw [if_pos c2, if_neg (show ¬ (tx a = 32 ∨ tx a = 10) by omega), if_pos c2]
    refine ⟨fun s' hs => ?_, fun hs => by cases hs⟩
    obtain rfl := Option.some.inj hs
    dsimp only
    obtain ⟨mk', g1, g2⟩ := e_mkeep hl ht (show a ≤ clsF tx len a + 1 by omega) (show clsF tx len a + 1 ≤ len by omega) hk1 (L := nI len) (k19 := K) (x1 := nI nt) (x2 := nI (nc + 1)) (A := nA ts) (B := nA tl) (C := nA tg) (D := nA (updN cs nc a)) (F := nA (updN cl nc (clsF tx len a + 1 - a))) (G := nA fc)
    refine ⟨mk', g1, ?_⟩
    rw [← g2]
    simp only [jn_X6_cutText_59, nm]
    rw [if_neg (show ¬ nI (clsF tx len a + 1) ≤ (0 : Int32) from fun c => (show ¬ clsF tx len a + 1 ≤ 0 by omega) ((nI_leI (b := 0) (by omega) (by omega)).mp c)), wr_nA (by omega) (by omega), ob, nI_sub (show a ≤ clsF tx len a + 1 by omega), wr_nA (by omega) (by omega), ob, nI_1 nc]
  · rw [if_neg c2, if_neg c2]
    by_cases c1 : tx a = 32 ∨ tx a = 10
    · rw [if_pos c1]
      refine ⟨fun s' hs => ?_, fun hs => by cases hs⟩
      obtain rfl := Option.some.inj hs
      dsimp only
      obtain ⟨mk', g1, g2⟩ := e_mkeep hl ht (show a ≤ a + 1 by omega) (show a + 1 ≤ len by omega) hk1 (L := nI len) (k19 := K) (x1 := nI nt) (x2 := nI nc) (A := nA ts) (B := nA tl) (C := nA tg) (D := nA cs) (F := nA cl) (G := nA fc)
      refine ⟨mk', g1, ?_⟩
      rw [← g2]
      simp only [jn_X6_cutText_59, jn_X6_cutText_230, nm]
      rw [if_pos (by decide), rd_nI (by omega) (by omega), ob, ht a hlt, ob, nI_1 a]
      by_cases c5 : tx a = 32
      · rw [if_pos (show nI (tx a) = (32 : Int32) from (i32 32 (by omega)).mpr c5)]
      · rw [if_neg (show ¬ nI (tx a) = (32 : Int32) from fun x => c5 ((i32 32 (by omega)).mp x)), if_pos (show nI (tx a) = (10 : Int32) from (i32 10 (by omega)).mpr (by omega))]
    · rw [if_neg c1]
      have pre : jn_X6_cutText_59 (nI len) mt K (nI a) (-1) (nI nt) (nI nc) mk1 (nA ts) (nA tl) (nA tg) (nA cs) (nA cl) (nA fc) = if nt = 16 then some (0, nI nt, nI nc, mk1, nA ts, nA tl, nA tg, nA cs, nA cl, nA fc) else jn_X6_cutText_234 (nI len) mt K (nI a) (nI (tEnd tx len a)) (nI (nt + 1)) (nI nc) mk1 (nA (updN ts nt a)) (nA (updN tl nt (tEnd tx len a - a))) (nA (updN tg nt (if isLet (tx a) = true then tx a - 96 else 0))) (nA cs) (nA cl) (nA (updN fc (nt + 1) nc)) := by
        simp only [jn_X6_cutText_59, jn_X6_cutText_202, jn_X6_cutText_203, nm]
        rw [if_pos (by decide), rd_nI (by omega) (by omega), ob, ht a hlt, ob, if_neg (show ¬ nI (tx a) = (32 : Int32) from fun x => c1 (Or.inl ((i32 32 (by omega)).mp x))), if_neg (show ¬ nI (tx a) = (10 : Int32) from fun x => c1 (Or.inr ((i32 10 (by omega)).mp x)))]
        by_cases c3 : nt = 16
        · rw [if_pos (show nI nt = (16 : Int32) by rw [c3]; rfl), if_pos c3]
          rfl
        · rw [if_neg (show ¬ nI nt = (16 : Int32) from fun c => c3 ((nI_eq (b := 16) (by omega) (by omega)).mp c)), if_neg c3, e_tokenEnd hl ht hc hlt, ob, show (if isLet (tx a) = true then digF tx len (a + 1) else a + 1) = tEnd tx len a from rfl, wr_nA (by omega) (by omega), ob, nI_sub (show a ≤ tEnd tx len a by omega), wr_nA (by omega) (by omega), ob, ob, nI_1 nt]
          by_cases hlet : isLet (tx a) = true
          · have hlet' : 97 ≤ tx a ∧ tx a ≤ 104 := by simpa [isLet] using hlet
            rw [if_neg (show ¬ nI (tx a) < (97 : Int32) from fun c => (show ¬ tx a < 97 by omega) ((nI_ltI (b := 97) (by omega) (by omega)).mp c)), ob, if_neg (show ¬ (104 : Int32) < nI (tx a) from fun c => (show ¬ 104 < tx a by omega) ((nI_ltI (a := 104) (by omega) (by omega)).mp c)), ob, show (96 : Int32) = nI 96 from rfl, nI_sub (show 96 ≤ tx a by omega), wr_nA (by omega) (by omega), ob, wr_nA (by omega) (by omega), ob, if_pos hlet]
          · have h' : tx a < 97 ∨ 104 < tx a := by
              have : ¬ (97 ≤ tx a ∧ tx a ≤ 104) := by simpa [isLet] using hlet
              omega
            rw [if_neg hlet]
            by_cases h5 : tx a < 97
            · rw [if_pos (show nI (tx a) < (97 : Int32) from (nI_ltI (b := 97) (by omega) (by omega)).mpr h5), show (0 : Int32) = nI 0 from rfl, wr_nA (by omega) (by omega), ob, wr_nA (by omega) (by omega), ob]
            · rw [if_neg (show ¬ nI (tx a) < (97 : Int32) from fun c => h5 ((nI_ltI (b := 97) (by omega) (by omega)).mp c)), ob, if_pos (show (104 : Int32) < nI (tx a) from (nI_ltI (a := 104) (by omega) (by omega)).mpr (by omega)), show (0 : Int32) = nI 0 from rfl, wr_nA (by omega) (by omega), ob, wr_nA (by omega) (by omega), ob]
      rw [pre]
      by_cases c3 : nt = 16
      · rw [if_pos c3, if_pos c3]
        exact ⟨fun s' hs => (by cases hs), fun _ => ⟨mk1, rfl⟩⟩
      · rw [if_neg c3, if_neg c3]
        refine ⟨fun s' hs => ?_, fun hs => (by cases hs)⟩
        obtain rfl := Option.some.inj hs
        dsimp only
        exact e_mkeep hl ht (show a ≤ tEnd tx len a by omega) hte.2 hk1
theorem e_cutText {s0 : TS} (hl : len ≤ 80) (ht : ∀ i, i < len → mt i = nI (tx i)) (hc : ∀ i, i < len → tx i ≤ 126) {o1 o2 : Int32} {mk : Nat → Int32} {ts tl tg fc cs cl : Nat → Nat} (h0 : s0 = (0, 0, 0, ts, tl, tg, updN fc 0 0, cs, cl)) :
    (∃ s mk', tGood tx len s0 s ∧ kpt tx len mk' ∧ f_X6_cutText (nI len) mt o1 o2 mk (nA ts) (nA tl) (nA tg) (nA cs) (nA cl) (nA fc) = some (1, nI s.2.1, nI s.2.2.1, mk', nA s.2.2.2.1, nA s.2.2.2.2.1, nA s.2.2.2.2.2.1, nA s.2.2.2.2.2.2.2.1, nA s.2.2.2.2.2.2.2.2, nA (updN s.2.2.2.2.2.2.1 (s.2.1 + 1) s.2.2.1))) ∨
    (∃ s mk', tBad tx len s0 s ∧ f_X6_cutText (nI len) mt o1 o2 mk (nA ts) (nA tl) (nA tg) (nA cs) (nA cl) (nA fc) = some (0, nI s.2.1, nI s.2.2.1, mk', nA s.2.2.2.1, nA s.2.2.2.2.1, nA s.2.2.2.2.2.1, nA s.2.2.2.2.2.2.2.1, nA s.2.2.2.2.2.2.2.2, nA s.2.2.2.2.2.2.1)) := by
  unfold f_X6_cutText
  simp only [nm]
  rw [show (0 : Int32) = nI 0 from rfl, wr_nA (by omega) (by omega), ob]
  have key := loopE (fun N (q : Nat × TS × (Nat → Int32)) => lp_X6_cutText_19 (nI len) mt (fun m_tokens m_comments m_kept m_tokenAt m_tokenLength m_sign m_commentAt m_commentLength m_firstComment => (wrI m_firstComment 18 (m_tokens + 1) m_comments).bind fun m_firstComment_30 => (zc 1).bind fun v31 => some (v31, m_tokens, m_comments, m_kept, m_tokenAt, m_tokenLength, m_sign, m_commentAt, m_commentLength, m_firstComment_30)) N (nI q.2.1.1) (nI q.2.1.2.1) (nI q.2.1.2.2.1) q.2.2 (nA q.2.1.2.2.2.1) (nA q.2.1.2.2.2.2.1) (nA q.2.1.2.2.2.2.2.1) (nA q.2.1.2.2.2.2.2.2.2.1) (nA q.2.1.2.2.2.2.2.2.2.2) (nA q.2.1.2.2.2.2.2.2.1))
    (fun R => (∃ s mk', tGood tx len s0 s ∧ kpt tx len mk' ∧ R = some (1, nI s.2.1, nI s.2.2.1, mk', nA s.2.2.2.1, nA s.2.2.2.2.1, nA s.2.2.2.2.2.1, nA s.2.2.2.2.2.2.2.1, nA s.2.2.2.2.2.2.2.2, nA (updN s.2.2.2.2.2.2.1 (s.2.1 + 1) s.2.2.1))) ∨ (∃ s mk', tBad tx len s0 s ∧ R = some (0, nI s.2.1, nI s.2.2.1, mk', nA s.2.2.2.1, nA s.2.2.2.2.1, nA s.2.2.2.2.2.1, nA s.2.2.2.2.2.2.2.1, nA s.2.2.2.2.2.2.2.2, nA s.2.2.2.2.2.2.1)))
    (fun q => tseq tx len s0 q.1 = some q.2.1 ∧ TI len q.2.1 ∧ kpt tx q.2.1.1 q.2.2) (fun q => len - q.2.1.1) ?_ FU (0, s0, mk) (FU_gt (by rw [h0]; dsimp only; omega)) ⟨rfl, by rw [h0]; exact ⟨Nat.zero_le _, Nat.zero_le _, Nat.le_refl _⟩, by rw [h0]; exact fun i hi => absurd hi (Nat.not_lt_zero _)⟩
  · rw [h0] at key ⊢
    exact key
  · rintro N ⟨k, s, m⟩ ⟨q1, q2, q3⟩
    dsimp only at q1 q2 q3 ⊢
    by_cases he : len ≤ s.1
    · left
      have t2 := q2.2.1
      refine Or.inl ⟨s, m, ⟨k, q1, he⟩, fun i hi => q3 i (by omega), ?_⟩
      simp only [lp_X6_cutText_19]
      have := q2.1
      rw [if_pos ((nI_leI (by omega) (by omega)).mpr he), nI_1 s.2.1, wr_nA (by omega) (by omega), ob]
      rfl
    · have hlt : s.1 < len := by omega
      have hst' := e_mstep hl ht hc q2 hlt q3 (N := N) (k264 := fun m_tokens m_comments m_kept m_tokenAt m_tokenLength m_sign m_commentAt m_commentLength m_firstComment => (wrI m_firstComment 18 (m_tokens + 1) m_comments).bind fun m_firstComment_30 => (zc 1).bind fun v31 => some (v31, m_tokens, m_comments, m_kept, m_tokenAt, m_tokenLength, m_sign, m_commentAt, m_commentLength, m_firstComment_30))
      cases hst : tstep tx len s with
      | none =>
        left
        obtain ⟨mk', g⟩ := hst'.2 hst
        exact Or.inr ⟨s, mk', ⟨k, q1, hlt, hst⟩, g⟩
      | some s' =>
        right
        have hti := tstep_TI q2 hlt hst
        obtain ⟨mk', g1, g2⟩ := hst'.1 s' hst
        exact ⟨(k + 1, s', mk'), ⟨(tseq_s q1 hlt).trans hst, hti.1, g1⟩, by dsimp only; have := hti.2; omega, g2⟩
end MCUT
