/-! the small calls -/
theorem ix_split (x : Int32) (n : Nat) (hn : n < 2 ^ 31) : x < 0 ∨ (¬ x < 0 ∧ nI n ≤ x) ∨ ∃ j, j < n ∧ x = nI j := by
  rcases pk_ix x hn with h | h | h
  · exact Or.inl h
  · by_cases c : x < 0
    · exact Or.inl c
    · exact Or.inr (Or.inl ⟨c, h⟩)
  · exact Or.inr (Or.inr h)
theorem e_below (x : Int32) (n : Nat) (hn : n < 2 ^ 31) : ((x < 0 ∨ nI n ≤ x) ∧ f_X6_below x (nI n) = some 0) ∨ (∃ j, j < n ∧ x = nI j ∧ f_X6_below x (nI n) = some 1) := by
  unfold f_X6_below jn_X6_below_13 jn_X6_below_14
  rcases ix_split x n hn with h | ⟨h0, h⟩ | ⟨j, hj, e⟩
  · left; rw [if_pos h]; exact ⟨Or.inl h, rfl⟩
  · left; rw [if_neg h0, if_pos h]; exact ⟨Or.inr h, rfl⟩
  · right
    refine ⟨j, hj, e, ?_⟩
    rw [e, if_neg (nI_pos (by omega)), if_neg (nI_ge hj hn)]
    rfl
theorem r_count (a1 rp sp nr o : Int32) : ∃ v, f_X5_count a1 rp sp nr = some v ∧ f_X6_count a1 nr rp sp o = some (v, 0) := by
  unfold f_X5_count f_X6_count jn_X6_count_41
  by_cases c0 : a1 = 0
  · rw [if_pos c0, if_pos c0]; exact ⟨nr, rfl, rfl⟩
  · rw [if_neg c0, if_neg c0]
    by_cases c1 : a1 = 1
    · rw [if_pos c1, if_pos c1]; exact ⟨rp, rfl, rfl⟩
    · rw [if_neg c1, if_neg c1]
      by_cases c2 : a1 = 2
      · rw [if_pos c2, if_pos c2]; exact ⟨sp, rfl, rfl⟩
      · rw [if_neg c2, if_neg c2]; exact ⟨-1, rfl, rfl⟩
theorem r_character (a1 o : Int32) {sz : Nat} {sh pr : Nat → Int32} (hs : sz ≤ 1300) (h : ∀ i, i < sz → sh i = pr i) :
    (∃ v, f_X5_character a1 (nI sz) sh = some (0, v) ∧ f_X6_character a1 (nI sz) pr o = some (v, 0)) ∨ (f_X5_character a1 (nI sz) sh = some (4, 0) ∧ f_X6_character a1 (nI sz) pr o = some (0, 1)) := by
  unfold f_X5_character f_X6_character jn_X5_character_15 jn_X6_character_30 f_X6_fail
  rcases e_below a1 sz (by omega) with ⟨h1, h2⟩ | ⟨j, hj, e, h2⟩
  · right
    rw [h2, ob, if_pos rfl]
    refine ⟨?_, rfl⟩
    by_cases c : a1 < 0
    · rw [if_pos c]
    · rw [if_neg c, if_neg (fun d => by
        rcases h1 with h1 | h1
        · exact c h1
        · exact absurd d (Int32.not_lt.mpr h1))]
  · left
    refine ⟨sh j, ?_, ?_⟩
    · rw [e, if_neg (nI_pos (by omega)), if_pos (nI_lt hj (by omega))]
      unfold f_X3_at jn_X3_at_22
      rw [if_neg (nI_pos (by omega)), if_neg (nI_ge hj (by omega)), rd_nI (by omega) (by omega)]
      rfl
    · rw [h2, ob, if_neg (by decide), e, rd_nI (by omega) (by omega), ob, h j hj]
theorem r_grounded {nr c : Nat} {hd ln gs : Nat → Nat} {gg : Nat → Int32} (G : GW nr hd ln (rsy gs)) (hg : GG c gg) (hs : grS nr hd ln gs c) (hc : clo nr hd ln (rsy gs) (mb c)) (a1 o : Int32) : ∃ v, f_X5_grounded a1 gg = some v ∧ f_X6_grounded a1 (nI nr) (nA hd) (nA ln) (nA gs) o = some (v, 0) := by
  obtain ⟨c', k1, k2, k3, k4⟩ := e_mground G
  have bits : ∀ k, 9 ≤ k → k ≤ 14 → (c.testBit (k - 9) = true ↔ c'.testBit (k - 9) = true) := fun k h9 h14 => (gr_bit hs hc h9 h14).trans (gr_bit k2 k3 h9 h14).symm
  unfold f_X5_grounded f_X6_grounded jn_X6_grounded_33 jn_X6_grounded_34
  by_cases c1 : a1 < 9
  · refine ⟨0, ?_, ?_⟩
    · unfold f_X2_hasGround f_X5_isKind jn_X5_isKind_16 jn_X5_isKind_17 jn_X2_hasGround_23
      rw [if_pos c1]; rfl
    · rw [if_pos c1]; rfl
  · by_cases c2 : 14 < a1
    · refine ⟨0, ?_, ?_⟩
      · unfold f_X2_hasGround f_X5_isKind jn_X5_isKind_16 jn_X5_isKind_17 jn_X2_hasGround_23
        rw [if_neg c1, if_pos c2]; rfl
      · rw [if_neg c1, if_pos c2]; rfl
    · obtain ⟨h, hh, eh⟩ := nI_of (x := a1) (fun c => c1 (Int32.lt_trans c (by decide)))
      have k9 : 9 ≤ h := by
        rcases Nat.lt_or_ge h 9 with d | d
        · rw [eh] at c1; exact absurd ((nI_ltI (b := 9) (by omega) (by omega)).mpr d) c1
        · exact d
      have k14 : h ≤ 14 := by
        rcases Nat.lt_or_ge 14 h with d | d
        · rw [eh] at c2; exact absurd ((nI_ltI (a := 14) (by omega) (by omega)).mpr d) c2
        · exact d
      refine ⟨if c.testBit (h - 9) = true then 1 else 0, ?_, ?_⟩
      · rw [eh, e_hasGround hg k9 k14, ob]
        split <;> rfl
      · have hbb := bs_bit c' k1 (h - 9) (by omega)
        rw [show h - 9 + 9 = h by omega] at hbb
        rw [if_neg c1, if_neg c2, k4, ob, eh, hbb]
        by_cases b : c.testBit (h - 9) = true
        · rw [if_pos b, if_pos ((bits h k9 k14).mp b), if_pos rfl]; rfl
        · rw [if_neg b, if_neg (fun x => b ((bits h k9 k14).mpr x)), if_neg (by decide)]; rfl
theorem r_token {n : Nat} (hn : n ≤ 16) {tl tg fc : Nat → Nat} {T : Nat} (hT : 0 < T) (hT2 : T ≤ 150) (a1 a2 o : Int32) :
    (∃ v, f_X5_token a1 a2 (nI n) (nA tl) (nA tg) (nA fc) (nI T) = some (0, v) ∧ f_X6_token a1 a2 1 (nI n) (nA tl) (nA tg) (nA fc) o = some (v, 0)) ∨ (f_X5_token a1 a2 (nI n) (nA tl) (nA tg) (nA fc) (nI T) = some (4, 0) ∧ f_X6_token a1 a2 1 (nI n) (nA tl) (nA tg) (nA fc) o = some (0, 1)) := by
  unfold f_X5_token f_X6_token jn_X5_token_34 jn_X5_token_81 jn_X6_token_33 jn_X6_token_91 f_X6_fail
  rw [if_neg (nI_ne0 hT (by omega)), if_neg (show ¬ (1 : Int32) = 0 by decide), nI_1 n]
  rcases e_below a1 (n + 1) (by omega) with ⟨h1, h2⟩ | ⟨j, hj, e, h2⟩
  · right
    rw [h2, ob, if_pos (show (0 : Int32) = 0 from rfl)]
    refine ⟨?_, rfl⟩
    by_cases c : a1 < 0
    · rw [if_pos c]
    · rw [if_neg c, if_pos]
      rcases h1 with h1 | h1
      · exact absurd h1 c
      · exact Int32.lt_of_lt_of_le (nI_lt (show n < n + 1 by omega) (by omega)) h1
  · rw [h2, ob, if_neg (show ¬ (1 : Int32) = 0 by decide), e, if_neg (nI_pos (by omega)), if_neg (nI_nlt (by omega) (by omega))]
    rcases e_below a2 3 (by omega) with ⟨g1, g2⟩ | ⟨w, hw, ew, g2⟩
    · right
      rw [show (3 : Int32) = nI 3 from rfl, g2, ob, if_pos (show (0 : Int32) = 0 from rfl)]
      refine ⟨?_, rfl⟩
      by_cases c : a2 < 0
      · rw [if_pos c]
      · rw [if_neg c, if_neg]
        rcases g1 with g1 | g1
        · exact absurd g1 c
        · exact Int32.not_le.mpr (Int32.lt_of_lt_of_le (show (2 : Int32) < nI 3 by decide) g1)
    · left
      rw [show (3 : Int32) = nI 3 from rfl, g2, ob, if_neg (show ¬ (1 : Int32) = 0 by decide), ew, if_neg (nI_pos (by omega)), if_pos (show nI w ≤ (2 : Int32) from (nI_leI (b := 2) (by omega) (by omega)).mpr (by omega))]
      by_cases w2 : w = 2
      · rw [if_pos (show nI w = (2 : Int32) by rw [w2]; rfl), if_pos (show nI w = (2 : Int32) by rw [w2]; rfl)]
        refine ⟨nI (fc (j + 1)) - nI (fc j), ?_, ?_⟩
        · unfold f_X1_commentsOf jn_X1_commentsOf_31
          rw [if_neg (nI_pos (by omega)), if_neg (nI_nlt (by omega) (by omega)), nI_1 j, rd_nA (by omega) (by omega), ob, rd_nA (by omega) (by omega), ob]
          rfl
        · rw [nI_1 j, rd_nA (by omega) (by omega), ob, rd_nA (by omega) (by omega), ob]
      · have w2' : ¬ nI w = (2 : Int32) := fun c => w2 ((nI_eq (b := 2) (by omega) (by omega)).mp c)
        rw [if_neg w2', if_neg w2']
        have sg0 : f_X1_signOf (nI j) (nI n) (nA tg) = some (if j = n then 0 else nI (tg j)) := by
          unfold f_X1_signOf jn_X1_signOf_21 jn_X1_signOf_22
          rw [if_neg (nI_pos (by omega))]
          by_cases c : j = n
          · rw [if_pos (nI_le (by omega) (by omega)), if_pos c]
          · rw [if_neg (nI_ge (by omega) (by omega)), if_neg c, rd_nA (by omega) (by omega)]; rfl
        have ln0 : f_X1_lengthOf (nI j) (nI n) (nA tl) = some (if j = n then 0 else nI (tl j)) := by
          unfold f_X1_lengthOf jn_X1_lengthOf_21 jn_X1_lengthOf_22
          rw [if_neg (nI_pos (by omega))]
          by_cases c : j = n
          · rw [if_pos (nI_le (by omega) (by omega)), if_pos c]
          · rw [if_neg (nI_ge (by omega) (by omega)), if_neg c, rd_nA (by omega) (by omega)]; rfl
        rw [sg0, ln0, ob, ob]
        by_cases c : j = n
        · rw [if_pos (show nI j = nI n by rw [c]), if_pos c, if_pos c]
          refine ⟨0, ?_, rfl⟩
          split <;> rfl
        · rw [if_neg (fun x => c ((nI_eq (by omega) (by omega)).mp x)), if_neg c, if_neg c]
          by_cases w0 : nI w = (0 : Int32)
          · rw [if_pos w0, if_pos w0, rd_nA (by omega) (by omega)]
            exact ⟨_, rfl, rfl⟩
          · rw [if_neg w0, if_neg w0, rd_nA (by omega) (by omega)]
            exact ⟨_, rfl, rfl⟩
theorem r_token0 {a1 a2 o cs ms : Int32} {A B C A' B' C' : Nat → Int32} : f_X5_token a1 a2 cs A B C 0 = some (4, 0) ∧ f_X6_token a1 a2 0 ms A' B' C' o = some (0, 1) := by
  unfold f_X5_token f_X6_token jn_X5_token_34 jn_X6_token_33 f_X6_fail
  rw [if_pos rfl, if_pos rfl]
  exact ⟨rfl, rfl⟩
/-- what a leaf's state is -/
theorem leaf_state {sg : Nat → Nat} {s i j : Nat} (h : i < j) : lf32 sg s i j / 4294967296 = j - i ↔ ¬ sg (j - 1) = s := by
  unfold lf32 lfc
  rw [if_neg (by omega), Nat.mul_div_cancel _ (by omega)]
  by_cases c : sg (j - 1) = s
  · rw [if_pos c]
    exact ⟨fun h => by omega, fun h => absurd c h⟩
  · rw [if_neg c]
    exact ⟨fun _ => c, fun _ => by omega⟩
theorem r_part {nr n T : Nat} {hd ln gs gh sg : Nat → Nat} {D : Nat → Nat → Nat → Nat} {a : AST} {ce hi wi : Nat → Int32} {M : A8} (G : GW nr hd ln (rsy gs)) (F : Fix nr hd ln (rsy gs) n (lf32 sg) D) (hn : n ≤ 16) (hsg : ∀ t, t < n → sg t ≤ 8) (hT2 : T ≤ 150) (hA : AI nr ln n D T a) (hC : CP gh ln D T a.2.2 ce hi wi) (hM : MP D T a.2.2 M) (a1 a2 o : Int32) :
    (∃ v, f_X5_part a1 a2 (nI T) ce = some (0, v) ∧ f_X6_part a1 a2 1 (nI T) (nA ln) (nA sg) M.1 M.2.1 M.2.2.1 M.2.2.2.2.1 M.2.2.2.2.2.1 M.2.2.2.2.2.2.1 o = some (v, 0)) ∨ (f_X5_part a1 a2 (nI T) ce = some (4, 0) ∧ f_X6_part a1 a2 1 (nI T) (nA ln) (nA sg) M.1 M.2.1 M.2.2.1 M.2.2.2.2.1 M.2.2.2.2.2.1 M.2.2.2.2.2.2.1 o = some (0, 1)) := by
  have hnr := G.1
  unfold f_X5_part f_X6_part jn_X5_part_25 jn_X6_part_32 jn_X6_part_192 jn_X6_part_124 jn_X6_part_76 f_X6_fail f_X4_cell
  rw [if_neg (show ¬ (1 : Int32) = 0 by decide)]
  rcases e_below a1 T (by omega) with ⟨h1, h2⟩ | ⟨k, hk, e, h2⟩
  · right
    rw [h2, ob, if_pos (show (0 : Int32) = 0 from rfl)]
    refine ⟨?_, rfl⟩
    by_cases c : a1 < 0
    · rw [if_pos c]
    · rw [if_neg c, if_pos]
      rcases h1 with h1 | h1
      · exact absurd h1 c
      · exact h1
  · rw [h2, ob, if_neg (show ¬ (1 : Int32) = 0 by decide), e, if_neg (nI_pos (by omega)), if_neg (nI_ge hk (by omega))]
    rcases e_below a2 7 (by omega) with ⟨g1, g2⟩ | ⟨w, hw, ew, g2⟩
    · right
      rw [show (7 : Int32) = nI 7 from rfl, g2, ob, if_pos (show (0 : Int32) = 0 from rfl)]
      refine ⟨?_, rfl⟩
      by_cases c : a2 < 0
      · rw [if_pos c]
      · rw [if_neg c, if_neg]
        rcases g1 with g1 | g1
        · exact absurd g1 c
        · exact Int32.not_lt.mpr g1
    · left
      rw [show (7 : Int32) = nI 7 from rfl, g2, ob, if_neg (show ¬ (1 : Int32) = 0 by decide), ew, if_neg (nI_pos (by omega)), if_pos (nI_lt hw (by omega)), nI_mul, nI_add, rd_nI (show k * 7 + w < 1050 by omega) (by omega)]
      obtain ⟨c0, c1, c2, c3, c4, c5, c6, c7, c8⟩ := hC k hk
      obtain ⟨m0, m1, m2, m3, m4, m5, m6, m7⟩ := hM k hk
      obtain ⟨b1, b2, b3, b4, b5, b6, b7⟩ := hA.2.2 k hk
      have r150 : ∀ {f : Nat → Int32}, rd f 150 (nI k) = some (f k) := fun {f} => rd_nI (by omega) (by omega)
      rw [r150, r150, r150, r150, r150, r150, ob, ob, ob, ob, ob, ob]
      have hw7 : w = 0 ∨ w = 1 ∨ w = 2 ∨ w = 3 ∨ w = 4 ∨ w = 5 ∨ w = 6 := by omega
      rcases hw7 with rfl | rfl | rfl | rfl | rfl | rfl | rfl
      · exact ⟨_, rfl, by
          rw [if_neg (by decide), if_pos (by decide)]
          show some (M.1 k, (0 : Int32)) = some (ce (k * 7), 0)
          rw [m0, c0]⟩
      · exact ⟨_, rfl, by
          rw [if_neg (by decide), if_neg (by decide), if_pos (by decide)]
          show some (M.2.1 k, (0 : Int32)) = some (ce (k * 7 + 1), 0)
          rw [m1, c1]⟩
      · exact ⟨_, rfl, by
          rw [if_neg (by decide), if_neg (by decide), if_neg (by decide)]
          show some (M.2.2.1 k, (0 : Int32)) = some (ce (k * 7 + 2), 0)
          rw [m2, c2]⟩
      · exact ⟨_, rfl, by
          rw [if_pos (by decide), if_neg (by decide), if_pos (by decide)]
          show some (M.2.2.2.2.1 k, (0 : Int32)) = some (ce (k * 7 + 3), 0)
          rw [m4, c3]⟩
      · exact ⟨_, rfl, by
          rw [if_pos (by decide), if_neg (by decide), if_neg (by decide), if_pos (by decide)]
          show some (M.2.2.2.2.2.1 k - M.2.2.2.2.1 k, (0 : Int32)) = some (ce (k * 7 + 4), 0)
          rw [m4, m5, nI_sub b3, c4]⟩
      · exact ⟨_, rfl, by
          rw [if_pos (by decide), if_neg (by decide), if_neg (by decide), if_neg (by decide)]
          show some (M.2.2.2.2.2.2.1 k, (0 : Int32)) = some (ce (k * 7 + 5), 0)
          rw [m6, c5]⟩
      · refine ⟨_, rfl, ?_⟩
        rw [if_pos (by decide), if_pos (by decide), m0, m1, m4, m5, c6]
        by_cases h8 : pSy (a.2.2 k) ≤ 8
        · rw [if_pos h8, if_pos h8, if_pos (by decide)]
          unfold pLst
          by_cases hft : pFr (a.2.2 k) = pTo (a.2.2 k)
          · rw [if_pos (show nI (pTo (a.2.2 k)) = nI (pFr (a.2.2 k)) by rw [hft]), if_pos hft]
            rfl
          · rw [if_neg (fun x => hft ((nI_eq (by omega) (by omega)).mp x).symm), if_neg hft, nI_sub1 (by omega), rd_nA (by omega) (by omega), ob]
            have hls := leaf_state (sg := sg) (s := pSy (a.2.2 k)) (show pFr (a.2.2 k) < pTo (a.2.2 k) by omega)
            unfold pCost
            rw [F.1 _ _ _ b1 h8 b3 b4]
            by_cases hd2 : sg (pTo (a.2.2 k) - 1) = pSy (a.2.2 k)
            · rw [ob, if_pos (show nI (sg (pTo (a.2.2 k) - 1)) = nI (pSy (a.2.2 k)) by rw [hd2]), if_neg (fun x => (hls.mp x) hd2)]
              rfl
            · have : ¬ nI (sg (pTo (a.2.2 k) - 1)) = nI (pSy (a.2.2 k)) := fun x => hd2 ((nI_eq (by have := hsg (pTo (a.2.2 k) - 1) (by omega); omega) (by omega)).mp x)
              rw [ob, if_neg this, if_pos (hls.mpr hd2)]
              rfl
        · rw [if_neg h8, if_neg h8, if_neg (nI_pos (by have := b5 (by omega); omega)), ob, rd_nA (by have := b5 (by omega); omega) (by omega)]
          rfl
