/-! grounded kinds: the least set that is closed under the rules -/
def clo (nr : Nat) (hd ln : Nat → Nat) (sy : Nat → Nat → Nat) (S : Nat → Prop) : Prop := ∀ r, r < nr → (∀ m, m < ln r → sy r m ≤ 8 ∨ S (sy r m)) → S (hd r)
def Gr (nr : Nat) (hd ln : Nat → Nat) (sy : Nat → Nat → Nat) (k : Nat) : Prop := ∀ S, clo nr hd ln sy S → S k
theorem Gr_clo {nr : Nat} {hd ln : Nat → Nat} {sy : Nat → Nat → Nat} : clo nr hd ln sy (Gr nr hd ln sy) := fun r hr h S hS => hS r hr (fun m hm => (h m hm).imp id (fun g => g S hS))
def mb (c k : Nat) : Prop := c.testBit (k - 9) = true
def pc (c : Nat) : Nat := (c.testBit 0).toNat + (c.testBit 1).toNat + (c.testBit 2).toNat + (c.testBit 3).toNat + (c.testBit 4).toNat + (c.testBit 5).toNat
theorem pc_or : ∀ c, c < 64 → ∀ h, h < 6 → pc (c ||| 2 ^ h) = pc c + (if c.testBit h = true then 0 else 1) ∧ c ||| 2 ^ h < 64 ∧ (c.testBit h = true → c ||| 2 ^ h = c) := by decide +kernel
theorem pc_6 : ∀ c, c < 64 → 6 ≤ pc c → ∀ h, h < 6 → c.testBit h = true := by decide +kernel
theorem or_bit (c h j : Nat) : (c ||| 2 ^ h).testBit j = true ↔ c.testBit j = true ∨ h = j := by
  rw [Nat.testBit_or, Nat.testBit_two_pow]
  simp
theorem bs_or : ∀ c, c < 64 → ∀ h, h < 6 → nI (c * 512) ||| ((1 : Int32) <<< (nI (h + 9) &&& 31)) = nI ((c ||| 2 ^ h) * 512) := by decide +kernel
theorem bs_bit : ∀ c, c < 64 → ∀ h, h < 6 → ((nI (c * 512) >>> (nI (h + 9) &&& 31)) &&& 1) = (if c.testBit h = true then 1 else 0) := by decide +kernel
/-- the class's row of grounds is a set of bits -/
def GG (c : Nat) (gg : Nat → Int32) : Prop := c < 64 ∧ ∀ x, x < 6 → gg x = (if c.testBit x = true then 1 else 0)
section GROUND
variable {nr : Nat} {hd ln gs : Nat → Nat}
def grS (nr : Nat) (hd ln gs : Nat → Nat) (c : Nat) : Prop := ∀ x, x < 6 → c.testBit x = true → Gr nr hd ln (rsy gs) (9 + x)
def std (ln gs : Nat → Nat) (c r : Nat) : Prop := ∀ m, m < ln r → rsy gs r m ≤ 8 ∨ mb c (rsy gs r m)
theorem grS_step (G : GW nr hd ln (rsy gs)) {c r : Nat} (hr : r < nr) (hs : grS nr hd ln gs c) (h : std ln gs c r) : grS nr hd ln gs (c ||| 2 ^ (hd r - 9)) := by
  obtain ⟨g1, g2, g3, g4⟩ := G.2 r hr
  intro x hx hb
  rcases (or_bit _ _ _).mp hb with h1 | h1
  · exact hs x hx h1
  · rw [show 9 + x = hd r by omega]
    refine Gr_clo r hr (fun m hm => ?_)
    rcases h m hm with h2 | h2
    · exact Or.inl h2
    · by_cases h8 : rsy gs r m ≤ 8
      · exact Or.inl h8
      · have := g4 m hm
        have h3 := hs (rsy gs r m - 9) (by omega) h2
        rw [show 9 + (rsy gs r m - 9) = rsy gs r m by omega] at h3
        exact Or.inr h3
theorem gr_bit {c k : Nat} (hs : grS nr hd ln gs c) (hc : clo nr hd ln (rsy gs) (mb c)) (h9 : 9 ≤ k) (h14 : k ≤ 14) : c.testBit (k - 9) = true ↔ Gr nr hd ln (rsy gs) k := by
  constructor
  · intro h
    have := hs (k - 9) (by omega) h
    rwa [show 9 + (k - 9) = k by omega] at this
  · intro h
    exact h (mb c) hc
theorem e_hasGround {c k : Nat} {gg : Nat → Int32} (hg : GG c gg) (h9 : 9 ≤ k) (h14 : k ≤ 14) : f_X2_hasGround (nI k) gg = some (if c.testBit (k - 9) = true then 1 else 0) := by
  unfold f_X2_hasGround jn_X2_hasGround_23 jn_X2_hasGround_24
  rw [e_isKind1 h9 h14, ob, if_neg (by decide), show (9 : Int32) = nI 9 from rfl, nI_sub h9, rd_nI (by omega) (by omega), ob, hg.2 _ (by omega)]
  by_cases h : c.testBit (k - 9) = true
  · rw [if_pos h, if_neg (by decide)]
    rfl
  · rw [if_neg h, if_pos rfl]
    rfl
theorem e_stands (G : GW nr hd ln (rsy gs)) {c r : Nat} {gg : Nat → Int32} (hg : GG c gg) (hr : r < nr) : (std ln gs c r ∧ f_X2_standsOnGround (nI r) (nA ln) (nA gs) gg = some 1) ∨ (¬ std ln gs c r ∧ f_X2_standsOnGround (nI r) (nA ln) (nA gs) gg = some 0) := by
  obtain ⟨g1, g2, g3, g4⟩ := G.2 r hr
  have hnr := G.1
  unfold f_X2_standsOnGround
  simp only [nm]
  have key := loopE (fun N t => lp_X2_standsOnGround_2 (nA ln) (nA gs) gg ((zc 1).bind fun v9 => some v9) N (nI r) (nI t))
    (fun R => (std ln gs c r ∧ R = some 1) ∨ (¬ std ln gs c r ∧ R = some 0))
    (fun t => t ≤ ln r ∧ ∀ m, m < t → rsy gs r m ≤ 8 ∨ mb c (rsy gs r m)) (fun t => ln r - t) ?_ FU 0 (FU_gt (by omega)) ⟨by omega, fun m hm => absurd hm (by omega)⟩
  · exact key
  · rintro N t ⟨h1, h2⟩
    simp only [lp_X2_standsOnGround_2, jn_X2_standsOnGround_36, nm]
    rw [rd_nA (by omega) (by omega), ob]
    by_cases h : ln r ≤ t
    · left; left
      rw [if_pos ((nI_leI (by omega) (by omega)).mpr h)]
      exact ⟨fun m hm => h2 m (by omega), rfl⟩
    · have hgt := g4 t (by omega)
      rw [if_neg (fun x => h ((nI_leI (by omega) (by omega)).mp x)), e_symbolOf (by omega), ob, show gs (r * 5 + t) = rsy gs r t from rfl]
      by_cases h8 : rsy gs r t ≤ 8
      · right
        rw [e_isKind0 h8, ob, if_pos rfl, of1, nI_add]
        refine ⟨t + 1, ⟨by omega, fun m hm => ?_⟩, by omega, rfl⟩
        by_cases e : m = t
        · rw [e]; exact Or.inl h8
        · exact h2 m (by omega)
      · rw [e_isKind1 (by omega) hgt.2, ob, if_neg (by decide), e_hasGround hg (by omega) hgt.2, ob]
        by_cases hb : c.testBit (rsy gs r t - 9) = true
        · right
          rw [if_pos hb, if_neg (by decide), of1, nI_add]
          refine ⟨t + 1, ⟨by omega, fun m hm => ?_⟩, by omega, rfl⟩
          by_cases e : m = t
          · rw [e]; exact Or.inr hb
          · exact h2 m (by omega)
        · left; right
          rw [if_neg hb, if_pos rfl]
          refine ⟨fun hs => ?_, rfl⟩
          rcases hs t (by omega) with q | q
          · exact h8 q
          · exact hb q
/-- what a round of rules makes of a set -/
def rndI (nr : Nat) (hd ln gs : Nat → Nat) (c0 r c : Nat) : Prop := c < 64 ∧ grS nr hd ln gs c ∧ ((c = c0 ∧ ∀ r', r' < r → std ln gs c r' → mb c (hd r')) ∨ pc c0 < pc c) ∧ (clo nr hd ln (rsy gs) (mb c0) → c = c0)
theorem rnd_0 {c : Nat} (hc : c < 64) (hs : grS nr hd ln gs c) : rndI nr hd ln gs c 0 c := ⟨hc, hs, Or.inl ⟨rfl, fun r' h => absurd h (by omega)⟩, fun _ => rfl⟩
theorem rnd_keep {c0 r c : Nat} (h : rndI nr hd ln gs c0 r c) (hk : std ln gs c r → mb c (hd r)) : rndI nr hd ln gs c0 (r + 1) c := by
  obtain ⟨a1, a2, a3, a4⟩ := h
  refine ⟨a1, a2, ?_, a4⟩
  rcases a3 with ⟨b1, b2⟩ | b
  · refine Or.inl ⟨b1, fun r' hr' => ?_⟩
    by_cases e : r' = r
    · rw [e]; exact hk
    · exact b2 r' (by omega)
  · exact Or.inr b
theorem rnd_put (G : GW nr hd ln (rsy gs)) {c0 r c : Nat} (hr : r < nr) (h : rndI nr hd ln gs c0 r c) (hk : std ln gs c r) : rndI nr hd ln gs c0 (r + 1) (c ||| 2 ^ (hd r - 9)) := by
  obtain ⟨g1, g2, g3, g4⟩ := G.2 r hr
  obtain ⟨p1, p2, p3⟩ := pc_or c h.1 (hd r - 9) (by omega)
  by_cases hb : c.testBit (hd r - 9) = true
  · rw [p3 hb]
    exact rnd_keep h (fun _ => hb)
  · obtain ⟨a1, a2, a3, a4⟩ := h
    rw [if_neg hb] at p1
    refine ⟨p2, grS_step G hr a2 hk, Or.inr ?_, fun hc => ?_⟩
    · rcases a3 with ⟨b1, b2⟩ | b
      · rw [b1] at p1 ⊢; omega
      · omega
    · have e := a4 hc
      rw [e] at hb hk
      exact absurd (hc r hr hk) hb
theorem rnd_end {c0 c : Nat} (h : rndI nr hd ln gs c0 nr c) : (c = c0 ∧ clo nr hd ln (rsy gs) (mb c)) ∨ pc c0 < pc c := by
  rcases h.2.2.1 with ⟨b1, b2⟩ | b
  · exact Or.inl ⟨b1, fun r hr hh => b2 r hr hh⟩
  · exact Or.inr b
theorem clo_6 (G : GW nr hd ln (rsy gs)) {c : Nat} (hc : c < 64) (h : 6 ≤ pc c) : clo nr hd ln (rsy gs) (mb c) := fun r hr _ => pc_6 c hc h _ (by have := G.2 r hr; omega)
theorem e_gRound (G : GW nr hd ln (rsy gs)) {c0 : Nat} {gg0 : Nat → Int32} (hg : GG c0 gg0) (hs : grS nr hd ln gs c0) {x2 : Int32} {K : (Int32) → (Int32) → (Nat → Int32) → Option ((Nat → Int32))} :
    ∃ c gg mo, GG c gg ∧ rndI nr hd ln gs c0 nr c ∧ ((mo = (0 : Int32) ∧ c = c0) ∨ (mo = 1 ∧ pc c0 < pc c)) ∧ lp_X2_findGround_18 (nI nr) (nA hd) (nA ln) (nA gs) K FU 0 x2 (nI 0) gg0 = K mo x2 gg := by
  have hnr := G.1
  have key := loopE (fun N (q : Nat × Nat × (Nat → Int32) × Int32) => lp_X2_findGround_18 (nI nr) (nA hd) (nA ln) (nA gs) K N q.2.2.2 x2 (nI q.1) q.2.2.1)
    (fun R => ∃ c gg mo, GG c gg ∧ rndI nr hd ln gs c0 nr c ∧ ((mo = (0 : Int32) ∧ c = c0) ∨ (mo = 1 ∧ pc c0 < pc c)) ∧ R = K mo x2 gg)
    (fun q => q.1 ≤ nr ∧ GG q.2.1 q.2.2.1 ∧ rndI nr hd ln gs c0 q.1 q.2.1 ∧ ((q.2.2.2 = (0 : Int32) ∧ q.2.1 = c0) ∨ (q.2.2.2 = 1 ∧ pc c0 < pc q.2.1))) (fun q => nr - q.1) ?_ FU (0, c0, gg0, 0) (FU_gt (by dsimp only; omega)) ⟨by dsimp only; omega, hg, rnd_0 hg.1 hs, Or.inl ⟨rfl, rfl⟩⟩
  · exact key
  · rintro N ⟨r, c, gg, mo⟩ ⟨h1, h2, h3, h4⟩
    dsimp only at h1 h2 h3 h4 ⊢
    simp only [lp_X2_findGround_18, jn_X2_findGround_64, nm]
    by_cases h : nr ≤ r
    · left
      rw [if_pos ((nI_leI (by omega) (by omega)).mpr h)]
      have e : r = nr := by omega
      rw [e] at h3
      exact ⟨c, gg, mo, h2, h3, h4, rfl⟩
    · right
      have hr : r < nr := by omega
      obtain ⟨g1, g2, g3, g4⟩ := G.2 r hr
      rw [if_neg (fun x => h ((nI_leI (by omega) (by omega)).mp x)), rd_nA (by omega) (by omega), ob, e_hasGround h2 g1 g2, ob]
      by_cases hb : c.testBit (hd r - 9) = true
      · rw [if_pos hb, if_neg (by decide), of1, nI_add]
        exact ⟨(r + 1, c, gg, mo), ⟨by dsimp only; omega, h2, rnd_keep h3 (fun _ => hb), h4⟩, by dsimp only; omega, rfl⟩
      · rw [if_neg hb, if_pos rfl]
        rcases e_stands G h2 hr with ⟨s1, s2⟩ | ⟨s1, s2⟩
        · rw [s2, ob, if_neg (by decide), ob, show (9 : Int32) = nI 9 from rfl, nI_sub g1, wrI_nI (by omega) (by omega), ob, of1, nI_add]
          obtain ⟨p1, p2, p3⟩ := pc_or c h2.1 (hd r - 9) (by omega)
          rw [if_neg hb] at p1
          refine ⟨(r + 1, c ||| 2 ^ (hd r - 9), upd gg (hd r - 9) (vp_nar .boolean 1), 1), ⟨by dsimp only; omega, ⟨p2, fun x hx => ?_⟩, rnd_put G hr h3 s1, Or.inr ⟨rfl, ?_⟩⟩, by dsimp only; omega, rfl⟩
          · dsimp only
            by_cases e : x = hd r - 9
            · rw [e, pk_us, if_pos ((or_bit _ _ _).mpr (Or.inr rfl))]
              rfl
            · rw [pk_un e, h2.2 x hx]
              by_cases hx2 : c.testBit x = true
              · rw [if_pos hx2, if_pos ((or_bit _ _ _).mpr (Or.inl hx2))]
              · rw [if_neg hx2, if_neg (fun q => by
                  rcases (or_bit _ _ _).mp q with q | q
                  · exact hx2 q
                  · exact e q.symm)]
          · dsimp only
            rcases h4 with ⟨_, e⟩ | ⟨_, e⟩
            · rw [e] at p1 ⊢; omega
            · omega
        · rw [s2, ob, if_pos rfl, of1, nI_add]
          exact ⟨(r + 1, c, gg, mo), ⟨by dsimp only; omega, h2, rnd_keep h3 (fun q => absurd q s1), h4⟩, by dsimp only; omega, rfl⟩
theorem e_findGround (G : GW nr hd ln (rsy gs)) {c0 : Nat} {gg0 : Nat → Int32} (hg : GG c0 gg0) (hs : grS nr hd ln gs c0) : ∃ c gg, GG c gg ∧ grS nr hd ln gs c ∧ clo nr hd ln (rsy gs) (mb c) ∧ f_X2_findGround (nI nr) (nA hd) (nA ln) (nA gs) gg0 = some gg := by
  unfold f_X2_findGround
  simp only [nm]
  have key := loopE (fun N (q : Nat × Nat × (Nat → Int32) × Int32) => lp_X2_findGround_4 (nI nr) (nA hd) (nA ln) (nA gs) (fun g_ground => jn_X2_findGround_76 (nI nr) (nA hd) (nA ln) (nA gs) g_ground) N q.2.2.2 (nI q.1) q.2.2.1)
    (fun R => ∃ c gg, GG c gg ∧ grS nr hd ln gs c ∧ clo nr hd ln (rsy gs) (mb c) ∧ R = some gg)
    (fun q => q.1 ≤ 6 ∧ GG q.2.1 q.2.2.1 ∧ grS nr hd ln gs q.2.1 ∧ ((q.2.2.2 = 0 ∧ clo nr hd ln (rsy gs) (mb q.2.1)) ∨ (q.2.2.2 = 1 ∧ q.1 ≤ pc q.2.1))) (fun q => 6 - q.1) ?_ FU (0, c0, gg0, 1) (FU_gt (by dsimp only; omega)) ⟨by dsimp only; omega, hg, hs, Or.inr ⟨rfl, Nat.zero_le _⟩⟩
  · exact key
  · rintro N ⟨j, c, gg, mo⟩ ⟨h1, h2, h3, h4⟩
    dsimp only at h1 h2 h3 h4 ⊢
    simp only [lp_X2_findGround_4, jn_X2_findGround_76, nm]
    by_cases h : 6 ≤ j
    · left
      rw [if_pos (show (6 : Int32) ≤ nI j from (nI_leI (a := 6) (by omega) (by omega)).mpr h)]
      refine ⟨c, gg, h2, h3, ?_, rfl⟩
      rcases h4 with ⟨_, e⟩ | ⟨_, e⟩
      · exact e
      · exact clo_6 G h2.1 (by omega)
    · rw [if_neg (show ¬ (6 : Int32) ≤ nI j from fun x => h ((nI_leI (a := 6) (by omega) (by omega)).mp x))]
      rcases h4 with ⟨e1, e2⟩ | ⟨e1, e2⟩
      · left
        rw [if_pos e1]
        exact ⟨c, gg, h2, h3, e2, rfl⟩
      · right
        rw [e1, if_neg (by decide)]
        obtain ⟨c', gg', mo', k1, k2, k3, k4⟩ := e_gRound G h2 h3 (x2 := nI j) (K := fun x1 x2 g_ground => lp_X2_findGround_4 (nI nr) (nA hd) (nA ln) (nA gs) (fun g_ground => some g_ground) N x1 (x2 + Int32.ofInt 1) g_ground)
        rw [show (0 : Int32) = nI 0 from rfl] at k4 ⊢
        rw [k4, of1, nI_add]
        refine ⟨(j + 1, c', gg', mo'), ⟨by dsimp only; omega, k1, k2.2.1, ?_⟩, by dsimp only; omega, rfl⟩
        dsimp only
        rcases k3 with ⟨m1, m2⟩ | ⟨m1, m2⟩
        · left
          refine ⟨m1, ?_⟩
          rcases rnd_end k2 with ⟨_, q⟩ | q
          · exact q
          · rw [m2] at q; omega
        · right
          exact ⟨m1, by omega⟩
theorem e_mstands (G : GW nr hd ln (rsy gs)) {c r : Nat} (hc : c < 64) (hr : r < nr) {mr : Int32} {x2 : Int32} {K : (Int32) → (Int32) → (Int32) → (Int32) → Option (Int32)} :
    ∃ al, ((al = (1 : Int32) ∧ std ln gs c r) ∨ (al = 0 ∧ ¬ std ln gs c r)) ∧ lp_X6_ground_28 mr (nA hd) (nA ln) (nA gs) K FU (nI (c * 512)) x2 (nI r) 1 (nI (5 * r)) = K (nI (c * 512)) x2 (nI r) al := by
  obtain ⟨g1, g2, g3, g4⟩ := G.2 r hr
  have hnr := G.1
  have key := loopE (fun N (q : Nat × Int32) => lp_X6_ground_28 mr (nA hd) (nA ln) (nA gs) K N (nI (c * 512)) x2 (nI r) q.2 (nI (5 * r + q.1)))
    (fun R => ∃ al, ((al = (1 : Int32) ∧ std ln gs c r) ∨ (al = 0 ∧ ¬ std ln gs c r)) ∧ R = K (nI (c * 512)) x2 (nI r) al)
    (fun q => q.1 ≤ ln r ∧ ((q.2 = 1 ∧ ∀ m, m < q.1 → rsy gs r m ≤ 8 ∨ mb c (rsy gs r m)) ∨ (q.2 = 0 ∧ ¬ std ln gs c r))) (fun q => ln r - q.1) ?_ FU (0, 1) (FU_gt (by dsimp only; omega)) ⟨by dsimp only; omega, Or.inl ⟨rfl, fun m hm => absurd hm (by dsimp only; omega)⟩⟩
  · exact key
  · rintro N ⟨t, al⟩ ⟨h1, h2⟩
    dsimp only at h1 h2 ⊢
    simp only [lp_X6_ground_28, jn_X6_ground_79, jn_X6_ground_75, jn_X6_ground_80, nm]
    rw [rd_nA (by omega) (by omega), ob, show (5 : Int32) = nI 5 from rfl, nI_mul, nI_add]
    by_cases h : ln r ≤ t
    · left
      rw [if_pos ((nI_leI (by omega) (by omega)).mpr (by omega))]
      refine ⟨al, ?_, rfl⟩
      rcases h2 with ⟨e1, e2⟩ | e
      · exact Or.inl ⟨e1, fun m hm => e2 m (by omega)⟩
      · exact Or.inr e
    · right
      have hgt := g4 t (by omega)
      rw [if_neg (fun x => (show ¬ 5 * r + ln r ≤ 5 * r + t by omega) ((nI_leI (by omega) (by omega)).mp x))]
      have hsy : gs (5 * r + t) = rsy gs r t := by unfold rsy; rw [Nat.mul_comm]
      rcases h2 with ⟨e1, e2⟩ | ⟨e1, e2⟩
      · rw [e1, if_neg (by decide), rd_nA (by omega) (by omega), ob, ob, hsy, of1, nI_add]
        have up : ∀ {p : Prop}, p → (rsy gs r t ≤ 8 ∨ mb c (rsy gs r t)) → ∀ m, m < t + 1 → rsy gs r m ≤ 8 ∨ mb c (rsy gs r m) := by
          intro _ _ hh m hm
          by_cases e : m = t
          · rw [e]; exact hh
          · exact e2 m (by omega)
        by_cases h8 : rsy gs r t < 9
        · rw [if_pos (show nI (rsy gs r t) < (9 : Int32) from (nI_ltI (b := 9) (by omega) (by omega)).mpr h8)]
          exact ⟨(t + 1, 1), ⟨by dsimp only; omega, Or.inl ⟨rfl, up h8 (Or.inl (by omega))⟩⟩, by dsimp only; omega, rfl⟩
        · rw [if_neg (show ¬ nI (rsy gs r t) < (9 : Int32) from fun x => h8 ((nI_ltI (b := 9) (by omega) (by omega)).mp x))]
          have hbb := bs_bit c hc (rsy gs r t - 9) (by omega)
          rw [show rsy gs r t - 9 + 9 = rsy gs r t by omega] at hbb
          rw [hbb]
          by_cases hb : c.testBit (rsy gs r t - 9) = true
          · rw [if_pos hb, if_pos rfl]
            exact ⟨(t + 1, 1), ⟨by dsimp only; omega, Or.inl ⟨rfl, up hb (Or.inr hb)⟩⟩, by dsimp only; omega, rfl⟩
          · rw [if_neg hb, if_neg (by decide)]
            refine ⟨(t + 1, 0), ⟨by dsimp only; omega, Or.inr ⟨rfl, fun hs => ?_⟩⟩, by dsimp only; omega, rfl⟩
            rcases hs t (by omega) with q | q
            · omega
            · exact hb q
      · rw [e1, if_pos rfl, of1, nI_add]
        exact ⟨(t + 1, 0), ⟨by dsimp only; omega, Or.inr ⟨rfl, e2⟩⟩, by dsimp only; omega, rfl⟩
theorem e_mRound (G : GW nr hd ln (rsy gs)) {c0 : Nat} (hc0 : c0 < 64) (hs : grS nr hd ln gs c0) {x2 : Int32} {K : (Int32) → (Int32) → Option (Int32)} :
    ∃ c, rndI nr hd ln gs c0 nr c ∧ lp_X6_ground_12 (nI nr) (nA hd) (nA ln) (nA gs) K FU (nI (c0 * 512)) x2 (nI 0) = K (nI (c * 512)) x2 := by
  have hnr := G.1
  have key := loopE (fun N (q : Nat × Nat) => lp_X6_ground_12 (nI nr) (nA hd) (nA ln) (nA gs) K N (nI (q.2 * 512)) x2 (nI q.1))
    (fun R => ∃ c, rndI nr hd ln gs c0 nr c ∧ R = K (nI (c * 512)) x2)
    (fun q => q.1 ≤ nr ∧ rndI nr hd ln gs c0 q.1 q.2) (fun q => nr - q.1) ?_ FU (0, c0) (FU_gt (by dsimp only; omega)) ⟨by dsimp only; omega, rnd_0 hc0 hs⟩
  · exact key
  · rintro N ⟨r, c⟩ ⟨h1, h3⟩
    dsimp only at h1 h3 ⊢
    simp only [lp_X6_ground_12, jn_X6_ground_106, nm]
    by_cases h : nr ≤ r
    · left
      rw [if_pos ((nI_leI (by omega) (by omega)).mpr h)]
      have e : r = nr := by omega
      rw [e] at h3
      exact ⟨c, h3, rfl⟩
    · right
      have hr : r < nr := by omega
      obtain ⟨g1, g2, g3, g4⟩ := G.2 r hr
      rw [if_neg (fun x => h ((nI_leI (by omega) (by omega)).mp x)), show (5 : Int32) * nI r = nI (5 * r) from nI_mul 5 r]
      obtain ⟨al, k1, k2⟩ := e_mstands G h3.1 hr (mr := nI nr) (x2 := x2) (K := fun x1 x2 x3 x4 => if x4 = 0 then (lp_X6_ground_12 (nI nr) (nA hd) (nA ln) (nA gs) K N) (x1 ||| 0) x2 (x3 + Int32.ofInt 1) else (rd (nA hd) 20 x3).bind fun v13 => (lp_X6_ground_12 (nI nr) (nA hd) (nA ln) (nA gs) K N) (x1 ||| (1 <<< (v13 &&& 31))) x2 (x3 + Int32.ofInt 1))
      rw [k2]
      rcases k1 with ⟨e, s⟩ | ⟨e, s⟩
      · rw [e, if_neg (by decide), rd_nA (by omega) (by omega), ob]
        have hb := bs_or c h3.1 (hd r - 9) (by omega)
        rw [show hd r - 9 + 9 = hd r by omega] at hb
        rw [hb, of1, nI_add]
        exact ⟨(r + 1, c ||| 2 ^ (hd r - 9)), ⟨by dsimp only; omega, rnd_put G hr h3 s⟩, by dsimp only; omega, rfl⟩
      · rw [e, if_pos rfl, of1, nI_add, show ∀ x : Int32, x ||| 0 = x from fun x => by simp]
        exact ⟨(r + 1, c), ⟨by dsimp only; omega, rnd_keep h3 (fun q => absurd q s)⟩, by dsimp only; omega, rfl⟩
theorem e_mground (G : GW nr hd ln (rsy gs)) : ∃ c, c < 64 ∧ grS nr hd ln gs c ∧ clo nr hd ln (rsy gs) (mb c) ∧ f_X6_ground (nI nr) (nA hd) (nA ln) (nA gs) = some (nI (c * 512)) := by
  unfold f_X6_ground
  simp only [nm]
  have key := loopE (fun N (q : Nat × Nat) => lp_X6_ground_4 (nI nr) (nA hd) (nA ln) (nA gs) (fun x1 => some x1) N (nI (q.2 * 512)) (nI q.1))
    (fun R => ∃ c, c < 64 ∧ grS nr hd ln gs c ∧ clo nr hd ln (rsy gs) (mb c) ∧ R = some (nI (c * 512)))
    (fun q => q.1 ≤ 6 ∧ q.2 < 64 ∧ grS nr hd ln gs q.2 ∧ (clo nr hd ln (rsy gs) (mb q.2) ∨ q.1 ≤ pc q.2)) (fun q => 6 - q.1) ?_ FU (0, 0) (FU_gt (by dsimp only; omega)) ⟨by dsimp only; omega, by dsimp only; omega, fun x hx hb => absurd hb (by simp), Or.inr (Nat.zero_le _)⟩
  · exact key
  · rintro N ⟨j, c⟩ ⟨h1, h2, h3, h4⟩
    dsimp only at h1 h2 h3 h4 ⊢
    simp only [lp_X6_ground_4, nm]
    by_cases h : 6 ≤ j
    · left
      rw [if_pos (show (6 : Int32) ≤ nI j from (nI_leI (a := 6) (by omega) (by omega)).mpr h)]
      refine ⟨c, h2, h3, ?_, rfl⟩
      rcases h4 with e | e
      · exact e
      · exact clo_6 G h2 (by omega)
    · right
      rw [if_neg (show ¬ (6 : Int32) ≤ nI j from fun x => h ((nI_leI (a := 6) (by omega) (by omega)).mp x))]
      obtain ⟨c', k2, k4⟩ := e_mRound G h2 h3 (x2 := nI j) (K := fun x1 x2 => lp_X6_ground_4 (nI nr) (nA hd) (nA ln) (nA gs) (fun x1 => some x1) N x1 (x2 + Int32.ofInt 1))
      rw [show (0 : Int32) = nI 0 from rfl]
      rw [k4, of1, nI_add]
      refine ⟨(j + 1, c'), ⟨by dsimp only; omega, k2.1, k2.2.1, ?_⟩, by dsimp only; omega, rfl⟩
      dsimp only
      rcases h4 with e | e
      · left
        rw [k2.2.2.2 e]; exact e
      · rcases rnd_end k2 with ⟨_, q⟩ | q
        · exact Or.inl q
        · exact Or.inr (by omega)
end GROUND
