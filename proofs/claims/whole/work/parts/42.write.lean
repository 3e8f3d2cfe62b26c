/-! write: the bytes of a long -/
def bt (a : Int64) (k : Nat) : Nat := (((a.toUInt64 >>> ((8 * nI k).toInt64.toUInt64 &&& Int64.toUInt64 63)).toInt64).toInt32).toBitVec.toNat % 2 ^ 8
theorem bt_lt {a : Int64} {k : Nat} : bt a k < 256 := Nat.mod_lt _ (by omega)
theorem bits_255 : ∀ i, i < 64 → ((255 : Int64).toBitVec.getLsbD i = decide (i < 8)) := by decide +kernel
theorem bits_255i : ∀ i, i < 32 → ((255 : Int32).toBitVec.getLsbD i = decide (i < 8)) := by decide +kernel
theorem sh_l : ∀ k, k < 8 → ((8 * nI k).toInt64 &&& 63).toBitVec = BitVec.ofNat 64 (8 * k) := by decide +kernel
theorem sh_u : ∀ k, k < 8 → ((8 * nI k).toInt64.toUInt64 &&& Int64.toUInt64 63).toBitVec = BitVec.ofNat 64 (8 * k) := by decide +kernel
theorem sm_l : ∀ k, k < 8 → ((BitVec.ofNat 64 (8 * k)).smod 64).toNat = 8 * k := by decide +kernel
theorem um_l : ∀ k, k < 8 → ((BitVec.ofNat 64 (8 * k)) % 64).toNat = 8 * k := by decide +kernel
theorem bt_bits {a : Int64} {k i : Nat} (hk : k < 8) (hi : i < 32) : (((a >>> ((8 * nI k).toInt64 &&& 63)) &&& 255).toInt32).toBitVec.getLsbD i = (decide (i < 8) && a.toBitVec.getLsbD (8 * k + i)) := by
  rw [Int64.toBitVec_toInt32, BitVec.getLsbD_signExtend]
  rw [Int64.toBitVec_and, Int64.toBitVec_shiftRight, sh_l k hk]
  simp only [hi, decide_true, Bool.true_and]
  rw [if_pos (by omega), BitVec.getLsbD_and, bits_255 i (by omega), BitVec.getLsbD_sshiftRight', sm_l k hk]
  by_cases h8 : i < 8
  · rw [if_pos (by omega)]
    simp [h8]
    omega
  · simp [h8]
theorem bt_bitsC {a : Int64} {k i : Nat} (hk : k < 8) (hi : i < 32) : ((((a.toUInt64 >>> ((8 * nI k).toInt64.toUInt64 &&& Int64.toUInt64 63)).toInt64).toInt32) &&& 255).toBitVec.getLsbD i = (decide (i < 8) && a.toBitVec.getLsbD (8 * k + i)) := by
  rw [Int32.toBitVec_and, BitVec.getLsbD_and, bits_255i i hi, Int64.toBitVec_toInt32, BitVec.getLsbD_signExtend]
  simp only [hi, decide_true, Bool.true_and]
  rw [if_pos (by omega)]
  rw [UInt64.toBitVec_toInt64, UInt64.toBitVec_shiftRight, sh_u k hk]
  rw [BitVec.ushiftRight_eq', um_l k hk, BitVec.getLsbD_ushiftRight, Bool.and_comm]
  rfl
theorem bt_C {a : Int64} {k : Nat} (hk : k < 8) : ((((a.toUInt64 >>> ((8 * nI k).toInt64.toUInt64 &&& Int64.toUInt64 63)).toInt64).toInt32) &&& 255) = (((a >>> ((8 * nI k).toInt64 &&& 63)) &&& 255).toInt32) := by
  apply Int32.toBitVec_inj.mp
  apply BitVec.eq_of_getLsbD_eq
  intro i hi
  rw [bt_bitsC hk hi, bt_bits hk hi]
theorem e_byteOf {a : Int64} {k : Nat} (hk : k < 8) : f_X5_byteOf a (nI k) = some (nI (bt a k)) := by
  unfold f_X5_byteOf
  rw [pk_and _ 8 (by decide)]
  rfl
theorem e_mbyte {a : Int64} {k : Nat} (hk : k < 8) : (((a >>> ((8 * nI k).toInt64 &&& 63)) &&& 255).toInt32) = nI (bt a k) := by
  rw [← bt_C hk, pk_and _ 8 (by decide)]
  rfl
def chOk (c : Nat) : Prop := c = 10 ∨ (32 ≤ c ∧ c ≤ 126)
theorem e_areCh {a : Int64} {n : Nat} (hn : n ≤ 8) : ((∀ k, k < n → chOk (bt a k)) ∧ f_X5_areCharacters a (nI n) = some 1) ∨ ((¬ ∀ k, k < n → chOk (bt a k)) ∧ f_X5_areCharacters a (nI n) = some 0) := by
  unfold f_X5_areCharacters
  simp only [nm]
  have key := loopE (fun N t => lp_X5_areCharacters_2 ((zc 1).bind fun v6 => some v6) N a (nI n) (nI t))
    (fun R => ((∀ k, k < n → chOk (bt a k)) ∧ R = some 1) ∨ ((¬ ∀ k, k < n → chOk (bt a k)) ∧ R = some 0))
    (fun t => t ≤ n ∧ ∀ k, k < t → chOk (bt a k)) (fun t => n - t) ?_ FU 0 (FU_gt (by omega)) ⟨by omega, fun k h => absurd h (by omega)⟩
  · exact key
  · rintro N t ⟨h1, h2⟩
    have hb := bt_lt (a := a) (k := t)
    simp only [lp_X5_areCharacters_2, jn_X5_areCharacters_37, jn_X5_areCharacters_35, nm]
    by_cases h : n ≤ t
    · left; left
      rw [if_pos ((nI_leI (by omega) (by omega)).mpr h)]
      exact ⟨fun k hk => h2 k (by omega), rfl⟩
    · rw [if_neg (fun c => h ((nI_leI (by omega) (by omega)).mp c)), e_byteOf (by omega), ob]
      have nx : chOk (bt a t) → ∀ k, k < t + 1 → chOk (bt a k) := by
        intro hh k hk
        by_cases e : k = t
        · rw [e]; exact hh
        · exact h2 k (by omega)
      by_cases c1 : bt a t = 10
      · right
        rw [if_pos (show nI (bt a t) = (10 : Int32) by rw [c1]; rfl), of1, nI_add]
        exact ⟨t + 1, ⟨by omega, nx (Or.inl c1)⟩, by omega, rfl⟩
      · rw [if_neg (show ¬ nI (bt a t) = (10 : Int32) from fun c => c1 ((nI_eq (b := 10) (by omega) (by omega)).mp c))]
        by_cases c2 : bt a t < 32
        · left; right
          rw [if_pos (show nI (bt a t) < (32 : Int32) from (nI_ltI (b := 32) (by omega) (by omega)).mpr c2)]
          refine ⟨fun c => ?_, rfl⟩
          rcases c t (by omega) with d | d <;> omega
        · rw [if_neg (show ¬ nI (bt a t) < (32 : Int32) from fun c => c2 ((nI_ltI (b := 32) (by omega) (by omega)).mp c))]
          by_cases c3 : bt a t ≤ 126
          · right
            rw [if_pos (show nI (bt a t) ≤ (126 : Int32) from (nI_leI (b := 126) (by omega) (by omega)).mpr c3), of1, nI_add]
            exact ⟨t + 1, ⟨by omega, nx (Or.inr ⟨by omega, c3⟩)⟩, by omega, rfl⟩
          · left; right
            rw [if_neg (show ¬ nI (bt a t) ≤ (126 : Int32) from fun c => c3 ((nI_leI (b := 126) (by omega) (by omega)).mp c))]
            refine ⟨fun c => ?_, rfl⟩
            rcases c t (by omega) with d | d <;> omega
theorem e_mareCh {a : Int64} {n : Nat} (hn : n ≤ 8) {K : (Int64) → (Int32) → (Int32) → (Int32) → (Nat → Int32) → Option (Int32 × (Int32) × (Int32) × (Nat → Int32))} {th ml : Int32} {mt : Nat → Int32} : ((∀ k, k < n → chOk (bt a k)) ∧ lp_X6_write_25 K FU a (nI n) (nI 0) th ml mt = K a (nI n) th ml mt) ∨ ((¬ ∀ k, k < n → chOk (bt a k)) ∧ lp_X6_write_25 K FU a (nI n) (nI 0) th ml mt = some (0, 1, ml, mt)) := by
  have key := loopE (fun N t => lp_X6_write_25 K N a (nI n) (nI t) th ml mt)
    (fun R => ((∀ k, k < n → chOk (bt a k)) ∧ R = K a (nI n) th ml mt) ∨ ((¬ ∀ k, k < n → chOk (bt a k)) ∧ R = some (0, 1, ml, mt)))
    (fun t => t ≤ n ∧ ∀ k, k < t → chOk (bt a k)) (fun t => n - t) ?_ FU 0 (FU_gt (by omega)) ⟨by omega, fun k h => absurd h (by omega)⟩
  · exact key
  · rintro N t ⟨h1, h2⟩
    have hb := bt_lt (a := a) (k := t)
    simp only [lp_X6_write_25, jn_X6_write_72, jn_X6_write_66, f_X6_fail, nm]
    by_cases h : n ≤ t
    · left; left
      rw [if_pos ((nI_leI (by omega) (by omega)).mpr h)]
      exact ⟨fun k hk => h2 k (by omega), rfl⟩
    · rw [if_neg (fun c => h ((nI_leI (by omega) (by omega)).mp c)), e_mbyte (by omega)]
      have nx : chOk (bt a t) → ∀ k, k < t + 1 → chOk (bt a k) := by
        intro hh k hk
        by_cases e : k = t
        · rw [e]; exact hh
        · exact h2 k (by omega)
      by_cases c1 : bt a t = 10
      · right
        rw [if_pos (show nI (bt a t) = (10 : Int32) by rw [c1]; rfl), of1, nI_add]
        exact ⟨t + 1, ⟨by omega, nx (Or.inl c1)⟩, by omega, rfl⟩
      · rw [if_neg (show ¬ nI (bt a t) = (10 : Int32) from fun c => c1 ((nI_eq (b := 10) (by omega) (by omega)).mp c))]
        by_cases c2 : bt a t < 32
        · left; right
          rw [if_pos (show nI (bt a t) < (32 : Int32) from (nI_ltI (b := 32) (by omega) (by omega)).mpr c2)]
          refine ⟨fun c => ?_, rfl⟩
          rcases c t (by omega) with d | d <;> omega
        · rw [if_neg (show ¬ nI (bt a t) < (32 : Int32) from fun c => c2 ((nI_ltI (b := 32) (by omega) (by omega)).mp c))]
          by_cases c3 : bt a t ≤ 126
          · right
            rw [if_pos (show nI (bt a t) ≤ (126 : Int32) from (nI_leI (b := 126) (by omega) (by omega)).mpr c3), of1, nI_add]
            exact ⟨t + 1, ⟨by omega, nx (Or.inr ⟨by omega, c3⟩)⟩, by omega, rfl⟩
          · left; right
            rw [if_neg (show ¬ nI (bt a t) ≤ (126 : Int32) from fun c => c3 ((nI_leI (b := 126) (by omega) (by omega)).mp c))]
            refine ⟨fun c => ?_, rfl⟩
            rcases c t (by omega) with d | d <;> omega
theorem nar_b : ∀ v, v < 128 → vp_nar .byte (nI v).toInt8.toInt32 = nI v := by decide +kernel
/-- the text stands in a row -/
def txtR (len : Nat) (tx : Nat → Nat) (r : Nat → Int32) : Prop := ∀ i, i < len → r i = nI (tx i)
theorem txtR_put {len t : Nat} {tx v : Nat → Nat} {r : Nat → Int32} (h : txtR (len + t) (rowF tx len t v) r) : txtR (len + (t + 1)) (rowF tx len (t + 1) v) (upd r (len + t) (nI (v t))) := by
  intro i hi
  rw [← rowF_s]
  by_cases e : i = len + t
  · rw [e, pk_us, updN_s]
  · rw [pk_un e, updN_n e]
    exact h i (by omega)
theorem r_write {len : Nat} {tx : Nat → Nat} {kt mt : Nat → Int32} {o : Int32} (hl : len ≤ 80) (hk : txtR len tx kt) (hm : txtR len tx mt) (hc : ∀ i, i < len → tx i ≤ 126) (a1 : Int64) (a3 : Int32) :
    ∃ code v len' tx' kt' mt', len' ≤ 80 ∧ txtR len' tx' kt' ∧ txtR len' tx' mt' ∧ (∀ i, i < len' → tx' i ≤ 126) ∧ (code = 0 ∨ code = 1 ∨ code = 2) ∧ f_X5_write a1 a3 (nI len) kt = some (code, v, nI len', kt') ∧ f_X6_write a1 a3 o (nI len) mt = some (v, code, nI len', mt') := by
  unfold f_X5_write f_X6_write jn_X5_write_19 jn_X6_write_16 f_X6_fail
  simp only [nm]
  by_cases c1 : a3 < 1
  · rw [if_pos c1, if_pos c1]
    exact ⟨1, 0, len, tx, kt, mt, hl, hk, hm, hc, Or.inr (Or.inl rfl), rfl, rfl⟩
  · rw [if_neg c1, if_neg c1]
    by_cases c2 : 8 < a3
    · rw [if_pos c2, if_neg (Int32.not_le.mpr c2)]
      exact ⟨1, 0, len, tx, kt, mt, hl, hk, hm, hc, Or.inr (Or.inl rfl), rfl, rfl⟩
    · rw [if_neg c2, if_pos (Int32.not_lt.mp c2)]
      obtain ⟨n, hn, e⟩ := nI_of (x := a3) (fun c => c1 (Int32.lt_trans c (by decide)))
      have h8 : n ≤ 8 := by
        rcases Nat.lt_or_ge 8 n with d | d
        · rw [e] at c2; exact absurd ((nI_ltI (a := 8) (by omega) (by omega)).mpr d) c2
        · exact d
      rw [e]
      rcases e_areCh (a := a1) h8 with ⟨s1, s2⟩ | ⟨s1, s2⟩
      · rcases e_mareCh (a := a1) h8 (K := fun x1 x3 m_thrown m_length m_text =>
          if (m_length + x3) ≤ 80 then (
          lp_X6_write_98 
            (fun x3 m_thrown m_length m_text =>
            some ((m_length + x3), m_thrown, ((m_length + x3)), m_text))
            FU x1 x3 0 m_thrown m_length m_text
        ) else (
          (some ((0 : Int32), (2 : Int32))).bind fun r10 =>
          some (r10.1, r10.2, m_length, m_text)
        )) (th := 0) (ml := nI len) (mt := mt) with ⟨t1, t2⟩ | ⟨t1, t2⟩
        · rw [s2, ob, if_neg (by decide)]
          rw [show nI 0 = (0 : Int32) from rfl] at t2
          rw [t2, nI_add]
          by_cases c3 : len + n ≤ 80
          · have hb : nI (len + n) ≤ (80 : Int32) := (nI_leI (b := 80) (by omega) (by omega)).mpr c3
            rw [if_pos hb, if_pos hb]
            have kc := loopE (fun N (q : Nat × (Nat → Int32)) => lp_X5_write_53 (fun x3 k_length k_text => some (0, (k_length + x3), ((k_length + x3)), k_text)) N a1 (nI n) (nI q.1) (nI len) q.2)
              (fun R => ∃ kt', txtR (len + n) (rowF tx len n (bt a1)) kt' ∧ R = some (0, nI (len + n), nI (len + n), kt'))
              (fun q => q.1 ≤ n ∧ txtR (len + q.1) (rowF tx len q.1 (bt a1)) q.2) (fun q => n - q.1) ?_ FU (0, kt) (FU_gt (by dsimp only; omega)) ⟨by dsimp only; omega, by dsimp only; rw [rowF_0]; exact hk⟩
            · have km := loopE (fun N (q : Nat × (Nat → Int32)) => lp_X6_write_98 (fun x3 m_thrown m_length m_text => some ((m_length + x3), m_thrown, ((m_length + x3)), m_text)) N a1 (nI n) (nI q.1) 0 (nI len) q.2)
                (fun R => ∃ kt', txtR (len + n) (rowF tx len n (bt a1)) kt' ∧ R = some (nI (len + n), 0, nI (len + n), kt'))
                (fun q => q.1 ≤ n ∧ txtR (len + q.1) (rowF tx len q.1 (bt a1)) q.2) (fun q => n - q.1) ?_ FU (0, mt) (FU_gt (by dsimp only; omega)) ⟨by dsimp only; omega, by dsimp only; rw [rowF_0]; exact hm⟩
              · obtain ⟨kt', k1, k2⟩ := kc
                obtain ⟨mt', m1, m2⟩ := km
                refine ⟨0, nI (len + n), len + n, rowF tx len n (bt a1), kt', mt', c3, k1, m1, fun i hi => ?_, Or.inl rfl, k2, m2⟩
                unfold rowF
                split
                · rcases s1 (i - len) (by omega) with d | d <;> omega
                · exact hc i (by omega)
              · rintro N ⟨t, r⟩ ⟨h1, h2⟩
                dsimp only at h1 h2 ⊢
                simp only [lp_X6_write_98, nm]
                by_cases h : n ≤ t
                · left
                  have et : t = n := by omega
                  rw [et] at h2
                  rw [if_pos ((nI_leI (by omega) (by omega)).mpr h), nI_add]
                  exact ⟨r, h2, rfl⟩
                · right
                  rw [if_neg (fun c => h ((nI_leI (by omega) (by omega)).mp c)), e_mbyte (by omega), nI_add, wrI_nI (by omega) (by omega), ob, of1, nI_add]
                  exact ⟨(t + 1, upd r (len + t) (nI (bt a1 t))), ⟨by dsimp only; omega, txtR_put h2⟩, by dsimp only; omega, rfl⟩
            · rintro N ⟨t, r⟩ ⟨h1, h2⟩
              dsimp only at h1 h2 ⊢
              simp only [lp_X5_write_53, nm]
              by_cases h : n ≤ t
              · left
                have et : t = n := by omega
                rw [et] at h2
                rw [if_pos ((nI_leI (by omega) (by omega)).mpr h), nI_add]
                exact ⟨r, h2, rfl⟩
              · right
                have hch : bt a1 t < 128 := by
                  rcases s1 t (by omega) with d | d <;> omega
                rw [if_neg (fun c => h ((nI_leI (by omega) (by omega)).mp c)), e_byteOf (by omega), ob, nar_b _ hch, nI_add, wrI_nI (by omega) (by omega), ob, of1, nI_add]
                exact ⟨(t + 1, upd r (len + t) (nI (bt a1 t))), ⟨by dsimp only; omega, txtR_put h2⟩, by dsimp only; omega, rfl⟩
          · have hb : ¬ nI (len + n) ≤ (80 : Int32) := fun c => c3 ((nI_leI (b := 80) (by omega) (by omega)).mp c)
            rw [if_neg hb, if_neg hb]
            exact ⟨2, 0, len, tx, kt, mt, hl, hk, hm, hc, Or.inr (Or.inr rfl), rfl, rfl⟩
        · exact absurd s1 t1
      · rcases e_mareCh (a := a1) h8 (K := fun x1 x3 m_thrown m_length m_text =>
          if (m_length + x3) ≤ 80 then (
          lp_X6_write_98 
            (fun x3 m_thrown m_length m_text =>
            some ((m_length + x3), m_thrown, ((m_length + x3)), m_text))
            FU x1 x3 0 m_thrown m_length m_text
        ) else (
          (some ((0 : Int32), (2 : Int32))).bind fun r10 =>
          some (r10.1, r10.2, m_length, m_text)
        )) (th := 0) (ml := nI len) (mt := mt) with ⟨t1, t2⟩ | ⟨t1, t2⟩
        · exact absurd t1 s1
        · rw [s2, ob, if_pos rfl]
          rw [show nI 0 = (0 : Int32) from rfl] at t2
          rw [t2]
          exact ⟨1, 0, len, tx, kt, mt, hl, hk, hm, hc, Or.inr (Or.inl rfl), rfl, rfl⟩
