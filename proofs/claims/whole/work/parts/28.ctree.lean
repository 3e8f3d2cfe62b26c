/-! the class's tree follows the machine -/
theorem lsh (a s : Int64) (k : Nat) (hs : (s.toBitVec.smod 64).toNat = k) : (a >>> s).toInt = a.toInt >>> k := by
  show (a.toBitVec.sshiftRight (s.toBitVec.smod 64).toNat).toInt = _
  rw [hs, BitVec.toInt_sshiftRight]
  rfl
theorem lshN {n : Nat} (h : n < 2 ^ 63) (s : Int64) (k : Nat) (hs : (s.toBitVec.smod 64).toNat = k) : lN n >>> s = lN (n / 2 ^ k) := by
  apply Int64.toInt_inj.mp
  have h2 : n / 2 ^ k ≤ n := Nat.div_le_self _ _
  rw [lsh _ _ k hs, pk_lT h, pk_lT (by omega), Int.shiftRight_eq_div_pow]
  rfl
theorem shr32 {v : Nat} (h : v < 2 ^ 63) : (lN v >>> ((32 : Int32).toInt64 &&& 63)).toInt32 = nI (v / 4294967296) := by
  rw [lshN h _ 32 (by decide +kernel), lN_i]
theorem shr24 {v : Nat} (h : v < 2 ^ 63) : (lN v >>> ((24 : Int32).toInt64 &&& 63)).toInt32 = nI (v / 16777216) := by
  rw [lshN h _ 24 (by decide +kernel), lN_i]
def pcon (p : Nat) : Int32 := if p = 999 then -1 else nI p
def hntE (gh : Nat → Nat) (P : Nat → PE) (q : SE) : Nat := if sPa q = 999 then 0 else gh (pRu (P (sPa q)) * 5 + sPl q)
def hntP (gh : Nat → Nat) (P : Nat → PE) (k : Nat) : Nat := if pPa (P k) = 999 then 0 else gh (pRu (P (pPa (P k))) * 5 + pPl (P k))
def pCost (D : Nat → Nat → Nat → Nat) (q : PE) : Nat := D (pSy q) (pFr q) (pTo q) / 4294967296
def pLst (D : Nat → Nat → Nat → Nat) (q : PE) : Nat := if pFr q = pTo q then 2 else if pCost D q = pTo q - pFr q then 1 else 0
/-- the waiting entries as the class has them -/
def CS (gh : Nat → Nat) (a : AST) (aS aP aF aE aH : Nat → Int32) : Prop := ∀ w, w < a.1 → aS w = nI (sSy (a.2.1 w)) ∧ aP w = pcon (sPa (a.2.1 w)) ∧ aF w = nI (sFr (a.2.1 w)) ∧ aE w = nI (sTo (a.2.1 w)) ∧ aH w = nI (hntE gh a.2.2 (a.2.1 w))
/-- the parts as the class has them -/
def CP (gh ln : Nat → Nat) (D : Nat → Nat → Nat → Nat) (t : Nat) (P : Nat → PE) (ce hi wi : Nat → Int32) : Prop := ∀ k, k < t → ce (k * 7) = (if pSy (P k) ≤ 8 then -1 else nI (pRu (P k))) ∧ ce (k * 7 + 1) = nI (pSy (P k)) ∧ ce (k * 7 + 2) = pcon (pPa (P k)) ∧ ce (k * 7 + 3) = nI (pFr (P k)) ∧ ce (k * 7 + 4) = nI (pTo (P k) - pFr (P k)) ∧ ce (k * 7 + 5) = nI (pCost D (P k)) ∧ ce (k * 7 + 6) = nI (if pSy (P k) ≤ 8 then pLst D (P k) else ln (pRu (P k))) ∧ hi k = nI (hntP gh P k) ∧ wi k = nI (pDp (P k))
theorem e_await {a1 a2 a3 a4 a5 : Int32} {z w : Nat} {aS aP aF aE aH : Nat → Int32} (hz : z ≤ 151) (hw : w ≤ 1000) :
    f_X4_await a1 a2 a3 a4 a5 (nI z) (nI w) aS aP aF aE aH = if z + w < 150 then some (1, nI (w + 1), upd aS w a1, upd aP w a2, upd aF w a3, upd aE w a4, upd aH w a5) else some (0, nI w, aS, aP, aF, aE, aH) := by
  unfold f_X4_await
  rw [nI_add]
  by_cases h : z + w < 150
  · rw [if_pos (show nI (z + w) < (150 : Int32) from (nI_ltI (b := 150) (by omega) (by omega)).mpr h), if_pos h, wrI_nI (by omega) (by omega), ob, wrI_nI (by omega) (by omega), ob, wrI_nI (by omega) (by omega), ob, wrI_nI (by omega) (by omega), ob, wrI_nI (by omega) (by omega), ob, i1, nI_add]
    rfl
  · rw [if_neg (show ¬ nI (z + w) < (150 : Int32) from fun c => h ((nI_ltI (b := 150) (by omega) (by omega)).mp c)), if_neg h]
    rfl
section CTREE
variable {nr : Nat} {hd gs gh ln sg PP : Nat → Nat} {n : Nat} {D : Nat → Nat → Nat → Nat}
abbrev RPN : Type := Option (Int32 × (Nat → Int64) × Int32 × (Nat → Int32) × (Nat → Int32) × (Nat → Int32) × (Nat → Int32) × (Nat → Int32) × (Nat → Int32) × (Nat → Int32))
abbrev KPN : Type := Int32 → (Nat → Int64) → Int32 → (Nat → Int32) → (Nat → Int32) → (Nat → Int32) → (Nat → Int32) → (Nat → Int32) → (Nat → Int32) → (Nat → Int32) → RPN
abbrev A5 : Type := (Nat → Int32) × (Nat → Int32) × (Nat → Int32) × (Nat → Int32) × (Nat → Int32)
/-- the entries of a rule's symbols, from the last one down to c, above w0 -/
def inE (gs gh ln cu : Nat → Nat) (t r w0 c : Nat) (A B : A5) : Prop := (∀ w, w < w0 → B.1 w = A.1 w ∧ B.2.1 w = A.2.1 w ∧ B.2.2.1 w = A.2.2.1 w ∧ B.2.2.2.1 w = A.2.2.2.1 w ∧ B.2.2.2.2 w = A.2.2.2.2 w) ∧ ∀ m, c ≤ m → m < ln r → B.1 (w0 + (ln r - 1 - m)) = nI (rsy gs r m) ∧ B.2.1 (w0 + (ln r - 1 - m)) = nI t ∧ B.2.2.1 (w0 + (ln r - 1 - m)) = nI (cu m) ∧ B.2.2.2.1 (w0 + (ln r - 1 - m)) = nI (cu (m + 1)) ∧ B.2.2.2.2 (w0 + (ln r - 1 - m)) = nI (gh (r * 5 + m))
theorem pn_unf {t r z w c N : Nat} {cu bn : Nat → Nat} {Tr : Nat → Int64} {ce hch wi : Nat → Int32} {hp : Nat → Int64} {B : A5} (G : GW nr hd ln (rsy gs)) (hr : r < nr) (hz : z ≤ 150) (hw : w ≤ 1000) (hbn : ∀ m, m < ln r → bn m = cu m) (hc : c < ln r) (k : KPN) :
    lp_X4_placeNode_100 (nA ln) (nA gs) (nA gh) hp hch (nI z) wi k (N + 1) (nI t) (nI r) (nI 1) (nI (cu (c + 1))) (dn (c + 1)) Tr (nI w) ce (nA bn) B.1 B.2.1 B.2.2.1 B.2.2.2.1 B.2.2.2.2 = if z + w < 150 then lp_X4_placeNode_100 (nA ln) (nA gs) (nA gh) hp hch (nI z) wi k N (nI t) (nI r) (nI 1) (nI (cu c)) (dn c) Tr (nI (w + 1)) ce (nA bn) (upd B.1 w (nI (rsy gs r c))) (upd B.2.1 w (nI t)) (upd B.2.2.1 w (nI (cu c))) (upd B.2.2.2.1 w (nI (cu (c + 1)))) (upd B.2.2.2.2 w (nI (gh (r * 5 + c)))) else lp_X4_placeNode_100 (nA ln) (nA gs) (nA gh) hp hch (nI z) wi k N (nI t) (nI r) (nI 0) (nI (cu c)) (dn c) Tr (nI w) ce (nA bn) B.1 B.2.1 B.2.2.1 B.2.2.2.1 B.2.2.2.2 := by
  have g := G.2 r hr
  have hnr := G.1
  rw [dn_s]
  simp only [lp_X4_placeNode_100, nm]
  rw [if_neg (nI_pos (by omega)), if_neg (show ¬ nI 1 = (0 : Int32) by decide), e_hintOf (by omega), ob, e_symbolOf (by omega), ob, rd_nA (by omega) (by omega), ob, hbn c hc, e_await (by omega) hw]
  by_cases h : z + w < 150
  · rw [if_pos h, if_pos h, ob]
    dsimp only
    rw [ob, dn_next]
    rfl
  · rw [if_neg h, if_neg h, ob]
    dsimp only
    rw [ob, dn_next]
    rfl
theorem pn_ok {t r z w0 : Nat} {cu bn : Nat → Nat} {Tr : Nat → Int64} {ce hch wi : Nat → Int32} {hp : Nat → Int64} {A : A5} (G : GW nr hd ln (rsy gs)) (hr : r < nr) (hz : z + w0 + ln r ≤ 150) (hbn : ∀ m, m < ln r → bn m = cu m) (k : KPN) :
    ∀ N (s : Nat × A5), s.1 < N → (s.1 ≤ ln r ∧ inE gs gh ln cu t r w0 s.1 A s.2) → ∃ B : A5, inE gs gh ln cu t r w0 0 A B ∧ lp_X4_placeNode_100 (nA ln) (nA gs) (nA gh) hp hch (nI z) wi k N (nI t) (nI r) (nI 1) (nI (cu s.1)) (dn s.1) Tr (nI (w0 + (ln r - s.1))) ce (nA bn) s.2.1 s.2.2.1 s.2.2.2.1 s.2.2.2.2.1 s.2.2.2.2.2 = k (nI 1) Tr (nI (w0 + ln r)) ce (nA bn) B.1 B.2.1 B.2.2.1 B.2.2.2.1 B.2.2.2.2 := by
  have hl := (G.2 r hr).2.2.1
  refine loopE (fun N (s : Nat × A5) => lp_X4_placeNode_100 (nA ln) (nA gs) (nA gh) hp hch (nI z) wi k N (nI t) (nI r) (nI 1) (nI (cu s.1)) (dn s.1) Tr (nI (w0 + (ln r - s.1))) ce (nA bn) s.2.1 s.2.2.1 s.2.2.2.1 s.2.2.2.2.1 s.2.2.2.2.2) (fun R => ∃ B : A5, inE gs gh ln cu t r w0 0 A B ∧ R = k (nI 1) Tr (nI (w0 + ln r)) ce (nA bn) B.1 B.2.1 B.2.2.1 B.2.2.2.1 B.2.2.2.2) (fun s => s.1 ≤ ln r ∧ inE gs gh ln cu t r w0 s.1 A s.2) (fun s => s.1) ?_
  rintro N ⟨c, B⟩ ⟨q1, q2⟩
  dsimp only at q1 q2 ⊢
  cases c with
  | zero =>
    left
    refine ⟨B, q2, ?_⟩
    simp only [lp_X4_placeNode_100]
    rw [if_pos dn_0, Nat.sub_zero]
  | succ c =>
    right
    have e1 : w0 + (ln r - (c + 1)) + 1 = w0 + (ln r - c) := by omega
    have e2 : w0 + (ln r - (c + 1)) = w0 + (ln r - 1 - c) := by omega
    refine ⟨(c, upd B.1 (w0 + (ln r - 1 - c)) (nI (rsy gs r c)), upd B.2.1 (w0 + (ln r - 1 - c)) (nI t), upd B.2.2.1 (w0 + (ln r - 1 - c)) (nI (cu c)), upd B.2.2.2.1 (w0 + (ln r - 1 - c)) (nI (cu (c + 1))), upd B.2.2.2.2 (w0 + (ln r - 1 - c)) (nI (gh (r * 5 + c)))), ⟨by dsimp only; omega, fun w hw => ?_, fun m h1 h2 => ?_⟩, by dsimp only; omega, ?_⟩
    · dsimp only
      rw [pk_un (by omega), pk_un (by omega), pk_un (by omega), pk_un (by omega), pk_un (by omega)]
      exact q2.1 w hw
    · dsimp only at h1 ⊢
      by_cases e3 : m = c
      · subst e3
        rw [pk_us, pk_us, pk_us, pk_us, pk_us]
        exact ⟨rfl, rfl, rfl, rfl, rfl⟩
      · rw [pk_un (by omega), pk_un (by omega), pk_un (by omega), pk_un (by omega), pk_un (by omega)]
        exact q2.2 m (by omega) h2
    · dsimp only
      rw [pn_unf G hr (by omega) (by omega) hbn (by omega), if_pos (by omega), e1, e2]
theorem pn_bad {t r z w0 : Nat} {cu bn : Nat → Nat} {Tr : Nat → Int64} {ce hch wi : Nat → Int32} {hp : Nat → Int64} (G : GW nr hd ln (rsy gs)) (hr : r < nr) (hz : 150 < z + w0 + ln r) (hz2 : z + w0 ≤ 150) (hbn : ∀ m, m < ln r → bn m = cu m) (k : KPN) :
    ∀ N (s : Nat × Nat × Nat × A5), s.1 + s.2.1 < N → (s.1 ≤ ln r ∧ s.2.1 ≤ 1 ∧ s.2.2.1 ≤ 1000 ∧ (s.2.1 = 1 → s.2.2.1 = w0 + (ln r - s.1) ∧ z + s.2.2.1 ≤ 150)) → ∃ (W : Nat) (B : A5), W ≤ 1000 ∧ lp_X4_placeNode_100 (nA ln) (nA gs) (nA gh) hp hch (nI z) wi k N (nI t) (nI r) (nI s.2.1) (nI (cu s.1)) (dn s.1) Tr (nI s.2.2.1) ce (nA bn) s.2.2.2.1 s.2.2.2.2.1 s.2.2.2.2.2.1 s.2.2.2.2.2.2.1 s.2.2.2.2.2.2.2 = k (nI 0) Tr (nI W) ce (nA bn) B.1 B.2.1 B.2.2.1 B.2.2.2.1 B.2.2.2.2 := by
  have hl := (G.2 r hr).2.2.1
  refine loopE (fun N (s : Nat × Nat × Nat × A5) => lp_X4_placeNode_100 (nA ln) (nA gs) (nA gh) hp hch (nI z) wi k N (nI t) (nI r) (nI s.2.1) (nI (cu s.1)) (dn s.1) Tr (nI s.2.2.1) ce (nA bn) s.2.2.2.1 s.2.2.2.2.1 s.2.2.2.2.2.1 s.2.2.2.2.2.2.1 s.2.2.2.2.2.2.2) (fun R => ∃ (W : Nat) (B : A5), W ≤ 1000 ∧ R = k (nI 0) Tr (nI W) ce (nA bn) B.1 B.2.1 B.2.2.1 B.2.2.2.1 B.2.2.2.2) _ (fun s => s.1 + s.2.1) ?_
  rintro N ⟨c, f, w, B⟩ ⟨q1, q2, q3, q4⟩
  dsimp only at q1 q2 q3 q4 ⊢
  by_cases hf : f = 0
  · left
    subst hf
    refine ⟨w, B, q3, ?_⟩
    simp only [lp_X4_placeNode_100]
    by_cases hc : dn c < 0
    · rw [if_pos hc]
    · rw [if_neg hc, if_pos (show nI 0 = (0 : Int32) from rfl)]
  · have hf1 : f = 1 := by omega
    subst hf1
    obtain ⟨p1, p2⟩ := q4 rfl
    cases c with
    | zero => omega
    | succ c =>
      right
      by_cases h : z + w < 150
      · refine ⟨(c, 1, w + 1, upd B.1 w (nI (rsy gs r c)), upd B.2.1 w (nI t), upd B.2.2.1 w (nI (cu c)), upd B.2.2.2.1 w (nI (cu (c + 1))), upd B.2.2.2.2 w (nI (gh (r * 5 + c)))), ⟨by dsimp only; omega, Nat.le_refl _, by dsimp only; omega, fun _ => ⟨by dsimp only; omega, by dsimp only; omega⟩⟩, by dsimp only; omega, ?_⟩
        dsimp only
        rw [pn_unf G hr (by omega) (by omega) hbn (by omega), if_pos h]
      · refine ⟨(c, 0, w, B), ⟨by dsimp only; omega, by dsimp only; omega, q3, fun c => absurd (show (0 : Nat) = 1 from c) (by decide)⟩, by dsimp only; omega, ?_⟩
        dsimp only
        rw [pn_unf G hr (by omega) (by omega) hbn (by omega), if_neg h]
end CTREE
