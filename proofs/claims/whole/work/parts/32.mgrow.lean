/-! the reference's grow follows the machine, too -/
def ch5 (wt : Nat → Int32) (b : Nat) (v0 v1 v2 v3 v4 : Int32) : Nat → Int32 := upd (upd (upd (upd (upd wt b v0) (b + 1) v1) (b + 2) v2) (b + 3) v3) (b + 4) v4
theorem ch5_is {wt : Nat → Int32} {b : Nat} {v0 v1 v2 v3 v4 : Int32} : (∀ x, x < b → ch5 wt b v0 v1 v2 v3 v4 x = wt x) ∧ ch5 wt b v0 v1 v2 v3 v4 b = v0 ∧ ch5 wt b v0 v1 v2 v3 v4 (b + 1) = v1 ∧ ch5 wt b v0 v1 v2 v3 v4 (b + 2) = v2 ∧ ch5 wt b v0 v1 v2 v3 v4 (b + 3) = v3 ∧ ch5 wt b v0 v1 v2 v3 v4 (b + 4) = v4 := by
  unfold ch5
  refine ⟨fun x hx => ?_, ?_, ?_, ?_, ?_, ?_⟩
  · rw [pk_un (by omega), pk_un (by omega), pk_un (by omega), pk_un (by omega), pk_un (by omega)]
  · rw [pk_un (by omega), pk_un (by omega), pk_un (by omega), pk_un (by omega), pk_us]
  · rw [pk_un (by omega), pk_un (by omega), pk_un (by omega), pk_us]
  · rw [pk_un (by omega), pk_un (by omega), pk_us]
  · rw [pk_un (by omega), pk_us]
  · rw [pk_us]
theorem e_push {a1 a2 a3 a4 a5 : Int32} {w : Nat} {wt : Nat → Int32} (hw : w < 800) : f_X6_push a1 a2 a3 a4 a5 (nI w) wt = some (nI (w + 1), ch5 wt (5 * w) a1 a2 a3 a4 a5) := by
  unfold f_X6_push
  rw [show (5 : Int32) = nI 5 from rfl, nI_mul, wrI_nI (by omega) (by omega), ob, nI_1 (5 * w), wrI_nI (by omega) (by omega), ob, show (2 : Int32) = nI 2 from rfl, nI_add, wrI_nI (by omega) (by omega), ob, show (3 : Int32) = nI 3 from rfl, nI_add, wrI_nI (by omega) (by omega), ob, show (4 : Int32) = nI 4 from rfl, nI_add, wrI_nI (by omega) (by omega), ob, nI_1 w]
  rfl
def MS (a : AST) (wt : Nat → Int32) : Prop := ∀ w, w < a.1 → wt (5 * w) = nI (sSy (a.2.1 w)) ∧ wt (5 * w + 1) = nI (sFr (a.2.1 w)) ∧ wt (5 * w + 2) = nI (sTo (a.2.1 w)) ∧ wt (5 * w + 3) = pcon (sPa (a.2.1 w)) ∧ wt (5 * w + 4) = nI (sPl (a.2.1 w))
abbrev A8 : Type := (Nat → Int32) × (Nat → Int32) × (Nat → Int32) × (Nat → Int32) × (Nat → Int32) × (Nat → Int32) × (Nat → Int32) × (Nat → Int32)
/-- the parts as the reference has them: rule, symbol, parent, place, from, to, cost, depth -/
def MP (D : Nat → Nat → Nat → Nat) (t : Nat) (P : Nat → PE) (M : A8) : Prop := ∀ k, k < t → M.1 k = (if pSy (P k) ≤ 8 then -1 else nI (pRu (P k))) ∧ M.2.1 k = nI (pSy (P k)) ∧ M.2.2.1 k = pcon (pPa (P k)) ∧ M.2.2.2.1 k = nI (pPl (P k)) ∧ M.2.2.2.2.1 k = nI (pFr (P k)) ∧ M.2.2.2.2.2.1 k = nI (pTo (P k)) ∧ M.2.2.2.2.2.2.1 k = nI (pCost D (P k)) ∧ M.2.2.2.2.2.2.2 k = nI (pDp (P k))
theorem MP.add {D : Nat → Nat → Nat → Nat} {t : Nat} {P P' : Nat → PE} {M : A8} {q : PE} (h : MP D t P M) (hq : P' t = q) (hP : ∀ k, k < t → P' k = P k) : MP D (t + 1) P' (upd M.1 t (if pSy q ≤ 8 then -1 else nI (pRu q)), upd M.2.1 t (nI (pSy q)), upd M.2.2.1 t (pcon (pPa q)), upd M.2.2.2.1 t (nI (pPl q)), upd M.2.2.2.2.1 t (nI (pFr q)), upd M.2.2.2.2.2.1 t (nI (pTo q)), upd M.2.2.2.2.2.2.1 t (nI (pCost D q)), upd M.2.2.2.2.2.2.2 t (nI (pDp q))) := by
  intro k hk
  dsimp only
  by_cases c : k = t
  · subst c
    rw [hq, pk_us, pk_us, pk_us, pk_us, pk_us, pk_us, pk_us, pk_us]
    exact ⟨rfl, rfl, rfl, rfl, rfl, rfl, rfl, rfl⟩
  · rw [hP k (by omega), pk_un c, pk_un c, pk_un c, pk_un c, pk_un c, pk_un c, pk_un c, pk_un c]
    exact h k (by omega)
section MGROW
variable {nr : Nat} {hd gs ln sg B : Nat → Nat} {n : Nat} {D : Nat → Nat → Nat → Nat}
def MChart (n : Nat) (D : Nat → Nat → Nat → Nat) (B : Nat → Nat) : Prop := (∀ x, B x ≤ dINF) ∧ ∀ k i j, 9 ≤ k → k ≤ 14 → i ≤ j → j ≤ n → B (csp k i j) = psi (D k i j)
theorem mpr_psi (F : Fix nr hd ln (rsy gs) n (lf32 sg) D) (hn : n ≤ 16) (hM : MChart n D B) {s i j : Nat} (h1 : 1 ≤ s) (h14 : s ≤ 14) (hij : i ≤ j) (hjn : j ≤ n) : mpr sg B s i j = psi (D s i j) := by
  unfold mpr
  by_cases h8 : s ≤ 8
  · rw [if_pos h8, F.1 s i j h1 h8 hij hjn]
    have hI := dINF_v
    have hc := lfc_le (sg := sg) (s := s) (i := i) hjn hn
    rw [psi_fin (by unfold lf32; omega)]
    unfold lf32 lf24
    omega
  · rw [if_neg h8]
    exact hM.2 s i j (by omega) h14 hij hjn
/-- the reference chooses the machine's rule and cuts -/
theorem m_choose (G : GW nr hd ln (rsy gs)) (F : Fix nr hd ln (rsy gs) n (lf32 sg) D) (hn : n ≤ 16) (hsg : ∀ t, t < n → sg t ≤ 8) (hM : MChart n D B) {k i j : Nat} (k9 : 9 ≤ k) (k14 : k ≤ 14) (hij : i ≤ j) (hjn : j ≤ n) (hf : D k i j < dINF) {R0 cu0 : Nat → Nat} (hR : ∀ x, R0 x ≤ dINF) :
    ∃ R cu : Nat → Nat, (∀ x, R x ≤ dINF) ∧ (∀ m, m ≤ ln (rfn nr hd ln (rsy gs) D k i j) → cu m = cfn ln (rsy gs) D (rfn nr hd ln (rsy gs) D k i j) i j m) ∧ f_X6_choose (nI k) (nI i) (nI j) (nI nr) (nI n) (nA hd) (nA ln) (nA gs) (nA sg) (lA B) (lA R0) (nA cu0) = some (nI (rfn nr hd ln (rsy gs) D k i j), lA R, nA cu) := by
  have hcg : ∀ r, r < nr → ∀ m, m ≤ ln r → ∀ e, i ≤ e → e ≤ j → cnv (rsy gs) (mpr sg B) r i m e = cnv (rsy gs) (fun s i j => psi (D s i j)) r i m e := fun r hr m hm e h1 h2 => cnv_congr (fun m' hm' a b p1 p2 p3 => mpr_psi F hn hM ((G.2 r hr).2.2.2 m' (by omega)).1 ((G.2 r hr).2.2.2 m' (by omega)).2 p2 (by omega))
  have hk : mpr sg B k i j = psi (D k i j) := mpr_psi F hn hM (by omega) k14 hij hjn
  obtain ⟨r0, hr0⟩ := isRf_ex G F k9 k14 hij hjn hf
  have hpf : psi (D k i j) < dINF := by rw [psi_fin hf]; omega
  obtain ⟨r, R, cu, ⟨c1, c2, c3, c4, c5, c6⟩, c7⟩ := e_mchoose (cu0 := cu0) G hn hsg hM.1 k9 k14 hij hjn hR (by rw [hk]; exact hpf) ⟨r0, hr0.1, hr0.2.1, by rw [hk, hcg r0 hr0.1 _ (Nat.le_refl _) j hij (Nat.le_refl _)]; exact (good_iff G F hn hr0.1 hr0.2.1 hij hjn hf).mpr hr0.2.2.1⟩
  have hrf : isRf nr hd ln (rsy gs) D k i j r := by
    refine ⟨c1, c2, (good_iff G F hn c1 c2 hij hjn hf).mp (by rw [← hk, ← hcg r c1 _ (Nat.le_refl _) j hij (Nat.le_refl _)]; exact c3), fun r' p1 p2 p3 => c4 r' p1 p2 ?_⟩
    rw [hk, hcg r' (by omega) _ (Nat.le_refl _) j hij (Nat.le_refl _)]
    exact (good_iff G F hn (by omega) p2 hij hjn hf).mpr p3
  have hcf : cnv (rsy gs) D r i (ln r) j < dINF := by have := hrf.2.2.1.1; omega
  obtain ⟨cv, hcv⟩ := isCut_ex (sy := rsy gs) (p := D) (r := r) (i := i) (ln r) j hij hcf
  have h1 : isCut (rsy gs) (fun s i j => psi (D s i j)) (ln r) r i j cu := isCut_congr (fun m hm a b p1 p2 p3 => mpr_psi F hn hM ((G.2 r c1).2.2.2 m hm).1 ((G.2 r c1).2.2.2 m hm).2 p2 (by omega)) c6
  have h2 := isCut_psi G F hn c1 hij hjn hcf (cfn_is hcv)
  rw [rfn_eq hrf]
  exact ⟨R, cu, c5, isCut_unique h1 h2, c7⟩
theorem m_cost (G : GW nr hd ln (rsy gs)) (F : Fix nr hd ln (rsy gs) n (lf32 sg) D) (hn : n ≤ 16) {s i j : Nat} (h1 : 1 ≤ s) (h14 : s ≤ 14) (hij : i ≤ j) (hjn : j ≤ n) (hf : D s i j < dINF) : psi (D s i j) / 16777216 = D s i j / 4294967296 := by
  have hw := wt_all G F hn h1 h14 hij hjn hf
  unfold wt at hw
  rw [psi_fin hf]
  omega
abbrev RMG : Type := Option (Int32 × Int32 × Int32 × (Nat → Int64) × (Nat → Int32) × (Nat → Int32) × (Nat → Int32) × (Nat → Int32) × (Nat → Int32) × (Nat → Int32) × (Nat → Int32) × (Nat → Int32) × (Nat → Int32) × (Nat → Int32))
abbrev KMG : Type := Int32 → Int32 → (Nat → Int64) → (Nat → Int32) → (Nat → Int32) → (Nat → Int32) → (Nat → Int32) → (Nat → Int32) → (Nat → Int32) → (Nat → Int32) → (Nat → Int32) → (Nat → Int32) → (Nat → Int32) → RMG
/-- the pushes of a rule's symbols -/
theorem l_push (G : GW nr hd ln (rsy gs)) {t r w0 : Nat} {cu : Nat → Nat} (hr : r < nr) (ht : t < 150) (hw0 : w0 + 5 < 800) {mt me : Int32} {mb : Nat → Int64} {mp : Int32} {R : Nat → Int64} {M : A8} {wt0 : Nat → Int32} (hM : M.1 t = nI r) (k : KMG) :
    ∀ N (s : Nat × (Nat → Int32)), s.1 < N → (s.1 ≤ ln r ∧ (∀ x, x < 5 * w0 → s.2 x = wt0 x) ∧ ∀ m, s.1 ≤ m → m < ln r → s.2 (5 * (w0 + (ln r - 1 - m))) = nI (rsy gs r m) ∧ s.2 (5 * (w0 + (ln r - 1 - m)) + 1) = nI (cu m) ∧ s.2 (5 * (w0 + (ln r - 1 - m)) + 2) = nI (cu (m + 1)) ∧ s.2 (5 * (w0 + (ln r - 1 - m)) + 3) = nI t ∧ s.2 (5 * (w0 + (ln r - 1 - m)) + 4) = nI m) →
      ∃ wt : Nat → Int32, ((∀ x, x < 5 * w0 → wt x = wt0 x) ∧ ∀ m, m < ln r → wt (5 * (w0 + (ln r - 1 - m))) = nI (rsy gs r m) ∧ wt (5 * (w0 + (ln r - 1 - m)) + 1) = nI (cu m) ∧ wt (5 * (w0 + (ln r - 1 - m)) + 2) = nI (cu (m + 1)) ∧ wt (5 * (w0 + (ln r - 1 - m)) + 3) = nI t ∧ wt (5 * (w0 + (ln r - 1 - m)) + 4) = nI m) ∧
        lp_X6_grow_280 (nI nr) mt me (nA hd) (nA ln) (nA gs) (nA sg) mb k N (nI t) (dn s.1) mp (nI (w0 + (ln r - s.1))) R (nA cu) M.1 M.2.1 M.2.2.1 M.2.2.2.1 M.2.2.2.2.1 M.2.2.2.2.2.1 M.2.2.2.2.2.2.1 M.2.2.2.2.2.2.2 s.2 = k mp (nI (w0 + ln r)) R (nA cu) M.1 M.2.1 M.2.2.1 M.2.2.2.1 M.2.2.2.2.1 M.2.2.2.2.2.1 M.2.2.2.2.2.2.1 M.2.2.2.2.2.2.2 wt := by
  have g := G.2 r hr
  have hnr := G.1
  refine loopE (fun N (s : Nat × (Nat → Int32)) => lp_X6_grow_280 (nI nr) mt me (nA hd) (nA ln) (nA gs) (nA sg) mb k N (nI t) (dn s.1) mp (nI (w0 + (ln r - s.1))) R (nA cu) M.1 M.2.1 M.2.2.1 M.2.2.2.1 M.2.2.2.2.1 M.2.2.2.2.2.1 M.2.2.2.2.2.2.1 M.2.2.2.2.2.2.2 s.2) (fun Q => ∃ wt : Nat → Int32, ((∀ x, x < 5 * w0 → wt x = wt0 x) ∧ ∀ m, m < ln r → wt (5 * (w0 + (ln r - 1 - m))) = nI (rsy gs r m) ∧ wt (5 * (w0 + (ln r - 1 - m)) + 1) = nI (cu m) ∧ wt (5 * (w0 + (ln r - 1 - m)) + 2) = nI (cu (m + 1)) ∧ wt (5 * (w0 + (ln r - 1 - m)) + 3) = nI t ∧ wt (5 * (w0 + (ln r - 1 - m)) + 4) = nI m) ∧ Q = k mp (nI (w0 + ln r)) R (nA cu) M.1 M.2.1 M.2.2.1 M.2.2.2.1 M.2.2.2.2.1 M.2.2.2.2.2.1 M.2.2.2.2.2.2.1 M.2.2.2.2.2.2.2 wt) _ (fun s => s.1) ?_
  rintro N ⟨c, wt⟩ ⟨q1, q2, q3⟩
  dsimp only at q1 q2 q3 ⊢
  cases c with
  | zero =>
    left
    refine ⟨wt, ⟨q2, fun m hm => q3 m (Nat.zero_le _) hm⟩, ?_⟩
    simp only [lp_X6_grow_280]
    rw [if_pos dn_0, Nat.sub_zero]
  | succ c =>
    right
    have e1 : w0 + (ln r - (c + 1)) + 1 = w0 + (ln r - c) := by omega
    have e2 : w0 + (ln r - (c + 1)) = w0 + (ln r - 1 - c) := by omega
    have e3 : 5 * r + c = r * 5 + c := by omega
    have hc := ch5_is (wt := wt) (b := 5 * (w0 + (ln r - 1 - c))) (v0 := nI (rsy gs r c)) (v1 := nI (cu c)) (v2 := nI (cu (c + 1))) (v3 := nI t) (v4 := nI c)
    refine ⟨(c, ch5 wt (5 * (w0 + (ln r - 1 - c))) (nI (rsy gs r c)) (nI (cu c)) (nI (cu (c + 1))) (nI t) (nI c)), ⟨by dsimp only; omega, fun x hx => ?_, fun m h1 h2 => ?_⟩, by dsimp only; omega, ?_⟩
    · dsimp only
      rw [hc.1 x (by omega)]
      exact q2 x hx
    · dsimp only at h1 ⊢
      by_cases e4 : m = c
      · subst e4; exact hc.2
      · rw [hc.1 _ (by omega), hc.1 _ (by omega), hc.1 _ (by omega), hc.1 _ (by omega), hc.1 _ (by omega)]
        exact q3 m (by omega) h2
    · dsimp only
      rw [dn_s]
      simp only [lp_X6_grow_280, nm]
      rw [if_neg (nI_pos (by omega)), rd_nI ht (by omega), ob, hM, show (5 : Int32) = nI 5 from rfl, nI_mul, nI_add, e3, rd_nA (by omega) (by omega), ob, rd_nA (by omega) (by omega), ob, nI_1 c, rd_nA (by omega) (by omega), ob, e_push (by omega), ob]
      dsimp only
      rw [e1, e2, dn_next]
      rfl
end MGROW
