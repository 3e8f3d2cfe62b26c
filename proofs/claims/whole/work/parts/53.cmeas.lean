/-! widths: the class's measure -/
def cmW (cl : Nat → Nat) (f : Nat) : Nat → Nat
  | 0 => 0
  | d + 1 => cmW cl f d + (cl (f + d) + 1)
def tkW (tl fc cl : Nat → Nat) (a : Nat) : Nat → Nat
  | 0 => 0
  | d + 1 => tkW tl fc cl a d + (tl (a + d) + cmW cl (fc (a + d)) (fc (a + d + 1) - fc (a + d)) + 1)
theorem cmW_len {tx cs cl : Nat → Nat} {f d : Nat} : (cmS tx cs cl f d).length + (sep d).length = cmW cl f d := by
  induction d with
  | zero => rfl
  | succ d ih =>
    rw [cmS_s]
    have h1 : (sep (d + 1)).length = 1 := by rw [sep_len, if_neg (by omega)]
    show _ = cmW cl f d + (cl (f + d) + 1)
    omega
theorem tkW_len {tx ts tl fc cs cl : Nat → Nat} {a d : Nat} : (tkS tx ts tl fc cs cl a d).length + (sep d).length = tkW tl fc cl a d := by
  induction d with
  | zero => rfl
  | succ d ih =>
    rw [tkS_s]
    have h1 : (sep (d + 1)).length = 1 := by rw [sep_len, if_neg (by omega)]
    have h2 := cmW_len (tx := tx) (cs := cs) (cl := cl) (f := fc (a + d)) (d := fc (a + d + 1) - fc (a + d))
    show _ = tkW tl fc cl a d + (tl (a + d) + cmW cl (fc (a + d)) (fc (a + d + 1) - fc (a + d)) + 1)
    omega
theorem tkW_ge {tl fc cl : Nat → Nat} {a d : Nat} : d ≤ tkW tl fc cl a d := by
  induction d with
  | zero => exact Nat.le_refl _
  | succ d ih => show d + 1 ≤ tkW tl fc cl a d + (_ + 1); omega
theorem cmW_sum {cl : Nat → Nat} {f d : Nat} : cmW cl f d + sumR (fun c => cl c + 1) f = sumR (fun c => cl c + 1) (f + d) := by
  induction d with
  | zero => show 0 + _ = _; rw [Nat.add_zero, Nat.zero_add]
  | succ d ih =>
    show cmW cl f d + (cl (f + d) + 1) + _ = sumR (fun c => cl c + 1) (f + d) + (cl (f + d) + 1)
    omega
section CMEAS
variable {tx : Nat → Nat} {len : Nat} {ct : Nat → Int32} {n : Nat} {ts tl tg fc cs cl : Nat → Nat}
/-- the tokens up to b take no more than twice the text -/
theorem tkW_sum (K : TOK len n ts tl tg fc cs cl) {a : Nat} : ∀ d, a + d ≤ n → tkW tl fc cl a d + sumR (fun t => tl t + 1) a + sumR (fun c => cl c + 1) (fc a) = sumR (fun t => tl t + 1) (a + d) + sumR (fun c => cl c + 1) (fc (a + d)) := by
  intro d
  induction d with
  | zero => intro _; show 0 + _ + _ = _; rw [Nat.add_zero, Nat.zero_add]
  | succ d ih =>
    intro h
    have h1 := ih (by omega)
    have h2 := cmW_sum (cl := cl) (f := fc (a + d)) (d := fc (a + d + 1) - fc (a + d))
    have h3 := K.2.2.2.2.1 (a + d) (by omega)
    rw [show fc (a + d) + (fc (a + d + 1) - fc (a + d)) = fc (a + d + 1) by omega] at h2
    show tkW tl fc cl a d + (tl (a + d) + cmW cl (fc (a + d)) (fc (a + d + 1) - fc (a + d)) + 1) + _ + _ = sumR (fun t => tl t + 1) (a + d) + (tl (a + d) + 1) + sumR (fun c => cl c + 1) (fc (a + d + 1))
    omega
theorem tkW_le (K : TOK len n ts tl tg fc cs cl) {a d : Nat} (h : a + d ≤ n) : tkW tl fc cl a d ≤ 160 := by
  have h1 := tkW_sum K d h
  have h2 := K.2.2.2.2.2.2.2
  have h3 : sumR (fun t => tl t + 1) (a + d) ≤ sumR (fun t => tl t + 1) n := sumR_mono h
  have h4 : sumR (fun c => cl c + 1) (fc (a + d)) ≤ sumR (fun c => cl c + 1) (fc (n + 1)) := sumR_mono (fc_end K (by omega))
  have := K.1
  omega
theorem e_widthOf (K : TOK len n ts tl tg fc cs cl) {t : Nat} (ht : t < n) : f_X1_widthOf (nI t) (nI n) (nA tl) (nA fc) (nA cs) (nA (fun x => cs x + cl x)) = some (nI (tl t + cmW cl (fc t) (fc (t + 1) - fc t))) := by
  have hn := K.2.1
  have hf40 := fc_le K (show t + 1 ≤ n + 1 by omega)
  have hfe := fc_end K (show t + 1 ≤ n + 1 by omega)
  have hle := K.2.2.2.2.1 t (by omega)
  unfold f_X1_widthOf f_X1_lengthOf jn_X1_lengthOf_22
  simp only [nm]
  rw [if_neg (nI_pos (by omega)), if_neg (nI_ge ht (by omega)), rd_nA (by omega) (by omega), ob, ob, rd_nA (by omega) (by omega), ob, e_commentsOf K (by omega), ob, ob, nI_add]
  generalize hd : fc (t + 1) - fc t = d
  have key := loopE (fun N k => lp_X1_widthOf_27 (nI n) (nA tl) (nA fc) (nA cs) (nA (fun x => cs x + cl x)) (fun x2 => some x2) N (nI (tl t + cmW cl (fc t) k)) (nI (fc t + d)) (nI (fc t + k)))
    (fun R => R = some (nI (tl t + cmW cl (fc t) d))) (fun k => k ≤ d) (fun k => d - k) ?_ FU 0 (FU_gt (by omega)) (by omega)
  · exact key
  · intro N k hk
    simp only [lp_X1_widthOf_27, nm]
    by_cases h : d ≤ k
    · left
      rw [if_pos ((nI_leI (by omega) (by omega)).mpr (by omega)), show k = d by omega]
    · right
      refine ⟨k + 1, by omega, by omega, ?_⟩
      rw [if_neg (fun c => h (by have := (nI_leI (by omega) (by omega)).mp c; omega)), rd_nA (by omega) (by omega), ob, rd_nA (by omega) (by omega), ob, nI_sub (by omega), nI_1, nI_add, of1, nI_add, show cs (fc t + k) + cl (fc t + k) - cs (fc t + k) + 1 = cl (fc t + k) + 1 by omega, Nat.add_assoc (tl t)]
      rfl
def lw (tx ts tl fc cs cl : Nat → Nat) (P : Nat → PE) (u : Nat) : Nat := (tkS tx ts tl fc cs cl (pFr (P u)) (pTo (P u) - pFr (P u))).length
def bwd (tx ts fc : Nat → Nat) (t : Nat) : Bool := decide (fc (t + 1) = fc t) && isDig (tx (ts t))
def fgN (tx ts fc gh : Nat → Nat) (P : Nat → PE) (u : Nat) : Nat := if hntP gh P u = 0 ∧ ¬ bwd tx ts fc (pFr (P u)) = true then 0 else 1
def hg (P : Nat → PE) (u : Nat) : Bool := decide (pPa (P u) ≠ 999) && decide (pFr (P u) < pTo (P u)) && decide (pFr (P u) ≠ pFr (P (pPa (P u))))
def gpN (tx ts fc gh : Nat → Nat) (P : Nat → PE) (u : Nat) : Nat := if hg P u = true then fgN tx ts fc gh P u else 0
def bsN (tx ts tl fc cs cl : Nat → Nat) (P : Nat → PE) (u : Nat) : Nat := if pSy (P u) ≤ 8 then lw tx ts tl fc cs cl P u else 0
def wN (tx ts tl fc cs cl gh : Nat → Nat) (P : Nat → PE) (u : Nat) : Nat := bsN tx ts tl fc cs cl P u + gpN tx ts fc gh P u
def FlN (tx ts tl fc cs cl gh : Nat → Nat) (P : Nat → PE) (T u : Nat) : Nat := if pSy (P u) ≤ 8 then lw tx ts tl fc cs cl P u else sumR (wN tx ts tl fc cs cl gh P) (en P T u) - sumR (wN tx ts tl fc cs cl gh P) (u + 1)
def kdN (tx ts tl fc cs cl gh : Nat → Nat) (P : Nat → PE) (T u : Nat) : Nat := FlN tx ts tl fc cs cl gh P T u + gpN tx ts fc gh P u
variable {nr : Nat} {ln gh : Nat → Nat} {e T : Nat} {P : Nat → PE}
theorem kd_eq (R : TRF nr ln n e T P) {c : Nat} (hc : c < T) : kdN tx ts tl fc cs cl gh P T c + sumR (wN tx ts tl fc cs cl gh P) c = sumR (wN tx ts tl fc cs cl gh P) (en P T c) := by
  have hin := en_in (P := P) hc
  have hm := sumR_mono (f := wN tx ts tl fc cs cl gh P) hin.1
  have hs := sumR_s (wN tx ts tl fc cs cl gh P) c
  have hw : wN tx ts tl fc cs cl gh P c = bsN tx ts tl fc cs cl P c + gpN tx ts fc gh P c := rfl
  unfold kdN FlN
  unfold bsN at hw
  by_cases h8 : pSy (P c) ≤ 8
  · rw [if_pos h8, leaf_en R hc h8, hs, hw, if_pos h8]; omega
  · rw [if_neg h8] at hw ⊢; omega
theorem fl_csum (R : TRF nr ln n e T P) {u : Nat} (hu : u < T) : bsN tx ts tl fc cs cl P u + csum P (kdN tx ts tl fc cs cl gh P T) u T = FlN tx ts tl fc cs cl gh P T u := by
  have h := csum_all R (f := kdN tx ts tl fc cs cl gh P T) (w := wN tx ts tl fc cs cl gh P) (fun c _ hc => kd_eq R hc) hu
  unfold bsN FlN
  by_cases h8 : pSy (P u) ≤ 8
  · rw [if_pos h8, if_pos h8]
    rw [leaf_en R hu h8] at h; omega
  · rw [if_neg h8, if_neg h8]; omega
theorem lw_le (K : TOK len n ts tl tg fc cs cl) (R : TRF nr ln n e T P) {u : Nat} (hu : u < T) : lw tx ts tl fc cs cl P u ≤ 160 := by
  have h1 := R.2.2.2.1 u hu
  have h2 := tkW_le K (a := pFr (P u)) (d := pTo (P u) - pFr (P u)) (by omega)
  have h3 := tkW_len (tx := tx) (ts := ts) (tl := tl) (fc := fc) (cs := cs) (cl := cl) (a := pFr (P u)) (d := pTo (P u) - pFr (P u))
  unfold lw; omega
theorem w_le (K : TOK len n ts tl tg fc cs cl) (R : TRF nr ln n e T P) {u : Nat} (hu : u < T) : wN tx ts tl fc cs cl gh P u ≤ 161 := by
  have h1 := lw_le (tx := tx) K R hu
  have h2 : gpN tx ts fc gh P u ≤ 1 := by
    unfold gpN fgN
    split
    · split <;> omega
    · omega
  unfold wN bsN
  split <;> omega
theorem sw_le (K : TOK len n ts tl tg fc cs cl) (R : TRF nr ln n e T P) : ∀ x, x ≤ T → sumR (wN tx ts tl fc cs cl gh P) x ≤ 161 * x := by
  intro x
  induction x with
  | zero => intro _; exact Nat.le_refl _
  | succ x ih =>
    intro h
    have h1 := ih (by omega)
    have h2 := w_le (tx := tx) (gh := gh) K R (u := x) (by omega)
    rw [sumR_s]; omega
theorem fl_le (K : TOK len n ts tl tg fc cs cl) (R : TRF nr ln n e T P) {u : Nat} (hu : u < T) : FlN tx ts tl fc cs cl gh P T u ≤ 25000 := by
  have hin := en_in (P := P) hu
  have h1 := sw_le (tx := tx) (gh := gh) K R (en P T u) hin.2
  have h2 := lw_le (tx := tx) K R hu
  have := R.1.2.1
  unfold FlN
  split <;> omega
section CELLS
variable {D : Nat → Nat → Nat → Nat} {ce hi wi : Nat → Int32}
theorem e_cell {k j : Nat} (h : k * 7 + j < 1050) : f_X4_cell (nI k) (nI j) ce = some (ce (k * 7 + j)) := by
  unfold f_X4_cell
  rw [show (7 : Int32) = nI 7 from rfl, nI_mul, nI_add, rd_nI h (by omega)]
  rfl
theorem e_isLeaf (C : CP gh ln D T P ce hi wi) (hT : T ≤ 150) {u : Nat} (hu : u < T) (hr : 9 ≤ pSy (P u) → pRu (P u) < 20) : f_X4_isLeaf (nI u) ce = some (if pSy (P u) ≤ 8 then 1 else 0) := by
  unfold f_X4_isLeaf jn_X4_isLeaf_15
  rw [show (0 : Int32) = nI 0 from rfl, e_cell (by omega), ob, show ce (u * 7 + 0) = ce (u * 7) from rfl, (C u hu).1]
  by_cases h : pSy (P u) ≤ 8
  · rw [if_pos h, if_pos h, if_pos rfl]; rfl
  · rw [if_neg h, if_neg h, if_neg (nI_nm1 (by have := hr (by omega); omega))]; rfl
theorem pcon_m1 {p : Nat} (h : p < 2 ^ 31) : pcon p = -1 ↔ p = 999 := by
  unfold pcon
  by_cases c : p = 999
  · rw [if_pos c]; exact ⟨fun _ => c, fun _ => rfl⟩
  · rw [if_neg c]; exact ⟨fun x => absurd x (nI_nm1 h), fun x => absurd x c⟩
theorem e_hasGap (C : CP gh ln D T P ce hi wi) (R : TRF nr ln n e T P) {u : Nat} (hu : u < T) : f_X3_hasGap (nI u) ce = some (if hg P u = true then 1 else 0) := by
  have hT := R.1.2.1
  have hr := R.2.2.2.1 u hu
  have hn := R.1.2.2.2
  obtain ⟨c0, c1, c2, c3, c4, c5, c6, c7, c8⟩ := C u hu
  unfold f_X3_hasGap jn_X3_hasGap_52 jn_X3_hasGap_53
  simp only [nm]
  rw [show (2 : Int32) = nI 2 from rfl, show (4 : Int32) = nI 4 from rfl, show (3 : Int32) = nI 3 from rfl, e_cell (by omega), ob, c2, e_cell (by omega), ob, c4, e_cell (by omega), ob, c3]
  unfold hg
  by_cases h1 : pPa (P u) = 999
  · rw [if_pos ((pcon_m1 (by omega)).mpr h1), if_neg (by simp [h1])]; rfl
  · have hu0 : 0 < u := by
      rcases Nat.eq_zero_or_pos u with z | z
      · rw [z] at h1; exact absurd R.2.1.2.2.1 h1
      · exact z
    have hp := (R.2.2.1 u hu0 hu).1
    have hpc : pcon (pPa (P u)) = nI (pPa (P u)) := if_neg h1
    rw [if_neg (fun x => h1 ((pcon_m1 (by omega)).mp x)), hpc]
    by_cases h2 : pFr (P u) < pTo (P u)
    · rw [if_neg (show ¬ nI (pTo (P u) - pFr (P u)) ≤ (0 : Int32) from nI_nle (by omega) (by omega)), e_cell (by omega), ob, (C (pPa (P u)) (by omega)).2.2.2.1]
      have hrp := R.2.2.2.1 (pPa (P u)) (by omega)
      by_cases h3 : pFr (P u) = pFr (P (pPa (P u)))
      · rw [if_pos (show nI (pFr (P u)) = nI (pFr (P (pPa (P u)))) by rw [h3]), if_neg (by simp; exact fun _ _ => h3)]; rfl
      · rw [if_neg (fun x => h3 ((nI_eq (by omega) (by omega)).mp x)), if_pos (by simp; exact ⟨⟨h1, h2⟩, h3⟩)]; rfl
    · rw [if_pos (show nI (pTo (P u) - pFr (P u)) ≤ (0 : Int32) by rw [show pTo (P u) - pFr (P u) = 0 by omega]; decide), if_neg (by simp; intro _ x; omega)]; rfl
theorem e_bwd (K : TOK len n ts tl tg fc cs cl) (hct : txtR len tx ct) (hch : ∀ i, i < len → tx i ≤ 126) {t : Nat} (ht : t < n) : f_X1_beginsWithDigit (nI t) (nI n) ct (nA ts) (nA fc) = some (if bwd tx ts fc t = true then 1 else 0) := by
  have hn := K.2.1
  have hl := K.1
  have hf := K.2.2.2.2.1 t (by omega)
  have h40 := fc_le K (show t + 1 ≤ n + 1 by omega)
  have htk := K.2.2.1 t ht
  have hb := hch (ts t) (by omega)
  unfold f_X1_beginsWithDigit jn_X1_beginsWithDigit_41 jn_X1_beginsWithDigit_42
  rw [if_neg (nI_pos (by omega)), if_neg (nI_ge ht (by omega)), e_commentsOf K (by omega), ob]
  unfold bwd
  by_cases h1 : fc (t + 1) = fc t
  · rw [if_pos (show nI (fc (t + 1) - fc t) = (0 : Int32) by rw [show fc (t + 1) - fc t = 0 by omega]; rfl), rd_nA (by omega) (by omega), ob, rd_nI (by omega) (by omega), ob, hct _ (by omega), e_isDigit (by omega), ob]
    by_cases h2 : isDig (tx (ts t)) = true
    · rw [if_pos h2, if_neg (show ¬ (1 : Int32) = 0 by decide), if_pos (by simp [h1, h2])]; rfl
    · rw [if_neg h2, if_pos rfl, if_neg (by simp [h2])]; rfl
  · rw [if_neg (show ¬ nI (fc (t + 1) - fc t) = (0 : Int32) from nI_ne0 (by omega) (by omega)), if_neg (by simp [h1])]; rfl
theorem e_flatGap (K : TOK len n ts tl tg fc cs cl) (hct : txtR len tx ct) (hch : ∀ i, i < len → tx i ≤ 126) (C : CP gh ln D T P ce hi wi) (R : TRF nr ln n e T P) (hgh : ∀ x, gh x < 4) {u : Nat} (hu : u < T) (hft : pFr (P u) < pTo (P u)) : f_X3_flatGap (nI u) (nI n) ct (nA ts) (nA fc) ce hi = some (nI (fgN tx ts fc gh P u)) := by
  have hT := R.1.2.1
  have hr := R.2.2.2.1 u hu
  obtain ⟨c0, c1, c2, c3, c4, c5, c6, c7, c8⟩ := C u hu
  have hh : hntP gh P u < 4 := by
    unfold hntP
    split
    · omega
    · exact hgh _
  unfold f_X3_flatGap jn_X3_flatGap_35 jn_X3_flatGap_36 jn_X3_flatGap_46
  simp only [nm]
  rw [rd_nI (by omega) (by omega), ob, c7, show (3 : Int32) = nI 3 from rfl, e_cell (by omega), ob, c3, e_bwd K hct hch (by omega), ob]
  unfold fgN
  by_cases h0 : hntP gh P u = 0
  · rw [if_pos (show nI (hntP gh P u) = (0 : Int32) by rw [h0]; rfl)]
    by_cases h1 : bwd tx ts fc (pFr (P u)) = true
    · rw [if_pos h1, if_neg (show ¬ (1 : Int32) = 0 by decide), if_pos trivial, if_neg (fun x => x.2 h1)]; rfl
    · rw [if_neg h1, if_pos (show (0 : Int32) = 0 from rfl), if_neg (show ¬ (1 : Int32) = 0 by decide), if_pos ⟨h0, h1⟩]; rfl
  · rw [if_neg (show ¬ nI (hntP gh P u) = (0 : Int32) from nI_ne0 (by omega) (by omega)), if_pos trivial, if_neg (fun x => h0 x.1)]; rfl
theorem e_leafWidth (K : TOK len n ts tl tg fc cs cl) (C : CP gh ln D T P ce hi wi) (R : TRF nr ln n e T P) {u : Nat} (hu : u < T) : f_X3_leafWidth (nI u) (nI n) (nA tl) (nA fc) (nA cs) (nA (fun x => cs x + cl x)) ce = some (nI (lw tx ts tl fc cs cl P u)) := by
  have hT := R.1.2.1
  have hr := R.2.2.2.1 u hu
  have hn := R.1.2.2.2
  obtain ⟨c0, c1, c2, c3, c4, c5, c6, c7, c8⟩ := C u hu
  have hlen := tkW_len (tx := tx) (ts := ts) (tl := tl) (fc := fc) (cs := cs) (cl := cl) (a := pFr (P u)) (d := pTo (P u) - pFr (P u))
  unfold f_X3_leafWidth lw
  simp only [nm]
  rw [show (3 : Int32) = nI 3 from rfl, show (4 : Int32) = nI 4 from rfl, e_cell (by omega), ob, c3, e_cell (by omega), ob, c4]
  generalize ha : pFr (P u) = a at *
  generalize hd : pTo (P u) - a = d at *
  have hmx : (if (0 : Int32) < nI d - 1 then nI d - 1 else (0 : Int32)) = nI (d - 1) := by
    rcases Nat.eq_zero_or_pos d with z | z
    · rw [z]; decide
    · rw [nI_sub1 z]
      by_cases c : (0 : Int32) < nI (d - 1)
      · rw [if_pos c]
      · rw [if_neg c]
        have : d - 1 = 0 := by
          rcases Nat.eq_zero_or_pos (d - 1) with y | y
          · exact y
          · exact absurd ((nI_ltI (a := 0) (by omega) (by omega)).mpr y) c
        rw [this]; rfl
  rw [hmx]
  have key := loopE (fun N j => lp_X3_leafWidth_32 (nI n) (nA tl) (nA fc) (nA cs) (nA (fun x => cs x + cl x)) ce (fun x4 => some x4) N (nI a) (nI d) (nI (d - 1 + (tkW tl fc cl a j - j))) (nI (a + j)))
    (fun Q => Q = some (nI (tkS tx ts tl fc cs cl a d).length)) (fun j => j ≤ d) (fun j => d - j) ?_ FU 0 (FU_gt (by omega)) (by omega)
  · exact key
  · intro N j hj
    simp only [lp_X3_leafWidth_32, nm]
    have hge := tkW_ge (tl := tl) (fc := fc) (cl := cl) (a := a) (d := j)
    rw [nI_add]
    by_cases h : d ≤ j
    · left
      have ej : j = d := by omega
      rw [ej] at hge ⊢
      rw [if_pos ((nI_leI (by omega) (by omega)).mpr (by omega))]
      have hsl := sep_len (d := d)
      split at hsl
      · rw [show d - 1 + (tkW tl fc cl a d - d) = (tkS tx ts tl fc cs cl a d).length by omega]
      · rw [show d - 1 + (tkW tl fc cl a d - d) = (tkS tx ts tl fc cs cl a d).length by omega]
    · right
      refine ⟨j + 1, by omega, by omega, ?_⟩
      rw [if_neg (fun c => h (by have := (nI_leI (by omega) (by omega)).mp c; omega)), e_widthOf K (by omega), ob, nI_add, of1, nI_add]
      have : tkW tl fc cl a (j + 1) = tkW tl fc cl a j + (tl (a + j) + cmW cl (fc (a + j)) (fc (a + j + 1) - fc (a + j)) + 1) := rfl
      rw [this, show d - 1 + (tkW tl fc cl a j - j) + (tl (a + j) + cmW cl (fc (a + j)) (fc (a + j + 1) - fc (a + j))) = d - 1 + (tkW tl fc cl a j + (tl (a + j) + cmW cl (fc (a + j)) (fc (a + j + 1) - fc (a + j)) + 1) - (j + 1)) by omega]
      rfl
end CELLS
end CMEAS
