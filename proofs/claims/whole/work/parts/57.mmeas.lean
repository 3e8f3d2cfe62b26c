/-! the reference's measure -/
theorem posE_of {nr : Nat} {hd ln gs sg : Nat → Nat} {n : Nat} {D : Nat → Nat → Nat → Nat} (G : GW nr hd ln (rsy gs)) (F : Fix nr hd ln (rsy gs) n (lf32 sg) D) (hn : n ≤ 16) {e T : Nat} (hen : e ≤ n) (hf : D 9 0 e < dINF) (ho : okTree nr hd ln (rsy gs) D e T) : posA T (arun nr hd ln (rsy gs) D e T).2.2 = e :=
  (okRun_AI2 G F hn hen hf T ho.1).2.1 ho.2
section MMEAS
variable {tx : Nat → Nat} {len : Nat} {mk : Nat → Int32} {n : Nat} {ts tl tg fc cs cl : Nat → Nat} {nr : Nat} {ln gh : Nat → Nat} {e T : Nat} {P : Nat → PE} {D : Nat → Nat → Nat → Nat}
theorem pos_mono (R : TRF nr ln n e T P) : ∀ d x, x + d ≤ T → posA x P ≤ posA (x + d) P := by
  intro d
  induction d with
  | zero => intro x _; exact Nat.le_refl _
  | succ d ih =>
    intro x h
    refine Nat.le_trans (ih x (by omega)) ?_
    obtain ⟨p1, p2⟩ := pos_s R (show x + d < T by omega)
    have h2 := (R.2.2.2.1 (x + d) (by omega)).2.2.1
    rw [show x + (d + 1) = x + d + 1 by omega, p2, ← p1]
    split <;> omega
theorem pos_le (R : TRF nr ln n e T P) {x y : Nat} (h : x ≤ y) (hy : y ≤ T) : posA x P ≤ posA y P := by
  have := pos_mono R (y - x) x (by omega)
  rwa [show x + (y - x) = y by omega] at this
theorem to_en (R : TRF nr ln n e T P) (hpe : posA T P = e) {u : Nat} (hu : u < T) : pTo (P u) = posA (en P T u) P := by
  have hin := en_in (P := P) hu
  rcases Nat.lt_or_ge (en P T u) T with c | c
  · have h1 := R.2.2.2.2.2.1 u (en P T u) (by omega) c (fun j hj hj2 => en_sub (T := T) hj hj2) (en_at hu c)
    rw [← (pos_s R c).1, h1]
  · rw [show en P T u = T by omega, hpe]
    exact R.2.2.2.2.2.2 u hu (fun j hj hj2 => en_sub (T := T) hj (by omega))
/-- the parts of u up to one of them -/
theorem csum_kid (R : TRF nr ln n e T P) {f w : Nat → Nat} (hf : ∀ c, 0 < c → c < T → f c + sumR w c = sumR w (en P T c)) {u : Nat} (hu : u < T) : ∀ d, u + 1 + d ≤ en P T u → ∃ y, u + 1 + d ≤ y ∧ y ≤ en P T u ∧ (∀ z, u + 1 + d ≤ z → z < y → pPa (P z) ≠ u) ∧ (y = en P T u ∨ pPa (P y) = u) ∧ csum P f u (u + 1 + d) + sumR w (u + 1) = sumR w y := by
  have hin := en_in (P := P) hu
  intro d
  induction d with
  | zero =>
    intro _
    refine ⟨u + 1, Nat.le_refl _, hin.1, fun z h1 h2 => by omega, ?_, by rw [Nat.add_zero, csum_low R hu (u + 1) (Nat.le_refl _), Nat.zero_add]⟩
    rcases Nat.lt_or_ge (u + 1) (en P T u) with c | c
    · right
      have h1 := en_sub (P := P) (T := T) (u := u) (j := u + 1) (by omega) c
      obtain ⟨a1, a2, a3, a4, a5, a6, a7⟩ := R.2.2.1 (u + 1) (by omega) (by omega)
      by_cases e1 : pPa (P (u + 1)) = u
      · exact e1
      · have := a7 u (by omega) (by omega); omega
    · left; omega
  | succ d ih =>
    intro hd
    obtain ⟨y, y1, y2, y3, y4, y5⟩ := ih (by omega)
    rw [show u + 1 + (d + 1) = (u + 1 + d) + 1 by omega, csum_s]
    generalize hx : u + 1 + d = x at *
    have hxT : x < T := by omega
    by_cases hp : pPa (P x) = u
    · rw [if_pos hp]
      have ey : y = x := by
        rcases Nat.lt_or_ge x y with c | c
        · exact absurd hp (y3 x (Nat.le_refl _) c)
        · omega
      rw [ey] at y5
      have hfx := hf x (by omega) hxT
      obtain ⟨a1, a2, a3, a4, a5, a6, a7⟩ := R.2.2.1 x (by omega) hxT
      rw [hp] at a6
      have hex := en_in (P := P) hxT
      have hle : en P T x ≤ en P T u := by
        refine en_ge hu hex.2 (by omega) (fun j hj hj2 => ?_)
        rcases Nat.lt_trichotomy j x with c | c | c
        · exact en_sub (T := T) hj (by omega)
        · rw [c]; omega
        · have := en_sub (P := P) (T := T) (u := x) c hj2; omega
      refine ⟨en P T x, by omega, hle, fun z h1 h2 c => ?_, ?_, by omega⟩
      · have h3 := en_sub (P := P) (T := T) (u := x) (j := z) (by omega) h2
        have h4 := (R.2.2.1 z (by omega) (by omega)).2.2.2.2.2.1
        rw [c] at h4; omega
      · rcases Nat.lt_or_ge (en P T x) (en P T u) with c | c
        · right
          have h3 := en_sub (P := P) (T := T) (u := u) (j := en P T x) (by omega) c
          have h4 := en_at (P := P) hxT (by omega)
          obtain ⟨b1, b2, b3, b4, b5, b6, b7⟩ := R.2.2.1 (en P T x) (by omega) (by omega)
          rcases Nat.lt_trichotomy (pPa (P (en P T x))) u with c1 | c1 | c1
          · have := b7 u c1 (by omega); omega
          · exact c1
          · have := en_sub (P := P) (T := T) (u := u) (j := pPa (P (en P T x))) c1 (by omega); omega
        · left; omega
    · rw [if_neg hp, Nat.add_zero]
      have hne : x ≠ y := by
        intro c
        rcases y4 with c1 | c1
        · omega
        · rw [← c] at c1; exact hp c1
      exact ⟨y, by omega, y2, fun z h1 h2 => y3 z (by omega) h2, y4, y5⟩
theorem kid_sum (R : TRF nr ln n e T P) {c : Nat} (h0 : 0 < c) (hc : c < T) : csum P (kdN tx ts tl fc cs cl gh P T) (pPa (P c)) c + sumR (wN tx ts tl fc cs cl gh P) (pPa (P c) + 1) = sumR (wN tx ts tl fc cs cl gh P) c := by
  have a1 := (R.2.2.1 c h0 hc).1
  have hk := kid_in R h0 hc rfl
  obtain ⟨y, y1, y2, y3, y4, y5⟩ := csum_kid R (f := kdN tx ts tl fc cs cl gh P T) (w := wN tx ts tl fc cs cl gh P) (fun c _ hc => kd_eq R hc) (show pPa (P c) < T by omega) (c - (pPa (P c) + 1)) (by omega)
  rw [show pPa (P c) + 1 + (c - (pPa (P c) + 1)) = c by omega] at y1 y3 y5
  have ey : y = c := by
    rcases Nat.lt_or_ge c y with x | x
    · exact absurd rfl (y3 c (Nat.le_refl _) x)
    · omega
  rw [ey] at y5
  exact y5
theorem lw_ge (K : TOK len n ts tl tg fc cs cl) (R : TRF nr ln n e T P) {u : Nat} (hu : u < T) : pTo (P u) - pFr (P u) ≤ lw tx ts tl fc cs cl P u := by
  have h1 := R.2.2.2.1 u hu
  have h3 := tkW_len (tx := tx) (ts := ts) (tl := tl) (fc := fc) (cs := cs) (cl := cl) (a := pFr (P u)) (d := pTo (P u) - pFr (P u))
  have key : ∀ d, pFr (P u) + d ≤ n → 2 * d ≤ tkW tl fc cl (pFr (P u)) d := by
    intro d
    induction d with
    | zero => intro _; exact Nat.zero_le _
    | succ d ih =>
      intro h
      have h2 := ih (by omega)
      have h4 := (K.2.2.1 (pFr (P u) + d) (by omega)).2.1
      show 2 * (d + 1) ≤ tkW tl fc cl (pFr (P u)) d + (tl (pFr (P u) + d) + _ + 1)
      omega
  have h5 := key (pTo (P u) - pFr (P u)) (by omega)
  have h6 := sep_len (d := pTo (P u) - pFr (P u))
  have h7 : lw tx ts tl fc cs cl P u = (tkS tx ts tl fc cs cl (pFr (P u)) (pTo (P u) - pFr (P u))).length := rfl
  split at h6 <;> omega
theorem w_pos (K : TOK len n ts tl tg fc cs cl) (R : TRF nr ln n e T P) {x : Nat} : ∀ d, x + d ≤ T → posA (x + d) P + sumR (wN tx ts tl fc cs cl gh P) x ≤ sumR (wN tx ts tl fc cs cl gh P) (x + d) + posA x P := by
  intro d
  induction d with
  | zero => intro _; exact Nat.le_of_eq (Nat.add_comm _ _)
  | succ d ih =>
    intro h
    have h1 := ih (by omega)
    obtain ⟨p1, p2⟩ := pos_s R (show x + d < T by omega)
    have h2 := lw_ge (tx := tx) K R (show x + d < T by omega)
    have h3 : sumR (wN tx ts tl fc cs cl gh P) (x + (d + 1)) = sumR (wN tx ts tl fc cs cl gh P) (x + d) + (bsN tx ts tl fc cs cl P (x + d) + gpN tx ts fc gh P (x + d)) := rfl
    have h4 : bsN tx ts tl fc cs cl P (x + d) = if pSy (P (x + d)) ≤ 8 then lw tx ts tl fc cs cl P (x + d) else 0 := rfl
    rw [show x + (d + 1) = x + d + 1 by omega] at h3 ⊢
    rw [h3, p2]
    split at h4
    · rename_i c; rw [if_pos c]; omega
    · rename_i c; rw [if_neg c]; omega
/-- a part has a width if and only if it has tokens -/
theorem fl_pos (K : TOK len n ts tl tg fc cs cl) (R : TRF nr ln n e T P) (hpe : posA T P = e) {u : Nat} (hu : u < T) (h : pFr (P u) < pTo (P u)) : 0 < FlN tx ts tl fc cs cl gh P T u := by
  have hin := en_in (P := P) hu
  unfold FlN
  by_cases h8 : pSy (P u) ≤ 8
  · rw [if_pos h8]
    have := lw_ge (tx := tx) K R hu; omega
  · rw [if_neg h8]
    have h1 := w_pos (tx := tx) (gh := gh) K R (x := u + 1) (en P T u - (u + 1)) (by omega)
    rw [show u + 1 + (en P T u - (u + 1)) = en P T u by omega, ← to_en R hpe hu, (pos_s R hu).2, if_neg h8] at h1
    omega
theorem w_0 (R : TRF nr ln n e T P) (hpe : posA T P = e) {v : Nat} (hv : v < T) (h : pTo (P v) ≤ pFr (P v)) : wN tx ts tl fc cs cl gh P v = 0 := by
  have g0 : gpN tx ts fc gh P v = 0 := if_neg (fun c => by have := (hg_spec.mp c).2.1; omega)
  have b0 : bsN tx ts tl fc cs cl P v = 0 := by
    unfold bsN lw
    split
    · rw [show pTo (P v) - pFr (P v) = 0 by omega]; rfl
    · rfl
  unfold wN; omega
theorem fl_0 (R : TRF nr ln n e T P) (hpe : posA T P = e) {u : Nat} (hu : u < T) (h : pTo (P u) ≤ pFr (P u)) : FlN tx ts tl fc cs cl gh P T u = 0 := by
  have hin := en_in (P := P) hu
  unfold FlN
  by_cases h8 : pSy (P u) ≤ 8
  · rw [if_pos h8]; unfold lw
    rw [show pTo (P u) - pFr (P u) = 0 by omega]; rfl
  · rw [if_neg h8]
    have key : ∀ d, u + 1 + d ≤ en P T u → sumR (wN tx ts tl fc cs cl gh P) (u + 1 + d) = sumR (wN tx ts tl fc cs cl gh P) (u + 1) := by
      intro d
      induction d with
      | zero => intro _; rfl
      | succ d ih =>
        intro hd
        have hvT : u + 1 + d < T := by omega
        have hle : en P T (u + 1 + d) ≤ en P T u := by
          refine en_ge hu (en_in hvT).2 (by have := (en_in (P := P) hvT).1; omega) (fun j hj hj2 => ?_)
          rcases Nat.lt_or_ge (u + 1 + d) j with x | x
          · have y1 := en_sub (P := P) (T := T) x hj2
            have y2 := en_sub (P := P) (T := T) (u := u) (j := u + 1 + d) (by omega) (by omega)
            omega
          · exact en_sub (T := T) hj (by omega)
        have h1 := to_en R hpe hvT
        have h2 := pos_le R hle hin.2
        rw [← to_en R hpe hu] at h2
        have h3 := fr_le R (show u ≤ u + 1 + d by omega) hvT
        have h4 := w_0 (tx := tx) (ts := ts) (tl := tl) (fc := fc) (cs := cs) (cl := cl) (gh := gh) R hpe hvT (by omega)
        show sumR (wN tx ts tl fc cs cl gh P) (u + 1 + d) + wN tx ts tl fc cs cl gh P (u + 1 + d) = _
        rw [ih (by omega), h4, Nat.add_zero]
    have := key (en P T u - (u + 1)) (by omega)
    rw [show u + 1 + (en P T u - (u + 1)) = en P T u by omega] at this
    omega
theorem kid_first (K : TOK len n ts tl tg fc cs cl) (R : TRF nr ln n e T P) (hpe : posA T P = e) {c : Nat} (h0 : 0 < c) (hc : c < T) : csum P (kdN tx ts tl fc cs cl gh P T) (pPa (P c)) c = 0 ↔ pFr (P c) = pFr (P (pPa (P c))) := by
  obtain ⟨a1, a2, a3, a4, a5, a6, a7⟩ := R.2.2.1 c h0 hc
  have hs := kid_sum (tx := tx) (ts := ts) (tl := tl) (fc := fc) (cs := cs) (cl := cl) (gh := gh) R h0 hc
  have hk := kid_in R h0 hc rfl
  generalize hu : pPa (P c) = u at *
  have huT : u < T := by omega
  have hq : posA (u + 1) P = pFr (P u) := by rw [(pos_s R huT).2, if_neg (by omega)]
  have hp := (pos_s R hc).1
  constructor
  · intro h
    have h1 := w_pos (tx := tx) (gh := gh) K R (x := u + 1) (c - (u + 1)) (by omega)
    rw [show u + 1 + (c - (u + 1)) = c by omega] at h1
    omega
  · intro h
    have key : ∀ d, u + 1 + d ≤ c → sumR (wN tx ts tl fc cs cl gh P) (u + 1 + d) = sumR (wN tx ts tl fc cs cl gh P) (u + 1) := by
      intro d
      induction d with
      | zero => intro _; rfl
      | succ d ih =>
        intro hd
        have hvT : u + 1 + d < T := by omega
        have h2 := (pos_s R hvT)
        have h3 := pos_le R (show u + 1 + d + 1 ≤ c by omega) (by omega)
        have h4 := fr_le R (show u ≤ u + 1 + d by omega) hvT
        have h5 := (R.2.2.2.1 _ hvT).2.2.1
        have h6 : wN tx ts tl fc cs cl gh P (u + 1 + d) = 0 := by
          have g0 : gpN tx ts fc gh P (u + 1 + d) = 0 := by
            refine if_neg (fun x => ?_)
            obtain ⟨x1, x2, x3⟩ := hg_spec.mp x
            have hps := pa_sub R (show u < u + 1 + d by omega) hvT (by omega)
            have h7 := fr_le R hps.1 (show pPa (P (u + 1 + d)) < T by omega)
            have h8 := fr_le R (show u + 1 + d ≤ c by omega) hc
            have h9 := fr_le R (show pPa (P (u + 1 + d)) ≤ u + 1 + d by omega) hvT
            omega
          have b0 : bsN tx ts tl fc cs cl P (u + 1 + d) = 0 := by
            unfold bsN
            by_cases c8 : pSy (P (u + 1 + d)) ≤ 8
            · rw [if_pos c8] at h2 ⊢
              unfold lw
              rw [show pTo (P (u + 1 + d)) - pFr (P (u + 1 + d)) = 0 by omega]; rfl
            · rw [if_neg c8]
          unfold wN; omega
        show sumR (wN tx ts tl fc cs cl gh P) (u + 1 + d) + wN tx ts tl fc cs cl gh P (u + 1 + d) = _
        rw [ih (by omega), h6, Nat.add_zero]
    have := key (c - (u + 1)) (by omega)
    rw [show u + 1 + (c - (u + 1)) = c by omega] at this
    omega
theorem e_mwidth (K : TOK len n ts tl tg fc cs cl) {a d : Nat} (had : a + d ≤ n) : f_X6_width (nI a) (nI (a + d)) (nA tl) (nA cl) (nA fc) = some (nI (tkS tx ts tl fc cs cl a d).length) := by
  have hn := K.2.1
  have hlen := tkW_len (tx := tx) (ts := ts) (tl := tl) (fc := fc) (cs := cs) (cl := cl) (a := a) (d := d)
  have hsl := sep_len (d := d)
  have hw := tkW_le K had
  unfold f_X6_width jn_X6_width_81
  simp only [nm]
  have key := loopE (fun N j => lp_X6_width_5 (nA tl) (nA cl) (nA fc) (fun x3 => if x3 = 0 then some 0 else some (x3 - 1)) N (nI (a + d)) (nI (tkW tl fc cl a j)) (nI (a + j)))
    (fun Q => Q = some (nI (tkS tx ts tl fc cs cl a d).length)) (fun j => j ≤ d) (fun j => d - j) ?_ FU 0 (FU_gt (by omega)) (by omega)
  · exact key
  · intro N j hj
    simp only [lp_X6_width_5, nm]
    by_cases h : d ≤ j
    · left
      have ej : j = d := by omega
      rw [ej, if_pos ((nI_leI (by omega) (by omega)).mpr (by omega))]
      by_cases z : d = 0
      · rw [if_pos z] at hsl
        rw [if_pos (show nI (tkW tl fc cl a d) = (0 : Int32) by rw [z]; rfl), show (tkS tx ts tl fc cs cl a d).length = 0 by rw [z]; rfl]; rfl
      · rw [if_neg z] at hsl
        have := tkW_ge (tl := tl) (fc := fc) (cl := cl) (a := a) (d := d)
        rw [if_neg (nI_ne0 (by omega) (by omega)), nI_sub1 (by omega), show tkW tl fc cl a d - 1 = (tkS tx ts tl fc cs cl a d).length by omega]
    · right
      refine ⟨j + 1, by omega, by omega, ?_⟩
      have hf40 := fc_le K (show a + j + 1 ≤ n + 1 by omega)
      have hfe := fc_end K (show a + j + 1 ≤ n + 1 by omega)
      have hle := K.2.2.2.2.1 (a + j) (by omega)
      rw [if_neg (fun c => h (by have := (nI_leI (by omega) (by omega)).mp c; omega)), rd_nA (by omega) (by omega), ob]
      generalize hd : fc (a + j + 1) - fc (a + j) = q
      have k2 := loopE (fun N i => lp_X6_width_20 (nA tl) (nA cl) (nA fc) (fun x2 x3 x4 => (rd (nA tl) 17 x4).bind fun v9 => lp_X6_width_5 (nA tl) (nA cl) (nA fc) (fun x3 => if x3 = 0 then some 0 else some (x3 - 1)) N x2 (x3 + (v9 + 1)) (x4 + Int32.ofInt 1)) N (nI (a + d)) (nI (tkW tl fc cl a j + cmW cl (fc (a + j)) i)) (nI (a + j)) (nI (fc (a + j) + i)))
        (fun _ => True) (fun i => i ≤ q) (fun i => q - i) (fun _ _ _ => Or.inl trivial) FU 0 (FU_gt (by omega)) (by omega)
      clear k2
      have k3 : ∀ M i, i ≤ q → q - i < M → ∀ kk : Int32 → Int32 → Int32 → Option Int32, lp_X6_width_20 (nA tl) (nA cl) (nA fc) kk M (nI (a + d)) (nI (tkW tl fc cl a j + cmW cl (fc (a + j)) i)) (nI (a + j)) (nI (fc (a + j) + i)) = kk (nI (a + d)) (nI (tkW tl fc cl a j + cmW cl (fc (a + j)) q)) (nI (a + j)) := by
        intro M
        induction M with
        | zero => intro i _ h2; omega
        | succ M ih =>
          intro i h1 h2 kk
          simp only [lp_X6_width_20, nm]
          rw [nI_1, rd_nA (by omega) (by omega), ob]
          by_cases c : q ≤ i
          · rw [if_pos ((nI_leI (by omega) (by omega)).mpr (by omega)), show i = q by omega]
          · rw [if_neg (fun x => c (by have := (nI_leI (by omega) (by omega)).mp x; omega)), rd_nA (by omega) (by omega), ob, nI_1, nI_add, of1, nI_add, Nat.add_assoc (tkW tl fc cl a j)]
            exact ih (i + 1) (by omega) (by omega) kk
      have k4 := k3 FU 0 (by omega) (FU_gt (by omega))
      rw [show tkW tl fc cl a j + cmW cl (fc (a + j)) 0 = tkW tl fc cl a j from rfl, Nat.add_zero] at k4
      rw [k4, rd_nA (by omega) (by omega), ob, nI_1, nI_add, of1, nI_add]
      have : tkW tl fc cl a (j + 1) = tkW tl fc cl a j + (tl (a + j) + cmW cl (fc (a + j)) (fc (a + j + 1) - fc (a + j)) + 1) := rfl
      rw [this, hd, show tkW tl fc cl a j + cmW cl (fc (a + j)) q + (tl (a + j) + 1) = tkW tl fc cl a j + (tl (a + j) + cmW cl (fc (a + j)) q + 1) by omega]
      rfl
/-- the first character of a part that begins with token t, as the reference keeps it -/
def bgN (tx ts fc : Nat → Nat) (t : Nat) : Nat := if fc t < fc (t + 1) then 123 else tx (ts t)
theorem zc0 : zc 0 = some 0 := rfl
theorem zc1 : zc 1 = some 1 := rfl
theorem e_mdigit {c : Nat} (h : c < 1000) : f_X6_digit (nI c) = some (if isDig c = true then 1 else 0) := by
  unfold f_X6_digit jn_X6_digit_16 jn_X6_digit_17
  rw [zc0, zc1, ob, ob]
  by_cases h1 : c < 48
  · have hd : ¬ isDig c = true := by unfold isDig; simp; omega
    rw [if_pos (show nI c < (48 : Int32) from (nI_ltI (b := 48) (by omega) (by omega)).mpr h1), if_neg hd]
  · rw [if_neg (show ¬ nI c < (48 : Int32) from fun x => h1 ((nI_ltI (b := 48) (by omega) (by omega)).mp x))]
    by_cases h2 : 57 < c
    · have hd : ¬ isDig c = true := by unfold isDig; simp; omega
      rw [if_pos (show (57 : Int32) < nI c from (nI_ltI (a := 57) (by omega) (by omega)).mpr h2), if_neg hd]
    · have hd : isDig c = true := by unfold isDig; simp; omega
      rw [if_neg (show ¬ (57 : Int32) < nI c from fun x => h2 ((nI_ltI (a := 57) (by omega) (by omega)).mp x)), if_pos hd]
theorem bg_dig (K : TOK len n ts tl tg fc cs cl) {t : Nat} (ht : t ≤ n) : isDig (bgN tx ts fc t) = bwd tx ts fc t := by
  have hle := K.2.2.2.2.1 t ht
  unfold bgN bwd
  by_cases h : fc t < fc (t + 1)
  · rw [if_pos h, decide_eq_false (by omega)]; rfl
  · rw [if_neg h, decide_eq_true (by omega)]; rfl
theorem bg_le (K : TOK len n ts tl tg fc cs cl) (hch : ∀ i, i < len → tx i ≤ 126) {t : Nat} (ht : t < n) : bgN tx ts fc t ≤ 126 := by
  have htk := K.2.2.1 t ht
  unfold bgN
  split
  · omega
  · exact hch _ (by omega)
theorem e_mhintOf {M : A8} (C : MP D T P M) (R : TRF nr ln n e T P) (hnr : nr ≤ 20) (hln : ∀ r, r < nr → ln r ≤ 5) {u : Nat} (h0 : 0 < u) (hu : u < T) : f_X6_hintOf (nI u) (nA gh) M.1 M.2.2.1 M.2.2.2.1 = some (nI (hntP gh P u)) := by
  have hT := R.1.2.1
  obtain ⟨a1, a2, a3, a4, a5, a6, a7⟩ := R.2.2.1 u h0 hu
  obtain ⟨c0, c1, c2, c3, c4, c5, c6, c7⟩ := C u hu
  have hr := ((R.2.2.2.1 (pPa (P u)) (by omega)).2.2.2.2 a2).1
  have hl := hln _ hr
  unfold f_X6_hintOf hntP
  rw [rd_nI (by omega) (by omega), ob, c2, show pcon (pPa (P u)) = nI (pPa (P u)) from if_neg (by omega), rd_nI (by omega) (by omega), ob, (C (pPa (P u)) (by omega)).1, if_neg (show ¬ pSy (P (pPa (P u))) ≤ 8 by omega), rd_nI (by omega) (by omega), ob, c3, show (5 : Int32) = nI 5 from rfl, nI_mul, nI_add, rd_nA (by omega) (by omega), ob, if_neg (by omega), Nat.mul_comm 5]
end MMEAS
