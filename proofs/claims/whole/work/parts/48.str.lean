/-! what is printed, as lists of characters; the class's put -/
def pgR (pg : List Nat) (sh : Nat → Int32) : Prop := ∀ i, i < pg.length → sh i = nI (pg.getD i 0)
theorem pgR_0 {sh : Nat → Int32} : pgR [] sh := fun i hi => absurd hi (Nat.not_lt_zero i)
theorem pgR_put {pg : List Nat} {sh : Nat → Int32} {c : Nat} (h : pgR pg sh) : pgR (pg ++ [c]) (upd sh pg.length (nI c)) := by
  intro i hi
  have hi' : i < pg.length + 1 := by simpa using hi
  by_cases e : i = pg.length
  · rw [e, pk_us]; simp
  · rw [pk_un e, h i (by omega)]
    rw [List.getD_eq_getElem?_getD, List.getD_eq_getElem?_getD, List.getElem?_append_left (by omega)]
def txS (tx : Nat → Nat) (a : Nat) : Nat → List Nat
  | 0 => []
  | d + 1 => txS tx a d ++ [tx (a + d)]
theorem txS_len {tx : Nat → Nat} {a d : Nat} : (txS tx a d).length = d := by
  induction d with
  | zero => rfl
  | succ d ih => unfold txS; simp [ih]
def sep (d : Nat) : List Nat := if d = 0 then [] else [32]
def cmS (tx cs cl : Nat → Nat) (f : Nat) : Nat → List Nat
  | 0 => []
  | d + 1 => cmS tx cs cl f d ++ sep d ++ txS tx (cs (f + d)) (cl (f + d))
def tkS (tx ts tl fc cs cl : Nat → Nat) (a : Nat) : Nat → List Nat
  | 0 => []
  | d + 1 => tkS tx ts tl fc cs cl a d ++ sep d ++ cmS tx cs cl (fc (a + d)) (fc (a + d + 1) - fc (a + d)) ++ sep (fc (a + d + 1) - fc (a + d)) ++ txS tx (ts (a + d)) (tl (a + d))
theorem sep_len {d : Nat} : (sep d).length = if d = 0 then 0 else 1 := by
  unfold sep; split <;> rfl
theorem cmS_s {tx cs cl : Nat → Nat} {f d : Nat} : (cmS tx cs cl f (d + 1)).length = (cmS tx cs cl f d).length + (sep d).length + cl (f + d) := by
  show (cmS tx cs cl f d ++ sep d ++ txS tx (cs (f + d)) (cl (f + d))).length = _
  rw [List.length_append, List.length_append, txS_len]
theorem cmS_mono {tx cs cl : Nat → Nat} {f d d' : Nat} (h : d ≤ d') : (cmS tx cs cl f d).length ≤ (cmS tx cs cl f d').length := by
  induction d' with
  | zero => rw [show d = 0 by omega]; exact Nat.le_refl _
  | succ d' ih =>
    by_cases e : d = d' + 1
    · rw [e]; exact Nat.le_refl _
    · have := ih (by omega)
      rw [cmS_s]; omega
theorem tkS_s {tx ts tl fc cs cl : Nat → Nat} {a d : Nat} : (tkS tx ts tl fc cs cl a (d + 1)).length = (tkS tx ts tl fc cs cl a d).length + (sep d).length + (cmS tx cs cl (fc (a + d)) (fc (a + d + 1) - fc (a + d))).length + (sep (fc (a + d + 1) - fc (a + d))).length + tl (a + d) := by
  show (tkS tx ts tl fc cs cl a d ++ sep d ++ cmS tx cs cl (fc (a + d)) (fc (a + d + 1) - fc (a + d)) ++ sep (fc (a + d + 1) - fc (a + d)) ++ txS tx (ts (a + d)) (tl (a + d))).length = _
  rw [List.length_append, List.length_append, List.length_append, List.length_append, txS_len]
theorem tkS_mono {tx ts tl fc cs cl : Nat → Nat} {a d d' : Nat} (h : d ≤ d') : (tkS tx ts tl fc cs cl a d).length ≤ (tkS tx ts tl fc cs cl a d').length := by
  induction d' with
  | zero => rw [show d = 0 by omega]; exact Nat.le_refl _
  | succ d' ih =>
    by_cases e : d = d' + 1
    · rw [e]; exact Nat.le_refl _
    · have := ih (by omega)
      rw [tkS_s]; omega
/-- the class has this page now -/
def CR (pg : List Nat) (col : Nat) (out : Option ((Int32) × (Int32) × (Nat → Int32))) : Prop := ∃ sh, pgR pg sh ∧ out = some (nI pg.length, nI col, sh)
section CSTR
variable {tx : Nat → Nat} {len : Nat} {ct : Nat → Int32}
theorem e_put {pg : List Nat} {sh : Nat → Int32} {c col : Nat} (hp : pgR pg sh) (hl : pg.length < 1300) (hc : c < 128) : CR (pg ++ [c]) (col + 1) (f_X3_put (nI c) (nI pg.length) (nI col) sh) := by
  refine ⟨upd sh pg.length (nI c), pgR_put hp, ?_⟩
  unfold f_X3_put jn_X3_put_41
  rw [if_neg (show ¬ (1300 : Int32) ≤ nI pg.length from fun x => (show ¬ 1300 ≤ pg.length by omega) ((nI_leI (a := 1300) (by omega) (by omega)).mp x)), nar_b c hc, wrI_nI hl (by omega), ob, nI_1, nI_1]
  simp
theorem e_layText (hct : txtR len tx ct) (hch : ∀ i, i < len → tx i ≤ 126) (hl : len ≤ 80) {pg : List Nat} {sh : Nat → Int32} {a d col : Nat} (hp : pgR pg sh) (had : a + d ≤ len) (hlen : pg.length + d ≤ 1300) : CR (pg ++ txS tx a d) (col + d) (f_X3_layText (nI a) (nI (a + d)) ct (nI pg.length) (nI col) sh) := by
  unfold f_X3_layText
  simp only [nm]
  have key := loopE (fun N (q : Nat × (Nat → Int32)) => lp_X3_layText_2 ct (fun p_size p_column p_sheet => some (p_size, p_column, p_sheet)) N (nI (a + d)) (nI (a + q.1)) (nI (pg.length + q.1)) (nI (col + q.1)) q.2)
    (fun R => CR (pg ++ txS tx a d) (col + d) R)
    (fun q => q.1 ≤ d ∧ pgR (pg ++ txS tx a q.1) q.2) (fun q => d - q.1) ?_ FU (0, sh) (FU_gt (by dsimp only; omega)) ⟨by dsimp only; omega, by show pgR (pg ++ []) sh; rw [List.append_nil]; exact hp⟩
  · exact key
  · rintro N ⟨t, r⟩ ⟨h1, h2⟩
    dsimp only at h1 h2 ⊢
    simp only [lp_X3_layText_2, nm]
    by_cases h : d ≤ t
    · left
      have e : t = d := by omega
      rw [e] at h2 ⊢
      rw [if_pos ((nI_leI (by omega) (by omega)).mpr (by omega))]
      refine ⟨r, h2, ?_⟩
      rw [List.length_append, txS_len]
    · right
      rw [if_neg (fun c => h (by have := (nI_leI (by omega) (by omega)).mp c; omega)), rd_nI (by omega) (by omega), ob, hct (a + t) (by omega)]
      have hx := hch (a + t) (by omega)
      have hpl : (pg ++ txS tx a t).length = pg.length + t := by rw [List.length_append, txS_len]
      obtain ⟨sh', k1, k2⟩ := e_put (c := tx (a + t)) (col := col + t) h2 (by omega) (by omega)
      rw [hpl] at k2
      rw [k2, ob, of1, nI_add]
      refine ⟨(t + 1, sh'), ⟨by dsimp only; omega, ?_⟩, by dsimp only; omega, ?_⟩
      · show pgR (pg ++ (txS tx a t ++ [tx (a + t)])) sh'
        rw [← List.append_assoc]
        exact k1
      · dsimp only
        rw [List.length_append, hpl]
        rfl
variable {n : Nat} {ts tl tg fc cs cl : Nat → Nat}
theorem fc_mono (K : TOK len n ts tl tg fc cs cl) : ∀ d t, t + d ≤ n + 1 → fc t ≤ fc (t + d) := by
  intro d
  induction d with
  | zero => intro t _; exact Nat.le_refl _
  | succ d ih => intro t h; exact Nat.le_trans (ih t (by omega)) (K.2.2.2.2.1 (t + d) (by omega))
theorem fc_le (K : TOK len n ts tl tg fc cs cl) {t : Nat} (h : t ≤ n + 1) : fc t ≤ 40 := by
  have := fc_mono K (n + 1 - t) t (by omega)
  rw [show t + (n + 1 - t) = n + 1 by omega] at this
  exact Nat.le_trans this K.2.2.2.2.2.1
theorem fc_end (K : TOK len n ts tl tg fc cs cl) {t : Nat} (h : t ≤ n + 1) : fc t ≤ fc (n + 1) := by
  have := fc_mono K (n + 1 - t) t (by omega)
  rw [show t + (n + 1 - t) = n + 1 by omega] at this
  exact this
theorem e_commentsOf (K : TOK len n ts tl tg fc cs cl) {t : Nat} (h : t ≤ n) : f_X1_commentsOf (nI t) (nI n) (nA fc) = some (nI (fc (t + 1) - fc t)) := by
  have hn := K.2.1
  unfold f_X1_commentsOf jn_X1_commentsOf_31
  rw [if_neg (nI_pos (by omega)), if_neg (nI_nlt h (by omega)), nI_1 t, rd_nA (by omega) (by omega), ob, rd_nA (by omega) (by omega), ob, nI_sub (K.2.2.2.2.1 t h)]
theorem e_layComments (K : TOK len n ts tl tg fc cs cl) (hct : txtR len tx ct) (hch : ∀ i, i < len → tx i ≤ 126) {pg : List Nat} {sh : Nat → Int32} {t col : Nat} (hp : pgR pg sh) (ht : t ≤ n) (hcol : col ≤ 1300) (hlen : pg.length + (cmS tx cs cl (fc t) (fc (t + 1) - fc t)).length ≤ 1300) :
    CR (pg ++ cmS tx cs cl (fc t) (fc (t + 1) - fc t)) (col + (cmS tx cs cl (fc t) (fc (t + 1) - fc t)).length) (f_X3_layComments (nI t) (nI n) ct (nA fc) (nA cs) (nA (fun x => cs x + cl x)) (nI pg.length) (nI col) sh) := by
  have hn := K.2.1
  have hl := K.1
  have hf40 := fc_le K (show t + 1 ≤ n + 1 by omega)
  have hfe := fc_end K (show t + 1 ≤ n + 1 by omega)
  have hle := K.2.2.2.2.1 t ht
  unfold f_X3_layComments
  simp only [nm]
  rw [rd_nA (by omega) (by omega), ob]
  generalize hd : fc (t + 1) - fc t = d at hlen ⊢
  have key := loopE (fun N (q : Nat × (Nat → Int32)) => lp_X3_layComments_12 (nI n) ct (nA fc) (nA cs) (nA (fun x => cs x + cl x)) (fun p_size p_column p_sheet => some (p_size, p_column, p_sheet)) N (nI t) (nI (fc t)) (nI (fc t + q.1)) (nI (pg ++ cmS tx cs cl (fc t) q.1).length) (nI (col + (cmS tx cs cl (fc t) q.1).length)) q.2)
    (fun R => CR (pg ++ cmS tx cs cl (fc t) d) (col + (cmS tx cs cl (fc t) d).length) R)
    (fun q => q.1 ≤ d ∧ pgR (pg ++ cmS tx cs cl (fc t) q.1) q.2) (fun q => d - q.1) ?_ FU (0, sh) (FU_gt (by dsimp only; omega)) ⟨by dsimp only; omega, by show pgR (pg ++ []) sh; rw [List.append_nil]; exact hp⟩
  · have e0 : (pg ++ cmS tx cs cl (fc t) 0).length = pg.length := by show (pg ++ []).length = _; rw [List.append_nil]
    dsimp only at key
    rw [e0] at key
    exact key
  · rintro N ⟨k, r⟩ ⟨h1, h2⟩
    dsimp only at h1 h2 ⊢
    simp only [lp_X3_layComments_12, jn_X3_layComments_37, nm]
    rw [e_commentsOf K ht, ob, hd, nI_add]
    by_cases h : d ≤ k
    · left
      have e : k = d := by omega
      rw [e] at h2 ⊢
      rw [if_pos ((nI_leI (by omega) (by omega)).mpr (by omega))]
      exact ⟨r, h2, rfl⟩
    · right
      have hcc := K.2.2.2.2.2.2.1 (fc t + k) (by omega)
      have hm := cmS_mono (tx := tx) (cs := cs) (cl := cl) (f := fc t) (show k + 1 ≤ d by omega)
      have hs := cmS_s (tx := tx) (cs := cs) (cl := cl) (f := fc t) (d := k)
      have hsl := sep_len (d := k)
      have hpl : (pg ++ cmS tx cs cl (fc t) k).length = pg.length + (cmS tx cs cl (fc t) k).length := List.length_append
      rw [if_neg (fun c => h (by have := (nI_leI (by omega) (by omega)).mp c; omega)), rd_nA (by omega) (by omega), rd_nA (by omega) (by omega), ob, ob]
      have fin : ∀ (sh1 : Nat → Int32), pgR (pg ++ cmS tx cs cl (fc t) k ++ sep k) sh1 → ∃ s' : Nat × (Nat → Int32), (s'.1 ≤ d ∧ pgR (pg ++ cmS tx cs cl (fc t) s'.1) s'.2) ∧ d - s'.1 < d - k ∧ ((f_X3_layText (nI (cs (fc t + k))) (nI (cs (fc t + k) + cl (fc t + k))) ct (nI (pg ++ cmS tx cs cl (fc t) k ++ sep k).length) (nI (col + (cmS tx cs cl (fc t) k).length + (sep k).length)) sh1).bind fun r7 => lp_X3_layComments_12 (nI n) ct (nA fc) (nA cs) (nA (fun x => cs x + cl x)) (fun p_size p_column p_sheet => some (p_size, p_column, p_sheet)) N (nI t) (nI (fc t)) (nI (fc t + k) + Int32.ofInt 1) r7.1 r7.2.1 r7.2.2) = lp_X3_layComments_12 (nI n) ct (nA fc) (nA cs) (nA (fun x => cs x + cl x)) (fun p_size p_column p_sheet => some (p_size, p_column, p_sheet)) N (nI t) (nI (fc t)) (nI (fc t + s'.1)) (nI (pg ++ cmS tx cs cl (fc t) s'.1).length) (nI (col + (cmS tx cs cl (fc t) s'.1).length)) s'.2 := by
        intro sh1 g1
        obtain ⟨sh2, k1, k2⟩ := e_layText hct hch hl (a := cs (fc t + k)) (d := cl (fc t + k)) (col := col + (cmS tx cs cl (fc t) k).length + (sep k).length) g1 hcc.2 (by rw [List.length_append, hpl]; omega)
        rw [k2, ob, of1, nI_add]
        have e1 : pg ++ cmS tx cs cl (fc t) k ++ sep k ++ txS tx (cs (fc t + k)) (cl (fc t + k)) = pg ++ cmS tx cs cl (fc t) (k + 1) := by
          show _ = pg ++ (cmS tx cs cl (fc t) k ++ sep k ++ txS tx (cs (fc t + k)) (cl (fc t + k)))
          simp [List.append_assoc]
        refine ⟨(k + 1, sh2), ⟨by dsimp only; omega, by dsimp only; rw [← e1]; exact k1⟩, by dsimp only; omega, ?_⟩
        dsimp only
        rw [e1, hs, show col + (cmS tx cs cl (fc t) k).length + (sep k).length + cl (fc t + k) = col + ((cmS tx cs cl (fc t) k).length + (sep k).length + cl (fc t + k)) by omega]
        rfl
      by_cases k0 : k = 0
      · rw [if_pos ((nI_leI (by omega) (by omega)).mpr (by omega))]
        have e1 : sep k = [] := if_pos k0
        have := fin r (by rw [e1, List.append_nil]; exact h2)
        rw [e1, List.append_nil] at this
        exact this
      · rw [if_neg (fun c => (show ¬ fc t + k ≤ fc t by omega) ((nI_leI (by omega) (by omega)).mp c))]
        have e1 : sep k = [32] := if_neg k0
        rw [if_neg k0] at hsl
        obtain ⟨sh1, g1, g2⟩ := e_put (c := 32) (col := col + (cmS tx cs cl (fc t) k).length) h2 (by omega) (by omega)
        rw [show (32 : Int32) = nI 32 from rfl, g2, ob]
        have := fin sh1 (by rw [e1]; exact g1)
        rw [e1] at this
        exact this
end CSTR
