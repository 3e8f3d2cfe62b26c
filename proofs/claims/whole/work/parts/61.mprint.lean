/-! the reference's print -/
section MPRINT
variable {tx : Nat → Nat} {len : Nat} {mk : Nat → Int32} {n : Nat} {ts tl tg fc cs cl : Nat → Nat} {nr : Nat} {ln gh : Nat → Nat} {e T wd : Nat} {P : Nat → PE} {D : Nat → Nat → Nat → Nat} {gi : Nat → Int32} {S : Nat → LYS}
theorem e_mend (K : TOK len n ts tl tg fc cs cl) (hmk : txtR len tx mk) {pg : List Nat} {sh : Nat → Int32} {col : Nat} (hp : pgR pg sh) (he : e ≤ n) (hcol : col ≤ pg.length) (hlen : pg.length + (enS tx ts tl fc cs cl n e pg).length ≤ 6000) {tr pa : Int32} {th : Int32} {h1 r1 r2 r3 r4 r5 r6 w b st br : Nat → Int32} :
    ∃ col' sh', pgR (pg ++ enS tx ts tl fc cs cl n e pg) sh' ∧ (if nI e < nI n then jn_X6_print_154 tr (nI n) pa (nI e) h1 gi mk (nA ts) (nA tl) (nA cs) (nA cl) (nA fc) r1 r2 r3 r4 r5 r6 th (nI col) (nI pg.length) w b st br sh else (rd (nA fc) 18 (nI n)).bind fun v18 => (rd (nA fc) 18 (nI n + 1)).bind fun v19 => if v19 ≤ v18 then jn_X6_print_159 tr (nI n) pa (nI e) h1 gi mk (nA ts) (nA tl) (nA cs) (nA cl) (nA fc) r1 r2 r3 r4 r5 r6 0 th (nI col) (nI pg.length) w b st br sh else jn_X6_print_154 tr (nI n) pa (nI e) h1 gi mk (nA ts) (nA tl) (nA cs) (nA cl) (nA fc) r1 r2 r3 r4 r5 r6 th (nI col) (nI pg.length) w b st br sh) = some (nI (pg ++ enS tx ts tl fc cs cl n e pg).length, th, nI col', nI (pg ++ enS tx ts tl fc cs cl n e pg).length, w, b, st, br, sh') := by
  have hn := K.2.1
  have hf40 := fc_le K (show n + 1 ≤ n + 1 by omega)
  have hfn := K.2.2.2.2.1 n (Nat.le_refl n)
  have go : ¬ (n - e = 0 ∧ fc (n + 1) - fc n = 0) → ∃ col' sh', pgR (pg ++ enS tx ts tl fc cs cl n e pg) sh' ∧ jn_X6_print_154 tr (nI n) pa (nI e) h1 gi mk (nA ts) (nA tl) (nA cs) (nA cl) (nA fc) r1 r2 r3 r4 r5 r6 th (nI col) (nI pg.length) w b st br sh = some (nI (pg ++ enS tx ts tl fc cs cl n e pg).length, th, nI col', nI (pg ++ enS tx ts tl fc cs cl n e pg).length, w, b, st, br, sh') := by
    intro hno
    unfold enS at hlen ⊢
    rw [if_neg hno] at hlen ⊢
    unfold jn_X6_print_154 jn_X6_print_159 jn_X6_print_177
    simp only [nm]
    rw [if_neg (show ¬ (1 : Int32) = 0 by decide)]
    by_cases hz : pg = []
    · rw [if_pos hz, List.nil_append] at hlen ⊢
      rw [if_pos (show nI pg.length ≤ (0 : Int32) by rw [hz]; decide)]
      obtain ⟨col', sh', k1, k2⟩ := e_mputTokens1 K hmk hp he hcol hlen
      rw [k2, ob]
      exact ⟨col', sh', k1, rfl⟩
    · have hpos : 0 < pg.length := by
        rcases Nat.eq_zero_or_pos pg.length with z | z
        · exact absurd (List.eq_nil_of_length_eq_zero z) hz
        · exact z
      rw [if_neg hz] at hlen ⊢
      have eA : ∀ A B C : List Nat, pg ++ ([10] ++ A ++ B ++ C) = pg ++ [10] ++ (A ++ B ++ C) := by intro A B C; simp
      rw [List.length_append, List.length_append, List.length_append] at hlen
      have h10 : ([10] : List Nat).length = 1 := rfl
      obtain ⟨sh1, k1, k2⟩ := e_mput (c := 10) (col := col) hp (by omega)
      have hl1 : (pg ++ [10]).length = pg.length + 1 := by rw [List.length_append, h10]
      obtain ⟨col', sh', k3, k4⟩ := e_mputTokens1 K hmk k1 he (col := col + 1) (by omega) (by rw [List.length_append (as := tkS tx ts tl fc cs cl e (n - e) ++ _), List.length_append (as := tkS tx ts tl fc cs cl e (n - e))]; omega)
      rw [if_neg (show ¬ nI pg.length ≤ (0 : Int32) from nI_nle (by omega) (by omega)), show (10 : Int32) = nI 10 from rfl, k2, ob]
      dsimp only
      rw [k4, ob, eA]
      exact ⟨col', sh', k3, rfl⟩
  by_cases h1 : e < n
  · rw [if_pos ((nI_ltI (by omega) (by omega)).mpr h1)]
    exact go (fun c => by omega)
  · rw [if_neg (fun x => h1 ((nI_ltI (by omega) (by omega)).mp x)), nI_1, rd_nA (by omega) (by omega), ob, rd_nA (by omega) (by omega), ob]
    by_cases h2 : fc (n + 1) ≤ fc n
    · have hz : n - e = 0 ∧ fc (n + 1) - fc n = 0 := ⟨by omega, by omega⟩
      rw [if_pos ((nI_leI (by omega) (by omega)).mpr h2)]
      unfold enS at hlen ⊢
      rw [if_pos hz] at hlen ⊢
      unfold jn_X6_print_159 jn_X6_print_177
      simp only [nm]
      rw [if_pos trivial]
      have ez : tkS tx ts tl fc cs cl e (n - e) ++ (if 0 < n - e ∧ 0 < fc (n + 1) - fc n then [32] else []) ++ cmS tx cs cl (fc n) (fc (n + 1) - fc n) = [] := by
        rw [hz.1, hz.2, if_neg (by omega)]; rfl
      have hl0 := hlen
      rw [← ez] at hl0
      obtain ⟨col', sh', k1, k2⟩ := e_mputTokens1 K hmk hp he hcol hl0
      rw [ez] at k1 k2
      rw [k2, ob]
      exact ⟨col', sh', k1, rfl⟩
    · rw [if_neg (fun x => h2 ((nI_leI (by omega) (by omega)).mp x))]
      exact go (fun c => by omega)
theorem e_mprint (K : TOK len n ts tl tg fc cs cl) (hch : ∀ i, i < len → tx i ≤ 126) (hmk : txtR len tx mk) {M : A8} (C : MP D T P M) (R : TRF nr ln n e T P) (hpe : posA T P = e) (hnr : nr ≤ 20) (hln : ∀ r, r < nr → ln r ≤ 5) (hgh : ∀ x, gh x < 4) (hwd : 1 ≤ wd ∧ wd ≤ 100) {pg : List Nat} (hpg : pg = (lay tx ts tl fc cs cl gh (insF gi) P T wd T).1 ++ enS tx ts tl fc cs cl n e (lay tx ts tl fc cs cl gh (insF gi) P T wd T).1) (hlp : pg.length ≤ 1300) {tr th col pr : Int32} (htr : tr ≠ 0) {wd0 bg0 st0 br0 sh0 : Nat → Int32} :
    ∃ col' sh' w b st br, pgR pg sh' ∧ f_X6_print (nI wd) tr (nI n) (nI T) (nI e) (nA gh) gi mk (nA ts) (nA tl) (nA cs) (nA cl) (nA fc) M.1 M.2.1 M.2.2.1 M.2.2.2.1 M.2.2.2.2.1 M.2.2.2.2.2.1 th col pr wd0 bg0 st0 br0 sh0 = some (nI pg.length, 0, nI col', nI pg.length, w, b, st, br, sh') := by
  have hT := R.1.2.1
  have hen := R.1.2.2.1
  have hn := R.1.2.2.2
  have hL := LI_all (tx := tx) (ts := ts) (tl := tl) (fc := fc) (cs := cs) (cl := cl) (gh := gh) (wd := wd) (ins := insF gi) R
  have hS : ∀ x, lay tx ts tl fc cs cl gh (insF gi) P T wd (x + 1) = lst tx ts tl fc cs cl gh (insF gi) P T wd x (lay tx ts tl fc cs cl gh (insF gi) P T wd x) := fun x => rfl
  have hS0 : lay tx ts tl fc cs cl gh (insF gi) P T wd 0 = ([], 0, fun _ => false, fun _ => 0) := rfl
  generalize hSS : lay tx ts tl fc cs cl gh (insF gi) P T wd = S at *
  obtain ⟨⟨w, b, s1, b1⟩, hW, hm⟩ := e_mmeasure (mk := mk) K hch hmk C R hpe hnr hln hgh (wd0 := wd0) (bg0 := bg0) (st0 := st0) (br0 := br0)
  unfold f_X6_print
  simp only [nm]
  rw [if_neg (show ¬ nI wd < (1 : Int32) from fun x => by have := (nI_ltI (b := 1) (by omega) (by omega)).mp x; omega), if_pos (show nI wd ≤ (100 : Int32) from (nI_leI (b := 100) (by omega) (by omega)).mpr (by omega)), if_neg htr, hm, ob]
  dsimp only
  have key := loopE (fun N (z : Nat × Nat × (Nat → Int32) × (Nat → Int32) × (Nat → Int32)) => lp_X6_print_51 tr (nI n) (nI T) (nI e) (nA gh) gi mk (nA ts) (nA tl) (nA cs) (nA cl) (nA fc) M.1 M.2.1 M.2.2.1 M.2.2.2.1 M.2.2.2.2.1 M.2.2.2.2.2.1
          (fun m_thrown m_column m_printed m_wide m_begins m_started m_broken m_print =>
          if nI e < nI n then (
            jn_X6_print_154 tr (nI n) (nI T) (nI e) (nA gh) gi mk (nA ts) (nA tl) (nA cs) (nA cl) (nA fc) M.1 M.2.1 M.2.2.1 M.2.2.2.1 M.2.2.2.2.1 M.2.2.2.2.2.1 m_thrown m_column m_printed m_wide m_begins m_started m_broken m_print
          ) else (
            (rd (nA fc) 18 (nI n)).bind fun v18 =>
            (rd (nA fc) 18 (nI n + 1)).bind fun v19 =>
            if v19 ≤ v18 then (
              jn_X6_print_159 tr (nI n) (nI T) (nI e) (nA gh) gi mk (nA ts) (nA tl) (nA cs) (nA cl) (nA fc) M.1 M.2.1 M.2.2.1 M.2.2.2.1 M.2.2.2.2.1 M.2.2.2.2.2.1 0 m_thrown m_column m_printed m_wide m_begins m_started m_broken m_print
            ) else (
              jn_X6_print_154 tr (nI n) (nI T) (nI e) (nA gh) gi mk (nA ts) (nA tl) (nA cs) (nA cl) (nA fc) M.1 M.2.1 M.2.2.1 M.2.2.2.1 M.2.2.2.2.1 M.2.2.2.2.2.1 m_thrown m_column m_printed m_wide m_begins m_started m_broken m_print
            )
          )) N (nI wd) (nI z.1) 0 (nI (S z.2.1).2.1) (nI (S z.2.1).1.length) w b z.2.2.1 z.2.2.2.1 z.2.2.2.2)
    (fun Q => ∃ col' sh' w b st br, pgR pg sh' ∧ Q = some (nI pg.length, 0, nI col', nI pg.length, w, b, st, br, sh'))
    (fun z => z.1 ≤ T ∧ PX P z.2.1 z.1 ∧ ST P T z.2.1 (S z.2.1) z.2.2.1 z.2.2.2.1 ∧ pgR (S z.2.1).1 z.2.2.2.2) (fun z => T - z.1) ?_ FU (0, 0, s1, b1, sh0) (FU_gt (by dsimp only; omega)) ⟨Nat.zero_le _, ⟨Nat.le_refl _, rfl, Or.inl rfl⟩, fun u hu _ => ⟨fun c => absurd c (Nat.not_lt_zero u), fun _ => (hW u (Nat.zero_le u) hu).2.2.1⟩, by dsimp only; rw [hS0]; exact pgR_0⟩
  · dsimp only at key
    rw [hS0] at key
    exact key
  · rintro N ⟨t, x0, st, br, sh⟩ ⟨h1, h2, h3, h4⟩
    dsimp only at h1 h2 h3 h4 ⊢
    simp only [lp_X6_print_51, jn_X6_print_114, nm]
    by_cases h : T ≤ t
    · left
      have et : t = T := by omega
      rw [if_pos ((nI_leI (by omega) (by omega)).mpr h)]
      rw [et] at h2
      have hST : S T = S x0 := by
        refine S_to hS h2.1 (fun v v1 v2 => ?_)
        have a1 := (pos_s R v2).1
        have a2 := pos_le R v1 (by omega)
        have a3 := to_en R hpe v2
        have a4 := pos_le R (en_in (P := P) v2).2 (Nat.le_refl T)
        have := h2.2.1
        omega
      rw [← hST] at h4 ⊢
      rw [hpg] at hlp ⊢
      rw [List.length_append] at hlp
      obtain ⟨col', sh', k1, k2⟩ := e_mend (gi := gi) (tr := tr) (pa := nI T) (th := 0) (h1 := nA gh) (r1 := M.1) (r2 := M.2.1) (r3 := M.2.2.1) (r4 := M.2.2.2.1) (r5 := M.2.2.2.2.1) (r6 := M.2.2.2.2.2.1) (w := w) (b := b) (st := st) (br := br) K hmk h4 hen (hL T (Nat.le_refl T)).2.1 (by omega)
      exact ⟨col', sh', w, b, st, br, k1, k2⟩
    · right
      have ht : t < T := by omega
      obtain ⟨c0, c1, c2, c3, c4, c5, c6, c7⟩ := C t ht
      have hr := R.2.2.2.1 t ht
      obtain ⟨p1, p2⟩ := pos_s R ht
      rw [if_neg (fun x => h ((nI_leI (by omega) (by omega)).mp x)), rd_nI (by omega) (by omega), ob, c1]
      have skip : posA (t + 1) P = posA t P → PX P x0 (t + 1) := fun c => ⟨by have := h2.1; omega, by rw [c]; exact h2.2.1, h2.2.2⟩
      by_cases h9 : 9 ≤ pSy (P t)
      · rw [if_pos (show (9 : Int32) ≤ nI (pSy (P t)) from (nI_leI (a := 9) (by omega) (by omega)).mpr h9), of1, nI_add]
        exact ⟨(t + 1, x0, st, br, sh), ⟨by dsimp only; omega, skip (by rw [p2, if_neg (by omega), p1]), h3, h4⟩, by dsimp only; omega, rfl⟩
      · rw [if_neg (show ¬ (9 : Int32) ≤ nI (pSy (P t)) from fun x => h9 ((nI_leI (a := 9) (by omega) (by omega)).mp x)), rd_nI (by omega) (by omega), ob, show w t = _ from (hW t (Nat.zero_le t) ht).1]
        have hfl := fl_le (tx := tx) (gh := gh) K R ht
        by_cases hne : pFr (P t) < pTo (P t)
        · have hfp := fl_pos (tx := tx) (gh := gh) K R hpe ht hne
          obtain ⟨k, k1, k2, k3, k4, k5⟩ := e_joint R C h2 ht hne h3
          have hem := top_empty R h2 ht k2 (Nat.le_refl x0) k4
          have hSk : S k = S x0 := S_to hS k1 hem
          have hstk : ST P T k (S k) st br := by
            intro u hu hun
            refine ⟨fun c => ?_, fun c => (h3 u hu hun).2 (by omega)⟩
            have hlt : u < x0 := by
              rcases Nat.lt_or_ge u x0 with x | x
              · exact x
              · have := hem u x c
                have := hun.2
                omega
            rw [hSk]
            exact (h3 u hu hun).1 hlt
          rw [← hSk] at h4 ⊢
          have hpa : pPa (P k) ≠ 999 → hg P k = true := by
            intro c
            rcases k4 with x | x
            · exact absurd x c
            · exact hg_low R h2 ht k1 k2 k3 x
          obtain ⟨sh1, m1, m2⟩ := e_between K hch C R hnr hln hgh hS hL (by omega) k3 hpa hstk ((hW k (Nat.zero_le k) (by omega)).2.1 k3) h4
          have hgl := gap_len R (hL k (by omega)) (show k < T by omega)
          have hcn := cnt_le R (show k + 1 ≤ T by omega)
          have hpk := (pos_s R (show k < T by omega)).1
          have hrk := R.2.2.2.1 k (by omega)
          have htw := tkW_le K (a := 0) (d := posA k P) (by omega)
          obtain ⟨st', br', m3, m4, m5⟩ := e_mstart K C R hwd.2 hS hL h2 ht hne (by omega) k1 k2 k3 hstk (fun u hu => (hW u (Nat.zero_le u) hu).1) (G := gapL tx ts fc gh P k (S k)) rfl (by omega)
          have hlw := lw_le (tx := tx) K R ht
          have hlwe : lw tx ts tl fc cs cl P t = (tkS tx ts tl fc cs cl (pFr (P t)) (pTo (P t) - pFr (P t))).length := rfl
          obtain ⟨sh2, m6, m7⟩ := e_mputTokens0 K hmk m1 (a := pFr (P t)) (d := pTo (P t) - pFr (P t)) (col := (gapL tx ts fc gh P k (S k)).2) (by omega) hgl.2 (by omega)
          rw [show pFr (P t) + (pTo (P t) - pFr (P t)) = pTo (P t) by omega] at m7
          have hS1 : S (t + 1) = _ := (hS t).trans (lst_l (by omega) hne)
          rw [m4] at hS1
          rw [if_neg (show ¬ nI (FlN tx ts tl fc cs cl gh P T t) ≤ (0 : Int32) from nI_nle (by omega) (by omega)), k5, ob, m2, ob]
          dsimp only
          rw [m5, ob, rd_nI (by omega) (by omega), ob, c4, rd_nI (by omega) (by omega), ob, c5, m7, ob]
          dsimp only
          rw [of1, nI_add]
          refine ⟨(t + 1, t + 1, st', br', sh2), ⟨by dsimp only; omega, ⟨Nat.le_refl _, rfl, Or.inr ⟨Nat.succ_pos t, by show pSy (P (t + 1 - 1)) ≤ 8; rw [Nat.add_sub_cancel]; omega, by show pFr (P (t + 1 - 1)) < pTo (P (t + 1 - 1)); rw [Nat.add_sub_cancel]; exact hne⟩⟩, ?_, ?_⟩, by dsimp only; omega, ?_⟩
          · intro u hu hun
            have hut : u ≠ t := by
              intro c
              rw [c] at hun
              have := hun.1
              omega
            refine ⟨fun c => ?_, fun c => (m3 u hu hun).2 (by dsimp only at c; omega)⟩
            have := (m3 u hu hun).1 (by dsimp only at c; omega)
            dsimp only
            rw [hS1]
            exact this
          · dsimp only
            rw [hS1]
            exact m6
          · dsimp only
            rw [hS1]
            rfl
        · have hf0 := fl_0 (tx := tx) (ts := ts) (tl := tl) (fc := fc) (cs := cs) (cl := cl) (gh := gh) R hpe ht (by omega)
          rw [if_pos (show nI (FlN tx ts tl fc cs cl gh P T t) ≤ (0 : Int32) by rw [hf0]; decide), of1, nI_add]
          exact ⟨(t + 1, x0, st, br, sh), ⟨by dsimp only; omega, skip (by rw [p2, if_pos (by omega), ← p1]; omega), h3, h4⟩, by dsimp only; omega, rfl⟩
end MPRINT
/-- print, both sides, where there is a tree -/
theorem r_print {nr : Nat} {hd ln gs gh : Nat → Nat} {len : Nat} {tx : Nat → Nat} {ct mk gi : Nat → Int32} {ts tl tg fc cs cl : Nat → Nat} {n e T : Nat} {D : Nat → Nat → Nat → Nat} {ce hi wi : Nat → Int32} {M : A8} (G : GW nr hd ln (rsy gs)) (hgh : ∀ x, gh x < 4) (hT : TREE nr hd ln gs gh len tx ct mk ts tl tg fc cs cl n e T D ce hi wi M) {tr th col pr psz pco : Int32} (htr : tr ≠ 0) {wd0 bg0 st0 br0 sh0 psh pfl pbr pin : Nat → Int32} {a1 : Int32} (h1 : ¬ a1 < 1) (h2 : a1 ≤ 100) :
    ∃ (pg : List Nat) (c1 c2 : Int32) (sh sh' f br ir w b st br' : Nat → Int32), pg.length ≤ 1300 ∧ pgR pg sh ∧ pgR pg sh' ∧
      f_X5_print a1 gi (nI n) ct (nA ts) (nA tl) (nA fc) (nA cs) (nA (fun x => cs x + cl x)) (nI T) (nI (n - e)) ce hi psz pco psh pfl pbr pin = some (0, nI pg.length, nI pg.length, c1, sh, f, br, ir) ∧
      f_X6_print a1 tr (nI n) (nI T) (nI e) (nA gh) gi mk (nA ts) (nA tl) (nA cs) (nA cl) (nA fc) M.1 M.2.1 M.2.2.1 M.2.2.2.1 M.2.2.2.2.1 M.2.2.2.2.2.1 th col pr wd0 bg0 st0 br0 sh0 = some (nI pg.length, 0, c2, nI pg.length, w, b, st, br', sh') := by
  obtain ⟨t1, t2, t3, t4, t5, t6, t7, t8, t9, t10, t11, t12⟩ := hT
  have hn := t1.2.1
  have R := trf_of G t6 hn t5 t7 t8 t9
  have hpe := posE_of G t6 hn t5 t7 t9
  obtain ⟨wd, hw, ew⟩ := nI_of (x := a1) (fun c => h1 (Int32.lt_trans c (by decide)))
  rw [ew] at h1 h2 ⊢
  have w1 : 1 ≤ wd := by
    rcases Nat.eq_zero_or_pos wd with z | z
    · exact absurd (show nI wd < 1 by rw [z]; decide) h1
    · exact z
  have w2 : wd ≤ 100 := (nI_leI (b := 100) (by omega) (by omega)).mp h2
  obtain ⟨c1, sh, f, br, ir, q1, q2, q3⟩ := e_layOut (gi := gi) t1 t2 t4 t10 R G.1 hgh hpe w2 (sh := psh) (f0 := pfl) (br0 := pbr) (ir0 := pin) (o1 := psz) (o2 := pco)
  obtain ⟨c2, sh', w, b, st, br', r1, r2⟩ := e_mprint (gi := gi) t1 t4 t3 t11 R hpe G.1 (fun r hr => (G.2 r hr).2.2.1) hgh ⟨w1, w2⟩ rfl q2 (tr := tr) (th := th) (col := col) (pr := pr) htr (wd0 := wd0) (bg0 := bg0) (st0 := st0) (br0 := br0) (sh0 := sh0)
  refine ⟨_, c1, nI c2, sh, sh', f, br, ir, w, b, st, br', q2, q1, r1, ?_, r2⟩
  unfold f_X5_print
  have hT0 := R.1.1
  rw [if_neg h1, if_pos h2, if_neg (nI_ne0 (by omega) (by omega)), q3, ob]
