/-! what the pure functions are made of -/
def nm {α β : Type} (a : α) (k : α → β) : β := k a
def rd {α : Type} (f : Nat → α) (n : Nat) (i : Int32) : Option α := if i < 0 ∨ n ≤ i.toNatClampNeg then none else some (f i.toNatClampNeg)
def wrI (f : Nat → Int32) (n : Nat) (i x : Int32) : Option (Nat → Int32) := if i < 0 ∨ n ≤ i.toNatClampNeg then none else some (upd f i.toNatClampNeg x)
def wrL (f : Nat → Int64) (n : Nat) (i : Int32) (x : Int64) : Option (Nat → Int64) := if i < 0 ∨ n ≤ i.toNatClampNeg then none else some (vp_updL f i.toNatClampNeg x)
theorem rd_some {α β : Type} {f : Nat → α} {n : Nat} {i : Int32} {k : α → Option β} {r : β} (h : (rd f n i).bind k = some r) : vp_in i n ∧ k (f i.toNatClampNeg) = some r := by
  unfold rd at h
  by_cases hc : i < 0 ∨ n ≤ i.toNatClampNeg
  · rw [if_pos hc] at h; cases h
  · rw [if_neg hc] at h; exact ⟨hc, h⟩
theorem wrI_some {β : Type} {f : Nat → Int32} {n : Nat} {i x : Int32} {k : (Nat → Int32) → Option β} {r : β} (h : (wrI f n i x).bind k = some r) : vp_in i n ∧ k (upd f i.toNatClampNeg x) = some r := by
  unfold wrI at h
  by_cases hc : i < 0 ∨ n ≤ i.toNatClampNeg
  · rw [if_pos hc] at h; cases h
  · rw [if_neg hc] at h; exact ⟨hc, h⟩
theorem wrL_some {β : Type} {f : Nat → Int64} {n : Nat} {i : Int32} {x : Int64} {k : (Nat → Int64) → Option β} {r : β} (h : (wrL f n i x).bind k = some r) : vp_in i n ∧ k (vp_updL f i.toNatClampNeg x) = some r := by
  unfold wrL at h
  by_cases hc : i < 0 ∨ n ≤ i.toNatClampNeg
  · rw [if_pos hc] at h; cases h
  · rw [if_neg hc] at h; exact ⟨hc, h⟩
/-- System.arraycopy of bytes -/
def cpB (f g : Nat → Int32) (n0 n1 : Nat) (sp dp n : Int32) : Option (Nat → Int32) := if (¬ sp < 0 ∧ ¬ dp < 0 ∧ ¬ n < 0 ∧ sp.toNatClampNeg + n.toNatClampNeg ≤ n0 ∧ dp.toNatClampNeg + n.toNatClampNeg ≤ n1) ∧ (List.range n.toNatClampNeg).all (fun i => fits .byte (.int (f (sp.toNatClampNeg + i)))) = true then some (va_cpy f g sp.toNatClampNeg dp.toNatClampNeg n.toNatClampNeg) else none
theorem cpB_some {β : Type} {f g : Nat → Int32} {n0 n1 : Nat} {sp dp n : Int32} {k : (Nat → Int32) → Option β} {r : β} (h : (cpB f g n0 n1 sp dp n).bind k = some r) : (¬ sp < 0 ∧ ¬ dp < 0 ∧ ¬ n < 0 ∧ sp.toNatClampNeg + n.toNatClampNeg ≤ n0 ∧ dp.toNatClampNeg + n.toNatClampNeg ≤ n1) ∧ (∀ i, i < n.toNatClampNeg → fits .byte (.int (f (sp.toNatClampNeg + i))) = true) ∧ k (va_cpy f g sp.toNatClampNeg dp.toNatClampNeg n.toNatClampNeg) = some r := by
  unfold cpB at h
  by_cases hc : (¬ sp < 0 ∧ ¬ dp < 0 ∧ ¬ n < 0 ∧ sp.toNatClampNeg + n.toNatClampNeg ≤ n0 ∧ dp.toNatClampNeg + n.toNatClampNeg ≤ n1) ∧ (List.range n.toNatClampNeg).all (fun i => fits .byte (.int (f (sp.toNatClampNeg + i)))) = true
  · rw [if_pos hc] at h
    exact ⟨hc.1, fun i hi => List.all_eq_true.mp hc.2 i (List.mem_range.mpr hi), h⟩
  · rw [if_neg hc] at h; cases h
/-- the fuel of every loop -/
noncomputable def FU : Nat := Classical.choose (⟨2 ^ 80, rfl⟩ : ∃ n : Nat, n = 2 ^ 80)
theorem FU_v : FU = 2 ^ 80 := Classical.choose_spec (⟨2 ^ 80, rfl⟩ : ∃ n : Nat, n = 2 ^ 80)
def zc (v : Int32) : Option Int32 := if v = 0 ∨ v = 1 then some v else none
theorem zc_some {β : Type} {v : Int32} {g : Int32 → Option β} {r : β} (h : (zc v).bind g = some r) : narrow .boolean (.int v) = .int v ∧ g v = some r := by
  unfold zc at h
  by_cases hc : v = 0 ∨ v = 1
  · rw [if_pos hc] at h
    exact ⟨by rcases hc with rfl | rfl <;> rfl, h⟩
  · rw [if_neg hc] at h; cases h
