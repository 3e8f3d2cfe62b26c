/-! write: the bytes of a long -/
def bt (a : Int64) (k : Nat) : Nat := (((a >>> ((8 * nI k).toInt64 &&& 63)) &&& 255).toInt32).toBitVec.toNat % 256
theorem bt_lt {a : Int64} {k : Nat} : bt a k < 256 := Nat.mod_lt _ (by omega)
theorem bits_255 : ∀ i, i < 64 → ((255 : Int64).toBitVec.getLsbD i = decide (i < 8)) := by decide +kernel
theorem bits_255i : ∀ i, i < 32 → ((255 : Int32).toBitVec.getLsbD i = decide (i < 8)) := by decide +kernel
theorem sh_l : ∀ k, k < 8 → ((8 * nI k).toInt64 &&& 63).toBitVec = BitVec.ofNat 64 (8 * k) := by decide +kernel
theorem sh_u : ∀ k, k < 8 → ((8 * nI k).toInt64.toUInt64 &&& Int64.toUInt64 63).toBitVec = BitVec.ofNat 64 (8 * k) := by decide +kernel
theorem sm_l : ∀ k, k < 8 → ((BitVec.ofNat 64 (8 * k)).smod 64).toNat = 8 * k := by decide +kernel
theorem um_l : ∀ k, k < 8 → ((BitVec.ofNat 64 (8 * k)) % 64).toNat = 8 * k := by decide +kernel
theorem bt_bits {a : Int64} {k i : Nat} (hk : k < 8) (hi : i < 32) : (((a >>> ((8 * nI k).toInt64 &&& 63)) &&& 255).toInt32).toBitVec.getLsbD i = (decide (i < 8) && a.toBitVec.getLsbD (8 * k + i)) := by
  rw [Int64.toBitVec_toInt32, BitVec.getLsbD_signExtend]
  rw [Int64.toBitVec_and, Int64.toBitVec_shiftRight, sh_l k hk]
  simp only [hi, decide_true, Bool.true_and]
  rw [if_pos (by omega), BitVec.getLsbD_and, bits_255 i (by omega), BitVec.getLsbD_sshiftRight', sm_l k hk]
  by_cases h8 : i < 8
  · rw [if_pos (by omega)]
    simp [h8]
    omega
  · simp [h8]
theorem bt_bitsC {a : Int64} {k i : Nat} (hk : k < 8) (hi : i < 32) : ((((a.toUInt64 >>> ((8 * nI k).toInt64.toUInt64 &&& Int64.toUInt64 63)).toInt64).toInt32) &&& 255).toBitVec.getLsbD i = (decide (i < 8) && a.toBitVec.getLsbD (8 * k + i)) := by
  rw [Int32.toBitVec_and, BitVec.getLsbD_and, bits_255i i hi, Int64.toBitVec_toInt32, BitVec.getLsbD_signExtend]
  simp only [hi, decide_true, Bool.true_and]
  rw [if_pos (by omega)]
  rw [UInt64.toBitVec_toInt64, UInt64.toBitVec_shiftRight, sh_u k hk]
  rw [BitVec.ushiftRight_eq', um_l k hk, BitVec.getLsbD_ushiftRight, Bool.and_comm]
  rfl
