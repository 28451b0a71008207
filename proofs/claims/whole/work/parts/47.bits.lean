/-! ===== the draw's bits ===== -/
def dv (x : Int32) : Nat := x.toBitVec.toNat / 65536 % 32768
theorem dv_lt (x : Int32) : dv x < 32768 := Nat.mod_lt _ (by decide)
theorem ushr_v (x : Int32) : z_ushr x (nn 16) &&& nn 32767 = nn (dv x) := by
  have h16 : ((nn 16).toUInt32 &&& Int32.toUInt32 31) = 16 := by decide
  unfold z_ushr
  rw [h16]
  apply Int32.toBitVec.inj
  apply BitVec.eq_of_toNat_eq
  have e1 : ((x.toUInt32 >>> 16).toInt32 &&& nn 32767).toBitVec = (x.toBitVec >>> 16) &&& 32767#32 := rfl
  have e2 : (nn (dv x)).toBitVec = BitVec.ofNat 32 (dv x) := rfl
  rw [e1, e2, BitVec.toNat_and, BitVec.toNat_ushiftRight, BitVec.toNat_ofNat, BitVec.toNat_ofNat]
  have h := dv_lt x
  rw [Nat.mod_eq_of_lt (show dv x < 2 ^ 32 by omega), Nat.shiftRight_eq_div_pow]
  show x.toBitVec.toNat / 65536 &&& (2 ^ 15 - 1) = _
  rw [Nat.and_two_pow_sub_one_eq_mod]
  rfl
theorem shr_v (x : Int32) : z_shr x (nn 16) &&& nn 32767 = nn (dv x) := by
  rw [← ushr_v]
  have h16 : ((nn 16).toUInt32 &&& Int32.toUInt32 31) = 16 := by decide
  have k16 : (nn 16 &&& 31) = 16 := by decide
  unfold z_ushr z_shr
  rw [h16, k16]
  apply Int32.toBitVec.inj
  have e1 : ((x.toUInt32 >>> 16).toInt32 &&& nn 32767).toBitVec = (x.toBitVec >>> 16) &&& 32767#32 := rfl
  have e2 : ((x >>> 16) &&& nn 32767).toBitVec = (x.toBitVec.sshiftRight 16) &&& 32767#32 := rfl
  rw [e1, e2]
  apply BitVec.eq_of_getLsbD_eq
  intro i hi
  rw [BitVec.getLsbD_and, BitVec.getLsbD_and]
  by_cases h15 : i < 15
  · rw [BitVec.getLsbD_sshiftRight, BitVec.getLsbD_ushiftRight]
    have h1 : (decide (32 ≤ i)) = false := by simp; omega
    rw [h1, if_pos (by omega)]
    simp
  · have hz : (32767#32).getLsbD i = false := by
      have h7 : ∀ i : Fin 32, ¬ i.val < 15 → (32767#32).getLsbD i.val = false := by decide
      exact h7 ⟨i, hi⟩ h15
    rw [hz]
    simp
