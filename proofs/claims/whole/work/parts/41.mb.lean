/-! ===== the reference: told ===== -/
theorem bit1 : ∀ q, q < 16 → ∀ p, p < 16 → (nI 1 <<< (nI q &&& 31)).toBitVec.getLsbD p = decide (p = q) := by decide
theorem shp : ∀ p, p < 16 → ((nI p &&& 31).toBitVec.smod 32).toNat = p := by decide
theorem bitp {u : Int32} {p : Nat} (hp : p < 16) : (u >>> (nI p &&& 31)) &&& nI 1 = if u.toBitVec.getLsbD p then nI 1 else nI 0 := by
  apply Int32.toBitVec_inj.mp
  have e1 : (nI 1).toBitVec = 1#32 := by decide
  have e0 : (nI 0).toBitVec = 0#32 := by decide
  rw [Int32.toBitVec_and, Int32.toBitVec_shiftRight, e1, BitVec.sshiftRight', shp p hp, BitVec.and_one_eq_setWidth_ofBool_getLsbD, BitVec.getLsbD_sshiftRight]
  simp only [Nat.add_zero, show p < 32 by omega, if_true]
  cases u.toBitVec.getLsbD p
  · simp [e0]
  · simp [e1]
