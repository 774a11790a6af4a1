/-! The bytes of a long, as class and model take them. -/
set_option maxRecDepth 100000
set_option linter.unusedVariables false
def zbC (x : Int64) (j : Int32) : Int32 := ((Int64.toInt32 ((Int64.toUInt64 x >>> (Int64.toUInt64 (Int32.toInt64 j) &&& Int64.toUInt64 63)).toInt64)) &&& 255)
def zbM (x : Int64) (k : Int32) : Int32 := (Int64.toInt32 ((x >>> (Int32.toInt64 (8 * k) &&& 63)) &&& 255))
theorem zb_e (x : Int64) (m : Nat) (j k : Int32) (hm : m ≤ 56) (h1 : Int64.toUInt64 (Int32.toInt64 j) &&& Int64.toUInt64 63 = UInt64.ofNat m) (h2 : Int32.toInt64 (8 * k) &&& 63 = Int64.ofNat m) : zbC x j = zbM x k := by
  have e3 : ((BitVec.ofNat 64 m).smod 64#64).toNat = m := (by decide : ∀ m, m < 57 → ((BitVec.ofNat 64 m).smod 64#64).toNat = m) m (by omega)
  unfold zbC zbM
  rw [h1, h2]
  apply Int32.toBitVec_inj.mp
  apply BitVec.eq_of_getLsbD_eq
  intro i hi
  simp [Int64.toBitVec_shiftRight, BitVec.getLsbD_and]
  rw [e3, Nat.mod_eq_of_lt (by omega)]
  by_cases h8 : i < 8
  · rw [BitVec.getLsbD_signExtend, BitVec.getLsbD_signExtend, BitVec.getLsbD_sshiftRight, BitVec.getLsbD_ushiftRight]
    have q1 : m + i < 64 := by omega
    have q2 : i < 64 := by omega
    have q3 : ¬ 64 ≤ i := by omega
    simp [q1, q2, q3]
  · have q : (255#32).getLsbD i = false := (by decide : ∀ i, i < 32 → ¬ i < 8 → (255#32).getLsbD i = false) i hi h8
    rw [q, Bool.and_false, Bool.and_false]
theorem zb_r (x : Int64) (j : Int32) : ∃ c, c < 256 ∧ zbC x j = nI c := by
  unfold zbC
  generalize (Int64.toUInt64 x >>> (Int64.toUInt64 (Int32.toInt64 j) &&& Int64.toUInt64 63)).toInt64.toInt32 = y
  refine ⟨(y &&& 255).toBitVec.toNat, ?_, ?_⟩
  · have : (y &&& 255).toBitVec.toNat = y.toBitVec.toNat &&& 255 := by
      rw [Int32.toBitVec_and, BitVec.toNat_and]
      rfl
    rw [this]
    exact Nat.lt_of_le_of_lt Nat.and_le_right (by decide)
  · apply Int32.toBitVec_inj.mp
    unfold nI
    simp
