/-! PURE 25: bytes of the tape -/
def sgn (b : Nat) : Int32 := (nI b).toInt8.toInt32
theorem sgn_lt : ∀ b, b < 128 → sgn b = nI b := by decide +kernel
theorem sgn_neg : ∀ b, b < 256 → 128 ≤ b → sgn b < 0 := by decide +kernel
theorem sgn_nar (b : Nat) : vp_nar .byte (sgn b) = sgn b := by
  unfold vp_nar sgn
  show (nI b).toInt8.toInt32.toInt8.toInt32 = (nI b).toInt8.toInt32
  rw [Int8.toInt8_toInt32]
theorem sh_c : ∀ j, j < 8 → (Int32.toInt64 (8 * nI j)) &&& 63 = lN (8 * j) ∧ ((Int32.toInt64 (8 * nI j)).toUInt64 &&& Int64.toUInt64 63) = UInt64.ofNat (8 * j) := by decide +kernel
