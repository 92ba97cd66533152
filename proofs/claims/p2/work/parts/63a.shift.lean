/-! sevens of bits -/
def gl_s (v : Int64) : Int64 := (Int64.toUInt64 v >>> ((Int32.toInt64 (7 : Int32)).toUInt64 &&& Int64.toUInt64 63)).toInt64
theorem gl_sh7 : ((Int32.toInt64 (7 : Int32)).toUInt64 &&& Int64.toUInt64 63) = 7 := by decide
theorem gl_div (u : UInt64) : (u >>> 7).toNat = u.toNat / 128 := by
  rw [UInt64.toNat_shiftRight, Nat.shiftRight_eq_div_pow]; rfl
theorem gl_nat (v : Int64) : (gl_s v).toUInt64.toNat = v.toUInt64.toNat / 128 := by
  unfold gl_s; rw [gl_sh7]
  have : ((v.toUInt64 >>> 7).toInt64).toUInt64 = v.toUInt64 >>> 7 := by simp
  rw [this, gl_div]
theorem gl_zero {v : Int64} (h : v.toUInt64.toNat = 0) : v = 0 := by
  have h1 : v.toUInt64 = 0 := UInt64.toNat_inj.mp h
  have := congrArg UInt64.toInt64 h1
  simpa using this
theorem gl_and {v : Int64} (h : gl_s v = 0) : v &&& 127 = v := by
  have h2 : v.toUInt64.toNat < 128 := by
    have := gl_nat v
    rw [h] at this
    have h3 : (0 : Int64).toUInt64.toNat = 0 := rfl
    omega
  have h4 : (v &&& 127).toUInt64 = v.toUInt64 := by
    rw [Int64.toUInt64_and]
    apply UInt64.toNat_inj.mp
    rw [UInt64.toNat_and]
    show v.toUInt64.toNat &&& 127 = _
    rw [show (127 : Nat) = 2 ^ 7 - 1 from rfl, Nat.and_two_pow_sub_one_eq_mod]
    omega
  have := congrArg UInt64.toInt64 h4
  simpa using this
