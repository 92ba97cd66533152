/-! getters: the quotient and the rest, as the class takes them and as the reference does -/
theorem f_shr (v : Int32) : (v >>> ((3 : Int32) &&& 31)).toInt = v.toInt / 8 := by
  have e : ((3 : Int32) &&& 31) = 3 := by decide
  rw [e]
  show (v.toBitVec.sshiftRight' ((3 : Int32).toBitVec.smod 32)).toInt = _
  have e2 : ((3 : Int32).toBitVec.smod 32).toNat = 3 := by decide
  rw [BitVec.toInt_sshiftRight', e2, Int.shiftRight_eq_div_pow]
  rfl
theorem f_and (v : Int32) : (v &&& 7).toInt = v.toInt % 8 := by
  have h1 : (v.toBitVec &&& 7#32).toNat = v.toBitVec.toNat % 8 := by
    rw [BitVec.toNat_and]
    show v.toBitVec.toNat &&& 7 = _
    rw [show (7 : Nat) = 2 ^ 3 - 1 from rfl, Nat.and_two_pow_sub_one_eq_mod]
  have h2 : (v &&& 7).toInt = (v.toBitVec &&& 7#32).toInt := rfl
  have h3 : v.toInt = v.toBitVec.toInt := rfl
  rw [h2, h3, BitVec.toInt_eq_toNat_cond, BitVec.toInt_eq_toNat_cond, h1]
  generalize v.toBitVec.toNat = t
  split <;> split <;> omega
theorem f_neg (v : Int32) : (v ^^^ 8 < 0) ↔ v.toInt < 0 := by
  rw [Int32.lt_iff_toInt_lt]
  show (v ^^^ 8).toInt < 0 ↔ _
  have h1 : (v ^^^ 8).toInt = (v.toBitVec ^^^ 8#32).toInt := rfl
  have h2 : (v.toBitVec ^^^ 8#32).msb = v.toBitVec.msb := by
    rw [BitVec.msb_xor]
    have : (8#32).msb = false := by decide
    rw [this, Bool.xor_false]
  have h3 := BitVec.msb_eq_toInt (x := v.toBitVec ^^^ 8#32)
  have h4 := BitVec.msb_eq_toInt (x := v.toBitVec)
  rw [h2, h4] at h3
  rw [h1]
  have h5 : v.toInt = v.toBitVec.toInt := rfl
  rw [h5]
  have := decide_eq_decide.mp h3
  exact this.symm
theorem f_td (T : Int) : (0 ≤ T ∨ 8 ∣ T → T.tdiv 8 = T / 8) ∧ (¬ (0 ≤ T ∨ 8 ∣ T) → T.tdiv 8 = T / 8 + 1) := by
  constructor
  · intro h; rw [Int.tdiv_eq_ediv, if_pos h]; omega
  · intro h; rw [Int.tdiv_eq_ediv, if_neg h]; rfl
theorem f_bounds (v : Int32) : -2147483648 ≤ v.toInt ∧ v.toInt ≤ 2147483647 := by
  have h1 := Int32.le_toInt v
  have h2 := Int32.toInt_lt v
  omega
theorem f_d8 (v : Int32) : (v / 8).toInt = v.toInt.tdiv 8 := Int32.toInt_div_of_ne_right v 8 (by decide)
theorem f_m8 (v : Int32) : (v / 8 * 8).toInt = v.toInt.tdiv 8 * 8 := by
  rw [Int32.toInt_mul, f_d8]
  have hb := f_bounds v
  have t := f_td v.toInt
  show (v.toInt.tdiv 8 * 8).bmod (2 ^ 32) = _
  generalize v.toInt = T at *
  generalize T.tdiv 8 = Q at *
  by_cases h : 0 ≤ T ∨ 8 ∣ T
  · have := t.1 h
    exact Int.bmod_eq_of_le_mul_two (by omega) (by omega)
  · have := t.2 h
    exact Int.bmod_eq_of_le_mul_two (by omega) (by omega)
theorem k_fd (v : Int32) : jM_floorDiv v 8 = some (v >>> ((3 : Int32) &&& 31)) := by
  have hb := f_bounds v
  have hd := f_d8 v
  have hm := f_m8 v
  have hs := f_shr v
  have t := f_td v.toInt
  unfold jM_floorDiv
  rw [if_neg (show ¬ (8 : Int32) = 0 by decide)]
  have fin : ∀ w : Int32, w.toInt = v.toInt / 8 → some w = some (v >>> ((3 : Int32) &&& 31)) := fun w hw => by
    congr 1
    exact Int32.toInt_inj.mp (hw.trans hs.symm)
  by_cases c : v ^^^ 8 < 0
  · have c2 := (f_neg v).mp c
    rw [if_pos c]
    by_cases c3 : v / 8 * 8 = v
    · rw [if_pos c3]
      refine fin _ ?_
      rw [← Int32.toInt_inj, hm] at c3
      rw [hd]
      by_cases h : 0 ≤ v.toInt ∨ 8 ∣ v.toInt
      · exact t.1 h
      · have := t.2 h; omega
    · rw [if_neg c3]
      refine fin _ ?_
      rw [← Int32.toInt_inj, hm] at c3
      have h : ¬ (0 ≤ v.toInt ∨ 8 ∣ v.toInt) := by
        intro h
        have := t.1 h
        omega
      have h2 := t.2 h
      rw [Int32.toInt_sub, hd, h2]
      show (v.toInt / 8 + 1 - 1).bmod (2 ^ 32) = _
      rw [Int.bmod_eq_of_le_mul_two (by omega) (by omega)]
      omega
  · have c2 : 0 ≤ v.toInt := by
      have := (f_neg v)
      by_cases q : v.toInt < 0
      · exact absurd (this.mpr q) c
      · omega
    rw [if_neg c]
    exact fin _ (hd.trans (t.1 (Or.inl c2)))
theorem k_fm (v : Int32) : jM_floorMod v 8 = some (v &&& 7) := by
  have hb := f_bounds v
  have hm := f_m8 v
  have hs := f_and v
  have t := f_td v.toInt
  have hr : (v - v / 8 * 8).toInt = v.toInt - v.toInt.tdiv 8 * 8 := by
    rw [Int32.toInt_sub, hm]
    generalize v.toInt = T at *
    generalize T.tdiv 8 = Q at *
    by_cases h : 0 ≤ T ∨ 8 ∣ T
    · have := t.1 h
      exact Int.bmod_eq_of_le_mul_two (by omega) (by omega)
    · have := t.2 h
      exact Int.bmod_eq_of_le_mul_two (by omega) (by omega)
  unfold jM_floorMod
  rw [if_neg (show ¬ (8 : Int32) = 0 by decide)]
  have fin : ∀ w : Int32, w.toInt = v.toInt % 8 → some w = some (v &&& 7) := fun w hw => by
    congr 1
    exact Int32.toInt_inj.mp (hw.trans hs.symm)
  have z0 : (0 : Int32).toInt = 0 := rfl
  by_cases c : v ^^^ 8 < 0
  · have c2 := (f_neg v).mp c
    rw [if_pos c]
    by_cases c3 : v - v / 8 * 8 = 0
    · rw [if_pos c3]
      refine fin _ ?_
      rw [← Int32.toInt_inj, hr, z0] at c3
      rw [hr]
      by_cases h : 0 ≤ v.toInt ∨ 8 ∣ v.toInt
      · have := t.1 h; omega
      · have := t.2 h; omega
    · rw [if_neg c3]
      refine fin _ ?_
      rw [← Int32.toInt_inj, hr, z0] at c3
      have h : ¬ (0 ≤ v.toInt ∨ 8 ∣ v.toInt) := by
        intro h
        have := t.1 h
        omega
      have h2 := t.2 h
      rw [Int32.toInt_add, hr, h2]
      show (v.toInt - (v.toInt / 8 + 1) * 8 + 8).bmod (2 ^ 32) = _
      rw [Int.bmod_eq_of_le_mul_two (by omega) (by omega)]
      omega
  · have c2 : 0 ≤ v.toInt := by
      have := (f_neg v)
      by_cases q : v.toInt < 0
      · exact absurd (this.mpr q) c
      · omega
    rw [if_neg c]
    refine fin _ ?_
    rw [hr, t.1 (Or.inl c2)]
    omega
