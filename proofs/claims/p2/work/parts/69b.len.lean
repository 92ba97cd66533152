/-! lengthy numbers, read -/
theorem l_127 : ∀ b : Nat, b < 256 → Int32.ofNat b &&& 127 = Int32.ofNat (b % 128) := by decide +kernel
theorem l_sh : ∀ i : Nat, i < 10 → ((Int32.toInt64 ((7 : Int32) * Int32.ofNat i) &&& 63).toBitVec.smod 64).toNat = 7 * i := by decide +kernel
/-- the number with one more seven of bits -/
def gad (S : Int64) (b i : Nat) : Int64 := S ||| ((Int32.toInt64 (Int32.ofNat b &&& (127 : Int32))) <<< (Int32.toInt64 ((7 : Int32) * Int32.ofNat i) &&& 63))
theorem l_one {b i : Nat} (hb : b < 256) (hi : i < 10) : ((Int32.toInt64 (Int32.ofNat b &&& (127 : Int32))) <<< (Int32.toInt64 ((7 : Int32) * Int32.ofNat i) &&& 63)).toUInt64.toNat = (b % 128 * 2 ^ (7 * i)) % 2 ^ 64 := by
  rw [l_127 b hb]
  have h1 : Int32.toInt64 (Int32.ofNat (b % 128)) = Int64.ofNat (b % 128) := Int32.toInt64_ofNat' (by rw [Int32.toInt_maxValue]; omega)
  rw [h1]
  show ((Int64.ofNat (b % 128)).toBitVec <<< ((Int32.toInt64 ((7 : Int32) * Int32.ofNat i) &&& 63).toBitVec.smod 64)).toNat = _
  rw [BitVec.shiftLeft_eq', BitVec.toNat_shiftLeft, l_sh i hi, Int64.toBitVec_ofNat', BitVec.toNat_ofNat, Nat.shiftLeft_eq, Nat.mod_eq_of_lt (show b % 128 < 2 ^ 64 by omega)]
theorem l_gad {S : Int64} {b i : Nat} (hb : b < 256) (hi : i < 10) : (gad S b i).toUInt64.toNat = S.toUInt64.toNat ||| (b % 128 * 2 ^ (7 * i)) % 2 ^ 64 := by
  unfold gad
  rw [Int64.toUInt64_or, UInt64.toNat_or, l_one hb hi]
theorem l_ge {S : Int64} {b i : Nat} (hb : b < 256) (hi : i < 9 ∨ (i = 9 ∧ b % 128 < 2)) (h0 : 0 < b % 128) : 2 ^ (7 * i) ≤ (gad S b i).toUInt64.toNat := by
  rw [l_gad hb (by omega)]
  refine Nat.le_trans ?_ Nat.right_le_or
  have hlt : b % 128 * 2 ^ (7 * i) < 2 ^ 64 := by
    rcases hi with hi | ⟨rfl, h2⟩
    · have : b % 128 * 2 ^ (7 * i) < 2 ^ 7 * 2 ^ (7 * i) := Nat.mul_lt_mul_of_pos_right (by omega) (Nat.pow_pos (by omega))
      rw [← Nat.pow_add] at this
      exact Nat.lt_of_lt_of_le this (Nat.pow_le_pow_right (by omega) (by omega))
    · have : b % 128 = 1 := by omega
      rw [this]; decide
  rw [Nat.mod_eq_of_lt hlt]
  exact Nat.le_mul_of_pos_left _ h0
theorem l_64 : ∀ i : Nat, i < 11 → ((0 < (64 : Int32) - (7 : Int32) * Int32.ofNat i) ↔ i < 10) ∧ ((6 < (64 : Int32) - (7 : Int32) * Int32.ofNat i) ↔ i < 9) := by decide +kernel
theorem l_29 : ∀ b : Nat, b < 256 → ((Int32.ofNat b &&& 127 < (1 : Int32) <<< (((64 : Int32) - (7 : Int32) * Int32.ofNat 9) &&& 31)) ↔ b % 128 < 2) := by decide +kernel
section H
variable {n0 f q m N pos : Nat} {u : gU} {x : gX}
theorem r_lstop {bits l5 : Int32} {S : Int64} {i : Int32} {g : Nat} {y : gU} {o : Nat → Int64} {z : gx_H} (h : x.2.1 31 = 0) : mM_lengthy_8 (g + 1) (some 188) bits S i l5 (gH y x o z) = some (S, gH y x o z) := by
  rw [mM_lengthy_8]
  by_cases c : l5 = 0
  · rw [if_pos c]
  · rw [if_neg c, hi_188_31, Option.bind_some, if_pos h]
theorem r_l81 {bits : Int32} {S : Int64} {i b g : Nat} {y : gU} {o : Nat → Int64} {z : gx_H} : mM_lengthy_81 (mM_lengthy_8 (g + 1)) (some 188) bits S (Int32.ofNat i) (Int32.ofNat b) (some 188) (gH y x o z) = some (gad S b i, gH y ((x.1, gup x.2.1 31 0, x.2.2.1, x.2.2.2.1, x.2.2.2.2.1, x.2.2.2.2.2.1, x.2.2.2.2.2.2.1, x.2.2.2.2.2.2.2.1, x.2.2.2.2.2.2.2.2.1, x.2.2.2.2.2.2.2.2.2.1, x.2.2.2.2.2.2.2.2.2.2.1, x.2.2.2.2.2.2.2.2.2.2.2.1, x.2.2.2.2.2.2.2.2.2.2.2.2.1, x.2.2.2.2.2.2.2.2.2.2.2.2.2.1, x.2.2.2.2.2.2.2.2.2.2.2.2.2.2.1, x.2.2.2.2.2.2.2.2.2.2.2.2.2.2.2) : gX) o z) := by
  simp only [mM_lengthy_81, mM_lengthy_82, true_or, not_true, if_false, hp_188_31, Option.bind_some, mM_lengthy_112]
  split
  · exact r_lstop rfl
  · exact r_lstop rfl
theorem r_l77 {bits : Int32} {S : Int64} {i b g : Nat} {y : gU} {o : Nat → Int64} {z : gx_H} (hb : b < 256) : mM_lengthy_77 (mM_lengthy_8 (g + 1)) (some 188) bits S (Int32.ofNat i) (Int32.ofNat b) (some 188) (gH y x o z) = if b < 128 then some (gad S b i, gH y ((x.1, gup x.2.1 31 1, x.2.2.1, x.2.2.2.1, x.2.2.2.2.1, x.2.2.2.2.2.1, x.2.2.2.2.2.2.1, x.2.2.2.2.2.2.2.1, x.2.2.2.2.2.2.2.2.1, x.2.2.2.2.2.2.2.2.2.1, x.2.2.2.2.2.2.2.2.2.2.1, x.2.2.2.2.2.2.2.2.2.2.2.1, x.2.2.2.2.2.2.2.2.2.2.2.2.1, x.2.2.2.2.2.2.2.2.2.2.2.2.2.1, x.2.2.2.2.2.2.2.2.2.2.2.2.2.2.1, x.2.2.2.2.2.2.2.2.2.2.2.2.2.2.2) : gX) o z) else mM_lengthy_8 (g + 1) (some 188) bits (gad S b i) (Int32.ofNat (i + 1)) 1 (gH y ((x.1, gup x.2.1 31 1, x.2.2.1, x.2.2.2.1, x.2.2.2.2.1, x.2.2.2.2.2.1, x.2.2.2.2.2.2.1, x.2.2.2.2.2.2.2.1, x.2.2.2.2.2.2.2.2.1, x.2.2.2.2.2.2.2.2.2.1, x.2.2.2.2.2.2.2.2.2.2.1, x.2.2.2.2.2.2.2.2.2.2.2.1, x.2.2.2.2.2.2.2.2.2.2.2.2.1, x.2.2.2.2.2.2.2.2.2.2.2.2.2.1, x.2.2.2.2.2.2.2.2.2.2.2.2.2.2.1, x.2.2.2.2.2.2.2.2.2.2.2.2.2.2.2) : gX) o z) := by
  simp only [mM_lengthy_77, mM_lengthy_82, or_true, not_true, if_false, hp_188_31, Option.bind_some, mM_lengthy_112, n_succ]
  by_cases c : b < 128
  · rw [if_pos c, if_neg (show ¬ (127 : Int32) < Int32.ofNat b from n_nltl (n := 127) (by omega) (by omega) (by omega)), mM_lengthy_8, if_pos rfl]
    rfl
  · rw [if_neg c, if_pos (show (127 : Int32) < Int32.ofNat b from n_ltl (n := 127) (by omega) (by omega) (by omega))]
    rfl
theorem r_l67 {bits : Int32} {S : Int64} {i b g : Nat} {y : gU} {o : Nat → Int64} {z : gx_H} (hb : b < 256) (hi : i < 11) : mM_lengthy_67 (mM_lengthy_8 (g + 1)) (some 188) bits S (Int32.ofNat i) (Int32.ofNat b) (some 188) (gH y x o z) = if b = 0 ∧ ¬ i = 0 then some (gad S b i, gH y ((x.1, gup x.2.1 31 0, x.2.2.1, x.2.2.2.1, x.2.2.2.2.1, x.2.2.2.2.2.1, x.2.2.2.2.2.2.1, x.2.2.2.2.2.2.2.1, x.2.2.2.2.2.2.2.2.1, x.2.2.2.2.2.2.2.2.2.1, x.2.2.2.2.2.2.2.2.2.2.1, x.2.2.2.2.2.2.2.2.2.2.2.1, x.2.2.2.2.2.2.2.2.2.2.2.2.1, x.2.2.2.2.2.2.2.2.2.2.2.2.2.1, x.2.2.2.2.2.2.2.2.2.2.2.2.2.2.1, x.2.2.2.2.2.2.2.2.2.2.2.2.2.2.2) : gX) o z) else if b < 128 then some (gad S b i, gH y ((x.1, gup x.2.1 31 1, x.2.2.1, x.2.2.2.1, x.2.2.2.2.1, x.2.2.2.2.2.1, x.2.2.2.2.2.2.1, x.2.2.2.2.2.2.2.1, x.2.2.2.2.2.2.2.2.1, x.2.2.2.2.2.2.2.2.2.1, x.2.2.2.2.2.2.2.2.2.2.1, x.2.2.2.2.2.2.2.2.2.2.2.1, x.2.2.2.2.2.2.2.2.2.2.2.2.1, x.2.2.2.2.2.2.2.2.2.2.2.2.2.1, x.2.2.2.2.2.2.2.2.2.2.2.2.2.2.1, x.2.2.2.2.2.2.2.2.2.2.2.2.2.2.2) : gX) o z) else mM_lengthy_8 (g + 1) (some 188) bits (gad S b i) (Int32.ofNat (i + 1)) 1 (gH y ((x.1, gup x.2.1 31 1, x.2.2.1, x.2.2.2.1, x.2.2.2.2.1, x.2.2.2.2.2.1, x.2.2.2.2.2.2.1, x.2.2.2.2.2.2.2.1, x.2.2.2.2.2.2.2.2.1, x.2.2.2.2.2.2.2.2.2.1, x.2.2.2.2.2.2.2.2.2.2.1, x.2.2.2.2.2.2.2.2.2.2.2.1, x.2.2.2.2.2.2.2.2.2.2.2.2.1, x.2.2.2.2.2.2.2.2.2.2.2.2.2.1, x.2.2.2.2.2.2.2.2.2.2.2.2.2.2.1, x.2.2.2.2.2.2.2.2.2.2.2.2.2.2.2) : gX) o z) := by
  have eb : (Int32.ofNat b = 0) ↔ b = 0 := n_eq (m := 0) (by omega) (by omega)
  have ei : (Int32.ofNat i = 0) ↔ i = 0 := n_eq (m := 0) (by omega) (by omega)
  unfold mM_lengthy_67
  by_cases c : b = 0
  · rw [if_pos (eb.mpr c)]
    by_cases c2 : i = 0
    · rw [if_pos (ei.mpr c2), if_neg (fun q => q.2 c2)]; exact r_l77 hb
    · rw [if_neg (fun q => c2 (ei.mp q)), if_pos ⟨c, c2⟩]; exact r_l81
  · rw [if_neg (fun q => c (eb.mp q)), if_neg (fun q => c q.1)]; exact r_l77 hb
/-- the reference's turn, once a byte has come -/
theorem r_lstep {bits : Int32} {S : Int64} {i b g : Nat} {y : gU} {o : Nat → Int64} {z : gx_H} (D : gD n0 f q m N pos u x) (b4 : ∀ y o z, mM_next (some 188) (gH y x o z) = some (Int32.ofNat b, gH y ((x.1, gup (gup x.2.1 31 1) 32 (Int32.ofNat (pos + 1)), x.2.2.1, x.2.2.2.1, x.2.2.2.2.1, x.2.2.2.2.2.1, x.2.2.2.2.2.2.1, x.2.2.2.2.2.2.2.1, x.2.2.2.2.2.2.2.2.1, x.2.2.2.2.2.2.2.2.2.1, x.2.2.2.2.2.2.2.2.2.2.1, x.2.2.2.2.2.2.2.2.2.2.2.1, x.2.2.2.2.2.2.2.2.2.2.2.2.1, x.2.2.2.2.2.2.2.2.2.2.2.2.2.1, x.2.2.2.2.2.2.2.2.2.2.2.2.2.2.1, x.2.2.2.2.2.2.2.2.2.2.2.2.2.2.2) : gX) o z)) : mM_lengthy_8 (g + 1 + 1) (some 188) bits S (Int32.ofNat i) 1 (gH y x o z) = (if 0 < bits - (7 : Int32) * Int32.ofNat i then (if 6 < bits - (7 : Int32) * Int32.ofNat i then mM_lengthy_67 (mM_lengthy_8 (g + 1)) (some 188) bits S (Int32.ofNat i) (Int32.ofNat b) (some 188) (gH y ((x.1, gup (gup x.2.1 31 1) 32 (Int32.ofNat (pos + 1)), x.2.2.1, x.2.2.2.1, x.2.2.2.2.1, x.2.2.2.2.2.1, x.2.2.2.2.2.2.1, x.2.2.2.2.2.2.2.1, x.2.2.2.2.2.2.2.2.1, x.2.2.2.2.2.2.2.2.2.1, x.2.2.2.2.2.2.2.2.2.2.1, x.2.2.2.2.2.2.2.2.2.2.2.1, x.2.2.2.2.2.2.2.2.2.2.2.2.1, x.2.2.2.2.2.2.2.2.2.2.2.2.2.1, x.2.2.2.2.2.2.2.2.2.2.2.2.2.2.1, x.2.2.2.2.2.2.2.2.2.2.2.2.2.2.2) : gX) o z) else if (Int32.ofNat b &&& 127) < (1 : Int32) <<< ((bits - (7 : Int32) * Int32.ofNat i) &&& 31) then mM_lengthy_67 (mM_lengthy_8 (g + 1)) (some 188) bits S (Int32.ofNat i) (Int32.ofNat b) (some 188) (gH y ((x.1, gup (gup x.2.1 31 1) 32 (Int32.ofNat (pos + 1)), x.2.2.1, x.2.2.2.1, x.2.2.2.2.1, x.2.2.2.2.2.1, x.2.2.2.2.2.2.1, x.2.2.2.2.2.2.2.1, x.2.2.2.2.2.2.2.2.1, x.2.2.2.2.2.2.2.2.2.1, x.2.2.2.2.2.2.2.2.2.2.1, x.2.2.2.2.2.2.2.2.2.2.2.1, x.2.2.2.2.2.2.2.2.2.2.2.2.1, x.2.2.2.2.2.2.2.2.2.2.2.2.2.1, x.2.2.2.2.2.2.2.2.2.2.2.2.2.2.1, x.2.2.2.2.2.2.2.2.2.2.2.2.2.2.2) : gX) o z) else mM_lengthy_81 (mM_lengthy_8 (g + 1)) (some 188) bits S (Int32.ofNat i) (Int32.ofNat b) (some 188) (gH y ((x.1, gup (gup x.2.1 31 1) 32 (Int32.ofNat (pos + 1)), x.2.2.1, x.2.2.2.1, x.2.2.2.2.1, x.2.2.2.2.2.1, x.2.2.2.2.2.2.1, x.2.2.2.2.2.2.2.1, x.2.2.2.2.2.2.2.2.1, x.2.2.2.2.2.2.2.2.2.1, x.2.2.2.2.2.2.2.2.2.2.1, x.2.2.2.2.2.2.2.2.2.2.2.1, x.2.2.2.2.2.2.2.2.2.2.2.2.1, x.2.2.2.2.2.2.2.2.2.2.2.2.2.1, x.2.2.2.2.2.2.2.2.2.2.2.2.2.2.1, x.2.2.2.2.2.2.2.2.2.2.2.2.2.2.2) : gX) o z)) else mM_lengthy_81 (mM_lengthy_8 (g + 1)) (some 188) bits S (Int32.ofNat i) (Int32.ofNat b) (some 188) (gH y ((x.1, gup (gup x.2.1 31 1) 32 (Int32.ofNat (pos + 1)), x.2.2.1, x.2.2.2.1, x.2.2.2.2.1, x.2.2.2.2.2.1, x.2.2.2.2.2.2.1, x.2.2.2.2.2.2.2.1, x.2.2.2.2.2.2.2.2.1, x.2.2.2.2.2.2.2.2.2.1, x.2.2.2.2.2.2.2.2.2.2.1, x.2.2.2.2.2.2.2.2.2.2.2.1, x.2.2.2.2.2.2.2.2.2.2.2.2.1, x.2.2.2.2.2.2.2.2.2.2.2.2.2.1, x.2.2.2.2.2.2.2.2.2.2.2.2.2.2.1, x.2.2.2.2.2.2.2.2.2.2.2.2.2.2.2) : gX) o z)) := by
  have e31 : gup (gup x.2.1 31 1) 32 (Int32.ofNat (pos + 1)) 31 = 1 := rfl
  have d10 : ¬ (1 : Int32) = 0 := by decide
  rw [mM_lengthy_8]
  simp only [if_neg d10, hi_188_31, Option.bind_some, D.gg, ho_188, b4, e31]
theorem r_lnone {bits : Int32} {S : Int64} {i g : Nat} {y : gU} {o : Nat → Int64} {z : gx_H} (D : gD n0 f q m N pos u x) (b4 : ∀ y o z, mM_next (some 188) (gH y x o z) = some (0, gH y ((x.1, gup (gup x.2.1 31 0) 32 (Int32.ofNat (pos + 1)), x.2.2.1, x.2.2.2.1, x.2.2.2.2.1, x.2.2.2.2.2.1, x.2.2.2.2.2.2.1, x.2.2.2.2.2.2.2.1, x.2.2.2.2.2.2.2.2.1, x.2.2.2.2.2.2.2.2.2.1, x.2.2.2.2.2.2.2.2.2.2.1, x.2.2.2.2.2.2.2.2.2.2.2.1, x.2.2.2.2.2.2.2.2.2.2.2.2.1, x.2.2.2.2.2.2.2.2.2.2.2.2.2.1, x.2.2.2.2.2.2.2.2.2.2.2.2.2.2.1, x.2.2.2.2.2.2.2.2.2.2.2.2.2.2.2) : gX) o z)) : mM_lengthy_8 (g + 1 + 1) (some 188) bits S (Int32.ofNat i) 1 (gH y x o z) = some (gad S 0 i, gH y ((x.1, gup (gup (gup x.2.1 31 0) 32 (Int32.ofNat (pos + 1))) 31 0, x.2.2.1, x.2.2.2.1, x.2.2.2.2.1, x.2.2.2.2.2.1, x.2.2.2.2.2.2.1, x.2.2.2.2.2.2.2.1, x.2.2.2.2.2.2.2.2.1, x.2.2.2.2.2.2.2.2.2.1, x.2.2.2.2.2.2.2.2.2.2.1, x.2.2.2.2.2.2.2.2.2.2.2.1, x.2.2.2.2.2.2.2.2.2.2.2.2.1, x.2.2.2.2.2.2.2.2.2.2.2.2.2.1, x.2.2.2.2.2.2.2.2.2.2.2.2.2.2.1, x.2.2.2.2.2.2.2.2.2.2.2.2.2.2.2) : gX) o z) := by
  have e31 : gup (gup x.2.1 31 0) 32 (Int32.ofNat (pos + 1)) 31 = 0 := rfl
  have d10 : ¬ (1 : Int32) = 0 := by decide
  rw [mM_lengthy_8]
  simp only [if_neg d10, hi_188_31, Option.bind_some, D.gg, ho_188, b4, e31, if_true]
  exact r_l81 (b := 0)
/-- the class's turn at a last byte -/
theorem k_llast {S : Int64} {i b : Nat} {y : gX} {o : Nat → Int64} {z : gx_H} (hw : u.2.2.2.2.2.2.2.2.2.2.2.2.1 1 = 0) (hb : b < 128) (hi : i < 10) : (if 0 < Int32.ofNat i then (if Int32.ofNat b = 0 then cR_nextLengthy_57 (some 187) S (Int32.ofNat i) (Int32.ofNat b) 1 (gH u y o z) else cR_nextLengthy_56 (some 187) S (Int32.ofNat i) (Int32.ofNat b) (gH u y o z)) else cR_nextLengthy_56 (some 187) S (Int32.ofNat i) (Int32.ofNat b) (gH u y o z)) = some (S, gH ((u.1, u.2.1, u.2.2.1, u.2.2.2.1, u.2.2.2.2.1, u.2.2.2.2.2.1, u.2.2.2.2.2.2.1, u.2.2.2.2.2.2.2.1, u.2.2.2.2.2.2.2.2.1, u.2.2.2.2.2.2.2.2.2.1, u.2.2.2.2.2.2.2.2.2.2.1, u.2.2.2.2.2.2.2.2.2.2.2.1, gup u.2.2.2.2.2.2.2.2.2.2.2.2.1 1 (if (0 < i ∧ b = 0) ∨ (i = 9 ∧ 1 < b) then 1 else 0), u.2.2.2.2.2.2.2.2.2.2.2.2.2.1, u.2.2.2.2.2.2.2.2.2.2.2.2.2.2) : gU) y o z) := by
  have d10 : ¬ (1 : Int32) = 0 := by decide
  have e0 : (0 < Int32.ofNat i) ↔ 0 < i := n_lt (n := 0) (by omega) (by omega)
  have eb : (Int32.ofNat b = 0) ↔ b = 0 := n_eq (m := 0) (by omega) (by omega)
  have e9 : (Int32.ofNat i = 9) ↔ i = 9 := n_eq (m := 9) (by omega) (by omega)
  have e1 : (1 < Int32.ofNat b) ↔ 1 < b := n_lt (n := 1) (by omega) (by omega)
  simp only [e0, eb, cR_nextLengthy_57, cR_nextLengthy_56, cR_nextLengthy_76, cR_nextLengthy_77, e9, e1, hi_187_1, Option.bind_some, hw, if_true, hp_187_1, if_neg d10]
  by_cases c0 : 0 < i <;> by_cases cb : b = 0 <;> by_cases c9 : i = 9 <;> by_cases c1 : 1 < b <;> simp [c0, cb, c9, c1] <;> omega
theorem d_len64L : ∀ (r i g g2 : Nat) (S : Int64) (u : gU) (x : gX) (pos : Nat), i + r = 10 → gD n0 f q m N pos u x → gNx n0 f q m N pos u x (cR_nextLengthy_5 (g + r + 1) (some 187) (some 163) S (Int32.ofNat i)) (mM_lengthy_8 (g2 + r + 1 + 1) (some 188) 64 S (Int32.ofNat i) 1) (fun a b => a = b ∧ (1 ≤ i → 2 ^ (7 * i) ≤ a.toUInt64.toNat)) := by
  intro r
  induction r with
  | zero =>
    intro i g g2 S u x pos h D
    obtain rfl : i = 10 := by omega
    have cl : ∀ y o z, cR_nextLengthy_5 (g + 0 + 1) (some 187) (some 163) S (Int32.ofNat 10) (gH u y o z) = some (S, gH ((u.1, u.2.1, u.2.2.1, u.2.2.2.1, u.2.2.2.2.1, u.2.2.2.2.2.1, u.2.2.2.2.2.2.1, u.2.2.2.2.2.2.2.1, u.2.2.2.2.2.2.2.2.1, u.2.2.2.2.2.2.2.2.2.1, u.2.2.2.2.2.2.2.2.2.2.1, u.2.2.2.2.2.2.2.2.2.2.2.1, gup u.2.2.2.2.2.2.2.2.2.2.2.2.1 1 1, u.2.2.2.2.2.2.2.2.2.2.2.2.2.1, u.2.2.2.2.2.2.2.2.2.2.2.2.2.2) : gU) y o z) := by
      intro y o z
      rw [cR_nextLengthy_5, if_neg (show ¬ Int32.ofNat 10 < 10 by decide), hp_187_1]
      rfl
    have l := l_64 10 (by omega)
    rcases d_byte D with ⟨b, b1, _, b3, b4, b5⟩ | ⟨b3, b4⟩
    · refine Or.inr ⟨_, gad S b 10, _, gup (gup (gup x.2.1 31 1) 32 (Int32.ofNat (pos + 1))) 31 0, cl, fun y o z => ?_, rfl, rfl, ?_⟩
      · rw [r_lstep D b4, if_neg (fun q => by have := l.1.mp q; omega), r_l81]
      · exact fun i hi => by rw [gup_ne (by omega), gup_ne (by omega), gup_ne (by omega)]
    · exact Or.inr ⟨_, _, _, _, cl, fun y o z => r_lnone D b4, rfl, rfl, fun i hi => by rw [gup_ne (by omega), gup_ne (by omega), gup_ne (by omega)]⟩
  | succ r ih =>
    intro i g g2 S u x pos h D
    have l := l_64 i (by omega)
    have hi : i < 10 := by omega
    have i10 : Int32.ofNat i < 10 := n_ltl (m := 10) (by omega) (by omega) hi
    rcases d_byte D with ⟨b, b1, _, b3, b4, b5⟩ | ⟨b3, b4⟩
    · have ks3 : gKs x.2.1 (gup (gup x.2.1 31 1) 32 (Int32.ofNat (pos + 1))) := fun j hj => by rw [gup_ne (by omega), gup_ne (by omega)]
      have eb128 : (Int32.ofNat b < 128) ↔ b < 128 := n_lt (m := 128) (by omega) (by omega)
      by_cases c : b < 128
      · have cl : ∀ y o z, cR_nextLengthy_5 (g + (r + 1) + 1) (some 187) (some 163) S (Int32.ofNat i) (gH u y o z) = some (gad S b i, gH ((u.1, u.2.1, u.2.2.1, u.2.2.2.1, u.2.2.2.2.1, u.2.2.2.2.2.1, u.2.2.2.2.2.2.1, u.2.2.2.2.2.2.2.1, u.2.2.2.2.2.2.2.2.1, u.2.2.2.2.2.2.2.2.2.1, u.2.2.2.2.2.2.2.2.2.2.1, u.2.2.2.2.2.2.2.2.2.2.2.1, gup (gup u.2.2.2.2.2.2.2.2.2.2.2.2.1 0 (Int32.ofNat (pos + 1))) 1 (if (0 < i ∧ b = 0) ∨ (i = 9 ∧ 1 < b) then 1 else 0), u.2.2.2.2.2.2.2.2.2.2.2.2.2.1, u.2.2.2.2.2.2.2.2.2.2.2.2.2.2) : gU) y o z) := by
          intro y o z
          rw [cR_nextLengthy_5]
          simp only [if_pos i10, ho_187, Option.bind_some, b3, eb128, if_pos c]
          exact k_llast (u := ((u.1, u.2.1, u.2.2.1, u.2.2.2.1, u.2.2.2.2.1, u.2.2.2.2.2.1, u.2.2.2.2.2.2.1, u.2.2.2.2.2.2.2.1, u.2.2.2.2.2.2.2.2.1, u.2.2.2.2.2.2.2.2.2.1, u.2.2.2.2.2.2.2.2.2.2.1, u.2.2.2.2.2.2.2.2.2.2.2.1, gup u.2.2.2.2.2.2.2.2.2.2.2.2.1 0 (Int32.ofNat (pos + 1)), u.2.2.2.2.2.2.2.2.2.2.2.2.2.1, u.2.2.2.2.2.2.2.2.2.2.2.2.2.2) : gU)) D.wr c hi
        by_cases bad : (0 < i ∧ b = 0) ∨ (i = 9 ∧ 1 < b)
        · simp only [if_pos bad] at cl
          refine Or.inr ⟨_, gad S b i, _, gup (gup (gup x.2.1 31 1) 32 (Int32.ofNat (pos + 1))) 31 0, cl, fun y o z => ?_, rfl, rfl, fun j hj => by rw [gup_ne (by omega), gup_ne (by omega), gup_ne (by omega)]⟩
          rw [show g2 + (r + 1) + 1 + 1 = (g2 + r + 1) + 1 + 1 by omega, r_lstep D b4, if_pos (l.1.mpr hi)]
          by_cases c9 : i < 9
          · rw [if_pos (l.2.mpr c9), r_l67 b1 (by omega), if_pos (by omega)]
          · obtain rfl : i = 9 := by omega
            rw [if_neg (fun q => by have := l.2.mp q; omega)]
            by_cases c2 : b % 128 < 2
            · rw [if_pos ((l_29 b b1).mpr c2), r_l67 b1 (by omega), if_pos (by omega)]
            · rw [if_neg (fun q => c2 ((l_29 b b1).mp q)), r_l81]
        · simp only [if_neg bad] at cl
          refine Or.inl ⟨_, gad S b i, _, gup (gup (gup x.2.1 31 1) 32 (Int32.ofNat (pos + 1))) 31 1, pos + 1, cl, fun y o z => ?_, ⟨rfl, fun i1 => l_ge b1 (by omega) (by omega)⟩, ?_, fun j hj => by rw [gup_ne (by omega), gup_ne (by omega), gup_ne (by omega)], rfl, rfl⟩
          · rw [show g2 + (r + 1) + 1 + 1 = (g2 + r + 1) + 1 + 1 by omega, r_lstep D b4, if_pos (l.1.mpr hi)]
            by_cases c9 : i < 9
            · rw [if_pos (l.2.mpr c9), r_l67 b1 (by omega), if_neg (by omega), if_pos c]
            · obtain rfl : i = 9 := by omega
              rw [if_neg (fun q => by have := l.2.mp q; omega), if_pos ((l_29 b b1).mpr (by omega)), r_l67 b1 (by omega), if_neg (by omega), if_pos c]
          · exact gD_r D rfl rfl b5.hp rfl rfl rfl rfl rfl rfl (fun j hj => by rw [gup_ne (by omega), gup_ne (by omega), gup_ne (by omega)])
      · have cl : ∀ y o z, cR_nextLengthy_5 (g + (r + 1) + 1) (some 187) (some 163) S (Int32.ofNat i) (gH u y o z) = cR_nextLengthy_5 (g + r + 1) (some 187) (some 163) (gad S b i) (Int32.ofNat (i + 1)) (gH ((u.1, u.2.1, u.2.2.1, u.2.2.2.1, u.2.2.2.2.1, u.2.2.2.2.2.1, u.2.2.2.2.2.2.1, u.2.2.2.2.2.2.2.1, u.2.2.2.2.2.2.2.2.1, u.2.2.2.2.2.2.2.2.2.1, u.2.2.2.2.2.2.2.2.2.2.1, u.2.2.2.2.2.2.2.2.2.2.2.1, gup u.2.2.2.2.2.2.2.2.2.2.2.2.1 0 (Int32.ofNat (pos + 1)), u.2.2.2.2.2.2.2.2.2.2.2.2.2.1, u.2.2.2.2.2.2.2.2.2.2.2.2.2.2) : gU) y o z) := by
          intro y o z
          rw [show g + (r + 1) + 1 = (g + r + 1) + 1 by omega, cR_nextLengthy_5]
          simp only [if_pos i10, ho_187, Option.bind_some, b3, eb128, if_neg c, n_succ]
          rfl
        by_cases go : i < 9 ∨ b % 128 < 2
        · have rf : ∀ y o z, mM_lengthy_8 (g2 + (r + 1) + 1 + 1) (some 188) 64 S (Int32.ofNat i) 1 (gH y x o z) = mM_lengthy_8 (g2 + r + 1 + 1) (some 188) 64 (gad S b i) (Int32.ofNat (i + 1)) 1 (gH y ((x.1, gup (gup (gup x.2.1 31 1) 32 (Int32.ofNat (pos + 1))) 31 1, x.2.2.1, x.2.2.2.1, x.2.2.2.2.1, x.2.2.2.2.2.1, x.2.2.2.2.2.2.1, x.2.2.2.2.2.2.2.1, x.2.2.2.2.2.2.2.2.1, x.2.2.2.2.2.2.2.2.2.1, x.2.2.2.2.2.2.2.2.2.2.1, x.2.2.2.2.2.2.2.2.2.2.2.1, x.2.2.2.2.2.2.2.2.2.2.2.2.1, x.2.2.2.2.2.2.2.2.2.2.2.2.2.1, x.2.2.2.2.2.2.2.2.2.2.2.2.2.2.1, x.2.2.2.2.2.2.2.2.2.2.2.2.2.2.2) : gX) o z) := by
            intro y o z
            rw [show g2 + (r + 1) + 1 + 1 = (g2 + r + 1) + 1 + 1 by omega, r_lstep D b4, if_pos (l.1.mpr hi)]
            by_cases c9 : i < 9
            · rw [if_pos (l.2.mpr c9), r_l67 b1 (by omega), if_neg (by omega), if_neg c]
            · obtain rfl : i = 9 := by omega
              rw [if_neg (fun q => by have := l.2.mp q; omega), if_pos ((l_29 b b1).mpr (by omega)), r_l67 b1 (by omega), if_neg (by omega), if_neg c]
          have D2 : gD n0 f q m N (pos + 1) ((u.1, u.2.1, u.2.2.1, u.2.2.2.1, u.2.2.2.2.1, u.2.2.2.2.2.1, u.2.2.2.2.2.2.1, u.2.2.2.2.2.2.2.1, u.2.2.2.2.2.2.2.2.1, u.2.2.2.2.2.2.2.2.2.1, u.2.2.2.2.2.2.2.2.2.2.1, u.2.2.2.2.2.2.2.2.2.2.2.1, gup u.2.2.2.2.2.2.2.2.2.2.2.2.1 0 (Int32.ofNat (pos + 1)), u.2.2.2.2.2.2.2.2.2.2.2.2.2.1, u.2.2.2.2.2.2.2.2.2.2.2.2.2.2) : gU) ((x.1, gup (gup (gup x.2.1 31 1) 32 (Int32.ofNat (pos + 1))) 31 1, x.2.2.1, x.2.2.2.1, x.2.2.2.2.1, x.2.2.2.2.2.1, x.2.2.2.2.2.2.1, x.2.2.2.2.2.2.2.1, x.2.2.2.2.2.2.2.2.1, x.2.2.2.2.2.2.2.2.2.1, x.2.2.2.2.2.2.2.2.2.2.1, x.2.2.2.2.2.2.2.2.2.2.2.1, x.2.2.2.2.2.2.2.2.2.2.2.2.1, x.2.2.2.2.2.2.2.2.2.2.2.2.2.1, x.2.2.2.2.2.2.2.2.2.2.2.2.2.2.1, x.2.2.2.2.2.2.2.2.2.2.2.2.2.2.2) : gX) := gD_r D D.wr rfl b5.hp rfl rfl rfl rfl rfl rfl (fun j hj => by rw [gup_ne (by omega), gup_ne (by omega), gup_ne (by omega)])
          have ks4 : gKs x.2.1 (gup (gup (gup x.2.1 31 1) 32 (Int32.ofNat (pos + 1))) 31 1) := fun j hj => by rw [gup_ne (by omega), gup_ne (by omega), gup_ne (by omega)]
          rcases ih (i + 1) g g2 (gad S b i) _ _ (pos + 1) (by omega) D2 with ⟨a, b', r', s, pos', k1, k2, k3, k4, k5, k6, k7⟩ | ⟨a, b', r', s, k1, k2, k3, k4, k5⟩
          · refine Or.inl ⟨a, b', r', s, pos', fun y o z => (cl y o z).trans (k1 y o z), fun y o z => (rf y o z).trans (k2 y o z), ⟨k3.1, fun i1 => ?_⟩, k4, gKs_trans ks4 k5, k6, k7⟩
            exact Nat.le_trans (Nat.pow_le_pow_right (by omega) (by omega)) (k3.2 (by omega))
          · exact Or.inr ⟨a, b', r', s, fun y o z => (cl y o z).trans (k1 y o z), fun y o z => (rf y o z).trans (k2 y o z), k3, k4, gKs_trans ks4 k5⟩
        · obtain rfl : i = 9 := by omega
          obtain rfl : r = 0 := by omega
          refine Or.inr ⟨gad S b 9, gad S b 9, gup (gup u.2.2.2.2.2.2.2.2.2.2.2.2.1 0 (Int32.ofNat (pos + 1))) 1 1, gup (gup (gup x.2.1 31 1) 32 (Int32.ofNat (pos + 1))) 31 0, fun y o z => ?_, fun y o z => ?_, rfl, rfl, fun j hj => by rw [gup_ne (by omega), gup_ne (by omega), gup_ne (by omega)]⟩
          · rw [cl, cR_nextLengthy_5, if_neg (show ¬ Int32.ofNat (9 + 1) < 10 by decide), hp_187_1]
            rfl
          · rw [show g2 + (0 + 1) + 1 + 1 = (g2 + 0 + 1) + 1 + 1 by omega, r_lstep D b4, if_pos (l.1.mpr hi), if_neg (fun q => by have := l.2.mp q; omega), if_neg (fun q => go (Or.inr ((l_29 b b1).mp q))), r_l81]
    · refine Or.inr ⟨gad S 0 i, gad S 0 i, gup (gup u.2.2.2.2.2.2.2.2.2.2.2.2.1 1 1) 1 1, _, fun y o z => ?_, fun y o z => r_lnone (g := g2 + r + 1) D b4, rfl, rfl, fun j hj => by rw [gup_ne (by omega), gup_ne (by omega), gup_ne (by omega)]⟩
      rw [cR_nextLengthy_5]
      have w1 : gup u.2.2.2.2.2.2.2.2.2.2.2.2.1 1 1 1 = 1 := rfl
      simp only [if_pos i10, ho_187, Option.bind_some, b3, if_pos (show (0 : Int32) < 128 by decide), cR_nextLengthy_57, cR_nextLengthy_56, cR_nextLengthy_76, cR_nextLengthy_77, hi_187_1, w1, show ¬ (1 : Int32) = 0 by decide, if_false, hp_187_1, ite_self, if_true]
      rfl
end H
