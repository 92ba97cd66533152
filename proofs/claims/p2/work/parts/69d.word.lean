/-! read: numbers folded, words of bytes -/
def gzz (S : Int64) : Int64 := ((Int64.toUInt64 S >>> ((Int32.toInt64 (1 : Int32)).toUInt64 &&& Int64.toUInt64 63)).toInt64) ^^^ (-(S &&& (1 : Int64)))
theorem z_sh1 : ((Int32.toInt64 (1 : Int32)).toUInt64 &&& Int64.toUInt64 63) = 1 := by decide
theorem z_half (S : Int64) : ((Int64.toUInt64 S >>> 1).toInt64).toInt = ((S.toUInt64.toNat / 2 : Nat) : Int) := by
  have h1 : (S.toUInt64 >>> 1).toNat = S.toUInt64.toNat / 2 := by rw [UInt64.toNat_shiftRight, Nat.shiftRight_eq_div_pow]; rfl
  have h2 : S.toUInt64.toNat < 2 ^ 64 := S.toUInt64.toNat_lt
  show (S.toUInt64 >>> 1).toBitVec.toInt = _
  have h3 : (S.toUInt64 >>> 1).toBitVec.toNat = S.toUInt64.toNat / 2 := h1
  rw [BitVec.toInt_eq_toNat_of_lt (by rw [h3]; omega), h3]
theorem z_one (S : Int64) : S &&& 1 = 0 ∨ S &&& 1 = 1 := by
  have h : (S &&& 1).toUInt64.toNat < 2 := by
    rw [Int64.toUInt64_and, UInt64.toNat_and]
    show S.toUInt64.toNat &&& 1 < 2
    rw [show (1 : Nat) = 2 ^ 1 - 1 from rfl, Nat.and_two_pow_sub_one_eq_mod]
    omega
  have e := l_of (S &&& 1)
  generalize (S &&& 1).toUInt64.toNat = t at h e
  obtain rfl | rfl : t = 0 ∨ t = 1 := by omega
  · exact Or.inl e
  · exact Or.inr e
theorem z_val (S : Int64) : (gzz S).toInt = ((S.toUInt64.toNat / 2 : Nat) : Int) ∨ (gzz S).toInt = -((S.toUInt64.toNat / 2 : Nat) : Int) - 1 := by
  have h2 : S.toUInt64.toNat < 2 ^ 64 := S.toUInt64.toNat_lt
  unfold gzz
  rw [z_sh1]
  rcases z_one S with e | e
  · left
    rw [e, show -(0 : Int64) = 0 from rfl, Int64.xor_zero]
    exact z_half S
  · right
    rw [e, Int64.xor_neg_one, Int64.toInt_not, z_half S, Int.bmod_eq_of_le_mul_two (by omega) (by omega)]
theorem z_same (W : Int64) : (W = Int32.toInt64 (Int64.toInt32 W)) ↔ (-2147483648 ≤ W.toInt ∧ W.toInt < 2147483648) := by
  rw [← Int64.toInt_inj, Int32.toInt_toInt64, Int64.toInt_toInt32]
  constructor
  · intro h
    have h1 := Int.bmod_lt (x := W.toInt) (m := 2 ^ 32) (by decide)
    have h2 := Int.le_bmod (x := W.toInt) (m := 2 ^ 32) (by decide)
    rw [← h] at h1 h2
    omega
  · intro h
    rw [Int.bmod_eq_of_le_mul_two (by omega) (by omega)]
theorem z_fit {S : Int64} (h : S.toUInt64.toNat < 2 ^ 32) : gzz S = Int32.toInt64 (Int64.toInt32 (gzz S)) := by
  rw [z_same]
  rcases z_val S with e | e <;> omega
theorem z_big {S : Int64} (h : 2 ^ 32 ≤ S.toUInt64.toNat) : ¬ gzz S = Int32.toInt64 (Int64.toInt32 (gzz S)) := by
  rw [z_same]
  rcases z_val S with e | e <;> omega
theorem m_plain {S : Int64} : mM_plain S = some (gzz S) := rfl
section H
variable {n0 f q m N pos : Nat} {u : gU} {x : gX}
theorem d_len32 (D : gD n0 f q m N pos u x) : gN32 n0 f q m N u x (cR_nextLengthy (some 187) (some 163)) (mM_lengthy (some 188) 32) := by
  obtain ⟨G, hG⟩ : ∃ G, 1000000000000000 = G + (5 + 5) + 1 := ⟨999999999999989, rfl⟩
  obtain ⟨G2, hG2⟩ : ∃ G, 1000000000000000 = G + 5 + 1 + 1 := ⟨999999999999993, rfl⟩
  have e1 : ∀ h, cR_nextLengthy (some 187) (some 163) h = cR_nextLengthy_5 (G + (5 + 5) + 1) (some 187) (some 163) 0 (Int32.ofNat 0) h := fun h => by
    unfold cR_nextLengthy; rw [hG]; rfl
  have e2 : ∀ h, mM_lengthy (some 188) 32 h = mM_lengthy_8 (G2 + 5 + 1 + 1) (some 188) 32 0 (Int32.ofNat 0) 1 h := fun h => by
    unfold mM_lengthy; rw [hG2]; rfl
  rcases d_len32L 5 0 G G2 0 u x pos (by omega) (by decide) D with ⟨a, r, s, pos', k1, k2, k3, k4⟩ | ⟨a, b, r, s, k1, k2, k3⟩
  · exact Or.inl ⟨a, r, s, pos', fun y o z => (e1 _).trans (k1 y o z), fun y o z => (e2 _).trans (k2 y o z), k3, k4⟩
  · exact Or.inr ⟨a, b, r, s, fun y o z => (e1 _).trans (k1 y o z), fun y o z => (e2 _).trans (k2 y o z), k3⟩
/-- an int -/
theorem d_int (D : gD n0 f q m N pos u x) : gNx n0 f q m N pos u x (cR_nextInt (some 187) (some 163)) (mM_lengthy (some 188) 32) (fun a b => a = Int64.toInt32 (gzz b)) := by
  rcases d_len32 D with ⟨a, r, s, pos', k1, k2, k3, k4, k5, k6, k7⟩ | ⟨a, b, r, s, k1, k2, k3, k4, k5⟩
  · refine Or.inl ⟨Int64.toInt32 (gzz a), a, r, s, pos', fun y o z => ?_, k2, rfl, k4, k5, k6, k7⟩
    unfold cR_nextInt cR_nextZigzag
    simp only [ho_187, Option.bind_some, k1]
    exact if_pos (z_fit k3)
  · by_cases c : gzz a = Int32.toInt64 (Int64.toInt32 (gzz a))
    · have r1 : r 1 = 1 := by
        rcases k3 with h | h
        · exact h
        · exact absurd c (z_big h)
      refine Or.inr ⟨Int64.toInt32 (gzz a), b, r, s, fun y o z => ?_, k2, r1, k4, k5⟩
      unfold cR_nextInt cR_nextZigzag
      simp only [ho_187, Option.bind_some, k1]
      exact if_pos c
    · refine Or.inr ⟨Int64.toInt32 (gzz a), b, gup r 1 1, s, fun y o z => ?_, k2, rfl, k4, k5⟩
      unfold cR_nextInt cR_nextZigzag
      simp only [ho_187, Option.bind_some, k1]
      refine (if_neg c).trans ?_
      simp only [hp_187_1, Option.bind_some]
      rfl
/-- a long, folded -/
theorem d_zig (D : gD n0 f q m N pos u x) : gNx n0 f q m N pos u x (cR_nextZigzag (some 187) (some 163)) (mM_lengthy (some 188) 64) (fun a b => a = gzz b) := by
  rcases d_len64 D with ⟨a, b, r, s, pos', k1, k2, rfl, k4⟩ | ⟨a, b, r, s, k1, k2, k3⟩
  · refine Or.inl ⟨gzz a, a, r, s, pos', fun y o z => ?_, k2, rfl, k4⟩
    unfold cR_nextZigzag
    simp only [ho_187, Option.bind_some, k1]
    rfl
  · refine Or.inr ⟨gzz a, b, r, s, fun y o z => ?_, k2, k3⟩
    unfold cR_nextZigzag
    simp only [ho_187, Option.bind_some, k1]
    rfl
/-- where both sides stand in the bytes -/
def su (u : gU) (p : Nat) : gU := ((u.1, u.2.1, u.2.2.1, u.2.2.2.1, u.2.2.2.2.1, u.2.2.2.2.2.1, u.2.2.2.2.2.2.1, u.2.2.2.2.2.2.2.1, u.2.2.2.2.2.2.2.2.1, u.2.2.2.2.2.2.2.2.2.1, u.2.2.2.2.2.2.2.2.2.2.1, u.2.2.2.2.2.2.2.2.2.2.2.1, gup u.2.2.2.2.2.2.2.2.2.2.2.2.1 0 (Int32.ofNat p), u.2.2.2.2.2.2.2.2.2.2.2.2.2.1, u.2.2.2.2.2.2.2.2.2.2.2.2.2.2) : gU)
def sx (x : gX) (p : Nat) : gX := ((x.1, gup x.2.1 32 (Int32.ofNat p), x.2.2.1, x.2.2.2.1, x.2.2.2.2.1, x.2.2.2.2.2.1, x.2.2.2.2.2.2.1, x.2.2.2.2.2.2.2.1, x.2.2.2.2.2.2.2.2.1, x.2.2.2.2.2.2.2.2.2.1, x.2.2.2.2.2.2.2.2.2.2.1, x.2.2.2.2.2.2.2.2.2.2.2.1, x.2.2.2.2.2.2.2.2.2.2.2.2.1, x.2.2.2.2.2.2.2.2.2.2.2.2.2.1, x.2.2.2.2.2.2.2.2.2.2.2.2.2.2.1, x.2.2.2.2.2.2.2.2.2.2.2.2.2.2.2) : gX)
theorem gD_s {p : Nat} (D : gD n0 f q m N pos u x) (h : p ≤ m) : gD n0 f q m N p (su u p) (sx x p) :=
  gD_r D D.wr rfl h rfl rfl rfl D.gg rfl rfl (fun i hi => gup_ne (by omega))
theorem k_nx (D : gD n0 f q m N pos u x) (c : pos < m) : ∀ y o z, cR_nextByte (some 187) (some 163) (gH u y o z) = some (u.2.2.2.2.1 pos, gH (su u (pos + 1)) y o z) := by
  intro y o z
  have hm := D.hm
  have l : Int32.ofNat pos < Int32.ofNat m := n_ltl (by omega) (by omega) c
  simp only [cR_nextByte, hi_187_1, Option.bind_some, D.wr, if_true, hi_187_0, D.pu, hi_163_1, D.um, if_pos l, n_succ, hp_187_0, hr_163_0, gup_eq, n_pred, ha_164 (show pos < 300 by omega)]
  rfl
theorem k_nx0 (D : gD n0 f q m N pos u x) (c : ¬ pos < m) : ∀ y o z, cR_nextByte (some 187) (some 163) (gH u y o z) = some (0, gH ((u.1, u.2.1, u.2.2.1, u.2.2.2.1, u.2.2.2.2.1, u.2.2.2.2.2.1, u.2.2.2.2.2.2.1, u.2.2.2.2.2.2.2.1, u.2.2.2.2.2.2.2.2.1, u.2.2.2.2.2.2.2.2.2.1, u.2.2.2.2.2.2.2.2.2.2.1, u.2.2.2.2.2.2.2.2.2.2.2.1, gup u.2.2.2.2.2.2.2.2.2.2.2.2.1 1 1, u.2.2.2.2.2.2.2.2.2.2.2.2.2.1, u.2.2.2.2.2.2.2.2.2.2.2.2.2.2) : gU) y o z) := by
  intro y o z
  have hm := D.hm
  have hp := D.hp
  have l : ¬ Int32.ofNat pos < Int32.ofNat m := n_nltl (by omega) (by omega) (by omega)
  simp only [cR_nextByte, hi_187_1, Option.bind_some, D.wr, if_true, hi_187_0, D.pu, hi_163_1, D.um, if_neg l, hp_187_1]
theorem r_nx (D : gD n0 f q m N pos u x) (c : pos < m) : ∀ y o z, mM_next (some 188) (gH y x o z) = some (u.2.2.2.2.1 pos, gH y (sx x (pos + 1)) o z) := by
  intro y o z
  have hm := D.hm
  have d10 : ¬ (1 : Int32) = 0 := by decide
  have l : Int32.ofNat pos < Int32.ofNat m := n_ltl (by omega) (by omega) c
  simp only [mM_next, hi_188_31, Option.bind_some, D.gg, if_neg d10, hi_188_32, D.px, hi_188_15, D.xm, if_pos l, mM_next_24, or_true, not_true, if_false, hp_188_31, gup_same D.gg, hr_188_16, ha_200 (show pos < 300 by omega), D.bs pos c, mM_next_47, n_succ, hp_188_32]
  rfl
theorem r_nx0 (D : gD n0 f q m N pos u x) (c : ¬ pos < m) : ∀ y o z, mM_next (some 188) (gH y x o z) = some (0, gH y ((x.1, gup (gup x.2.1 31 0) 32 (Int32.ofNat (pos + 1)), x.2.2.1, x.2.2.2.1, x.2.2.2.2.1, x.2.2.2.2.2.1, x.2.2.2.2.2.2.1, x.2.2.2.2.2.2.2.1, x.2.2.2.2.2.2.2.2.1, x.2.2.2.2.2.2.2.2.2.1, x.2.2.2.2.2.2.2.2.2.2.1, x.2.2.2.2.2.2.2.2.2.2.2.1, x.2.2.2.2.2.2.2.2.2.2.2.2.1, x.2.2.2.2.2.2.2.2.2.2.2.2.2.1, x.2.2.2.2.2.2.2.2.2.2.2.2.2.2.1, x.2.2.2.2.2.2.2.2.2.2.2.2.2.2.2) : gX) o z) := by
  intro y o z
  have hm := D.hm
  have hp := D.hp
  have d10 : ¬ (1 : Int32) = 0 := by decide
  have l : ¬ Int32.ofNat pos < Int32.ofNat m := n_nltl (by omega) (by omega) (by omega)
  have e31 : gup x.2.1 31 0 31 = 0 := rfl
  have e32 : gup x.2.1 31 0 32 = Int32.ofNat pos := D.px
  simp only [mM_next, hi_188_31, Option.bind_some, D.gg, if_neg d10, hi_188_32, D.px, hi_188_15, D.xm, if_neg l, mM_next_23, mM_next_24, true_or, not_true, if_false, hp_188_31, e31, if_true, mM_next_47, e32, n_succ, hp_188_32]
/-- once refused, the reference's next byte is none -/
theorem r_nxA (h : x.2.1 31 = 0) : ∀ y o z, mM_next (some 188) (gH y x o z) = mM_next_23 (some 188) (some 188) (gH y x o z) := by
  intro y o z
  simp only [mM_next, hi_188_31, Option.bind_some, if_pos h]
theorem r_nxB : ∀ y o z, mM_next_23 (some 188) (some 188) (gH y x o z) = mM_next_47 (some 188) 0 (gH y ((x.1, gup x.2.1 31 0, x.2.2.1, x.2.2.2.1, x.2.2.2.2.1, x.2.2.2.2.2.1, x.2.2.2.2.2.2.1, x.2.2.2.2.2.2.2.1, x.2.2.2.2.2.2.2.2.1, x.2.2.2.2.2.2.2.2.2.1, x.2.2.2.2.2.2.2.2.2.2.1, x.2.2.2.2.2.2.2.2.2.2.2.1, x.2.2.2.2.2.2.2.2.2.2.2.2.1, x.2.2.2.2.2.2.2.2.2.2.2.2.2.1, x.2.2.2.2.2.2.2.2.2.2.2.2.2.2.1, x.2.2.2.2.2.2.2.2.2.2.2.2.2.2.2) : gX) o z) := by
  intro y o z
  have e31 : gup x.2.1 31 0 31 = 0 := rfl
  simp only [mM_next_23, mM_next_24, true_or, not_true, if_false, hp_188_31, Option.bind_some, hi_188_31, if_pos e31]
theorem r_nxC {w : Int32} (hw : x.2.1 32 + 1 = w) : ∀ y o z, mM_next_47 (some 188) 0 (gH y x o z) = some (0, gH y ((x.1, gup x.2.1 32 w, x.2.2.1, x.2.2.2.1, x.2.2.2.2.1, x.2.2.2.2.2.1, x.2.2.2.2.2.2.1, x.2.2.2.2.2.2.2.1, x.2.2.2.2.2.2.2.2.1, x.2.2.2.2.2.2.2.2.2.1, x.2.2.2.2.2.2.2.2.2.2.1, x.2.2.2.2.2.2.2.2.2.2.2.1, x.2.2.2.2.2.2.2.2.2.2.2.2.1, x.2.2.2.2.2.2.2.2.2.2.2.2.2.1, x.2.2.2.2.2.2.2.2.2.2.2.2.2.2.1, x.2.2.2.2.2.2.2.2.2.2.2.2.2.2.2) : gX) o z) := by
  intro y o z
  simp only [mM_next_47, hi_188_32, Option.bind_some, hw, hp_188_32]
theorem r_nxDead (h : x.2.1 31 = 0) : ∃ s, s 31 = 0 ∧ gKs x.2.1 s ∧ ∀ y o z, mM_next (some 188) (gH y x o z) = some (0, gH y ((x.1, s, x.2.2.1, x.2.2.2.1, x.2.2.2.2.1, x.2.2.2.2.2.1, x.2.2.2.2.2.2.1, x.2.2.2.2.2.2.2.1, x.2.2.2.2.2.2.2.2.1, x.2.2.2.2.2.2.2.2.2.1, x.2.2.2.2.2.2.2.2.2.2.1, x.2.2.2.2.2.2.2.2.2.2.2.1, x.2.2.2.2.2.2.2.2.2.2.2.2.1, x.2.2.2.2.2.2.2.2.2.2.2.2.2.1, x.2.2.2.2.2.2.2.2.2.2.2.2.2.2.1, x.2.2.2.2.2.2.2.2.2.2.2.2.2.2.2) : gX) o z) := by
  obtain ⟨w, hw⟩ : ∃ w, gup x.2.1 31 0 32 + 1 = w := ⟨_, rfl⟩
  refine ⟨gup (gup x.2.1 31 0) 32 w, rfl, fun i hi => by rw [gup_ne (by omega), gup_ne (by omega)], fun y o z => ?_⟩
  rw [r_nxA h, r_nxB]
  exact r_nxC (x := ((x.1, gup x.2.1 31 0, x.2.2.1, x.2.2.2.1, x.2.2.2.2.1, x.2.2.2.2.2.1, x.2.2.2.2.2.2.1, x.2.2.2.2.2.2.2.1, x.2.2.2.2.2.2.2.2.1, x.2.2.2.2.2.2.2.2.2.1, x.2.2.2.2.2.2.2.2.2.2.1, x.2.2.2.2.2.2.2.2.2.2.2.1, x.2.2.2.2.2.2.2.2.2.2.2.2.1, x.2.2.2.2.2.2.2.2.2.2.2.2.2.1, x.2.2.2.2.2.2.2.2.2.2.2.2.2.2.1, x.2.2.2.2.2.2.2.2.2.2.2.2.2.2.2) : gX)) hw y o z
theorem k_up (D : gD n0 f q m N pos u x) {t j : Nat} (c : pos < m) (hj : j ≤ t) (ht : t < 256) (e : u.2.2.2.2.1 pos = Int32.ofNat j) : ∀ y o z, cR_nextUpTo (some 187) (some 163) (Int32.ofNat t) (gH u y o z) = some (Int32.ofNat j, gH (su u (pos + 1)) y o z) := by
  intro y o z
  simp only [cR_nextUpTo, ho_187, Option.bind_some, k_nx D c, e, if_neg (show ¬ Int32.ofNat t < Int32.ofNat j from n_nltl (by omega) (by omega) hj)]
theorem k_up0 (D : gD n0 f q m N pos u x) {t : Nat} (ht : t < 256) (c : ¬ (pos < m ∧ ∃ j, j ≤ t ∧ u.2.2.2.2.1 pos = Int32.ofNat j)) : ∃ r, r 1 = 1 ∧ ∀ y o z, cR_nextUpTo (some 187) (some 163) (Int32.ofNat t) (gH u y o z) = some (0, gH ((u.1, u.2.1, u.2.2.1, u.2.2.2.1, u.2.2.2.2.1, u.2.2.2.2.2.1, u.2.2.2.2.2.2.1, u.2.2.2.2.2.2.2.1, u.2.2.2.2.2.2.2.2.1, u.2.2.2.2.2.2.2.2.2.1, u.2.2.2.2.2.2.2.2.2.2.1, u.2.2.2.2.2.2.2.2.2.2.2.1, r, u.2.2.2.2.2.2.2.2.2.2.2.2.2.1, u.2.2.2.2.2.2.2.2.2.2.2.2.2.2) : gU) y o z) := by
  by_cases p : pos < m
  · obtain ⟨b, b1, b2⟩ := D.b8 pos p
    have l : Int32.ofNat t < Int32.ofNat b := n_ltl (by omega) (by omega) (by
      have : ¬ b ≤ t := fun q => c ⟨p, b, q, b2⟩
      omega)
    refine ⟨gup (gup u.2.2.2.2.2.2.2.2.2.2.2.2.1 0 (Int32.ofNat (pos + 1))) 1 1, rfl, fun y o z => ?_⟩
    simp only [cR_nextUpTo, ho_187, Option.bind_some, k_nx D p, b2, if_pos l, hp_187_1]
    rfl
  · refine ⟨gup u.2.2.2.2.2.2.2.2.2.2.2.2.1 1 1, rfl, fun y o z => ?_⟩
    simp only [cR_nextUpTo, ho_187, Option.bind_some, k_nx0 D p, if_neg (show ¬ Int32.ofNat t < 0 from n_nn (by omega))]
theorem r_up (D : gD n0 f q m N pos u x) {t j : Nat} (c : pos < m) (hj : j ≤ t) (ht : t < 256) (e : u.2.2.2.2.1 pos = Int32.ofNat j) : ∀ y o z, mM_nextUpTo (some 188) (Int32.ofNat t) (gH y x o z) = some (Int32.ofNat j, gH y (sx x (pos + 1)) o z) := by
  intro y o z
  have d10 : ¬ (1 : Int32) = 0 := by decide
  have e31 : (sx x (pos + 1)).2.1 31 = 1 := D.gg
  simp only [mM_nextUpTo, ho_188, Option.bind_some, r_nx D c, e, hi_188_31, e31, if_neg d10, if_neg (show ¬ Int32.ofNat t < Int32.ofNat j from n_nltl (by omega) (by omega) hj), mM_nextUpTo_23, or_true, not_true, if_false, hp_188_31, gup_same e31]
theorem r_up0 (D : gD n0 f q m N pos u x) {t : Nat} (ht : t < 256) (c : ¬ (pos < m ∧ ∃ j, j ≤ t ∧ u.2.2.2.2.1 pos = Int32.ofNat j)) : ∃ s, s 31 = 0 ∧ gKs x.2.1 s ∧ ∀ y o z, mM_nextUpTo (some 188) (Int32.ofNat t) (gH y x o z) = some (0, gH y ((x.1, s, x.2.2.1, x.2.2.2.1, x.2.2.2.2.1, x.2.2.2.2.2.1, x.2.2.2.2.2.2.1, x.2.2.2.2.2.2.2.1, x.2.2.2.2.2.2.2.2.1, x.2.2.2.2.2.2.2.2.2.1, x.2.2.2.2.2.2.2.2.2.2.1, x.2.2.2.2.2.2.2.2.2.2.2.1, x.2.2.2.2.2.2.2.2.2.2.2.2.1, x.2.2.2.2.2.2.2.2.2.2.2.2.2.1, x.2.2.2.2.2.2.2.2.2.2.2.2.2.2.1, x.2.2.2.2.2.2.2.2.2.2.2.2.2.2.2) : gX) o z) := by
  have d10 : ¬ (1 : Int32) = 0 := by decide
  by_cases p : pos < m
  · obtain ⟨b, b1, b2⟩ := D.b8 pos p
    have l : Int32.ofNat t < Int32.ofNat b := n_ltl (by omega) (by omega) (by
      have : ¬ b ≤ t := fun q => c ⟨p, b, q, b2⟩
      omega)
    have e31 : (sx x (pos + 1)).2.1 31 = 1 := D.gg
    have e31' : gup (sx x (pos + 1)).2.1 31 0 31 = 0 := rfl
    refine ⟨gup (sx x (pos + 1)).2.1 31 0, rfl, fun i hi => ?_, fun y o z => ?_⟩
    · rw [gup_ne (by omega)]; exact gup_ne (by omega)
    · simp only [mM_nextUpTo, ho_188, Option.bind_some, r_nx D p, b2, hi_188_31, e31, if_neg d10, if_pos l, mM_nextUpTo_22, mM_nextUpTo_23, true_or, not_true, if_false, hp_188_31, e31', if_true]
      rfl
  · have e31 : gup (gup x.2.1 31 0) 32 (Int32.ofNat (pos + 1)) 31 = 0 := rfl
    refine ⟨gup (gup x.2.1 31 0) 32 (Int32.ofNat (pos + 1)), rfl, fun i hi => ?_, fun y o z => ?_⟩
    · rw [gup_ne (by omega), gup_ne (by omega)]
    · simp only [mM_nextUpTo, ho_188, Option.bind_some, r_nx0 D p, hi_188_31, e31, if_true, mM_nextUpTo_22, mM_nextUpTo_23, true_or, not_true, if_false, hp_188_31, gup_same e31]
/-- a word of bytes, as the class puts it together -/
def gwd (b : Nat → Int32) : Nat → Nat → Nat → Int64 → Int64
  | 0, _, _, S => S
  | r + 1, i, p, S => gwd b r (i + 1) (p + 1) (S ||| ((Int32.toInt64 (b p)) <<< (Int32.toInt64 ((8 : Int32) * Int32.ofNat i) &&& 63)))
theorem k_wordDead {l : Nat} (hl : l ≤ 8) (h : u.2.2.2.2.2.2.2.2.2.2.2.2.1 1 = 1) : ∀ (r i g : Nat) (S : Int64), i + r = l → ∃ S', ∀ y o z, cR_nextWord_5 (g + r + 1) (some 187) (some 163) (Int32.ofNat l) S (Int32.ofNat i) (gH u y o z) = some (S', gH u y o z) := by
  intro r
  induction r with
  | zero =>
    intro i g S e
    exact ⟨S, fun y o z => by rw [cR_nextWord_5, if_neg (n_nltl (by omega) (by omega) (by omega))]⟩
  | succ r ih =>
    intro i g S e
    obtain ⟨S', h'⟩ := ih (i + 1) g (S ||| ((Int32.toInt64 0) <<< (Int32.toInt64 ((8 : Int32) * Int32.ofNat i) &&& 63))) (by omega)
    refine ⟨S', fun y o z => ?_⟩
    rw [show g + (r + 1) + 1 = (g + r + 1) + 1 by omega, cR_nextWord_5, if_pos (n_ltl (by omega) (by omega) (by omega))]
    simp only [ho_187, Option.bind_some, k_byteDead h, n_succ]
    exact h' y o z
theorem su_su {p p' : Nat} : su (su u p) p' = su u p' := by
  unfold su
  show (((u.1, u.2.1, u.2.2.1, u.2.2.2.1, u.2.2.2.2.1, u.2.2.2.2.2.1, u.2.2.2.2.2.2.1, u.2.2.2.2.2.2.2.1, u.2.2.2.2.2.2.2.2.1, u.2.2.2.2.2.2.2.2.2.1, u.2.2.2.2.2.2.2.2.2.2.1, u.2.2.2.2.2.2.2.2.2.2.2.1, gup (gup u.2.2.2.2.2.2.2.2.2.2.2.2.1 0 (Int32.ofNat p)) 0 (Int32.ofNat p'), u.2.2.2.2.2.2.2.2.2.2.2.2.2.1, u.2.2.2.2.2.2.2.2.2.2.2.2.2.2) : gU) : gU) = _
  rw [gup_gup]
theorem sx_sx {p p' : Nat} : sx (sx x p) p' = sx x p' := by
  unfold sx
  show (((x.1, gup (gup x.2.1 32 (Int32.ofNat p)) 32 (Int32.ofNat p'), x.2.2.1, x.2.2.2.1, x.2.2.2.2.1, x.2.2.2.2.2.1, x.2.2.2.2.2.2.1, x.2.2.2.2.2.2.2.1, x.2.2.2.2.2.2.2.2.1, x.2.2.2.2.2.2.2.2.2.1, x.2.2.2.2.2.2.2.2.2.2.1, x.2.2.2.2.2.2.2.2.2.2.2.1, x.2.2.2.2.2.2.2.2.2.2.2.2.1, x.2.2.2.2.2.2.2.2.2.2.2.2.2.1, x.2.2.2.2.2.2.2.2.2.2.2.2.2.2.1, x.2.2.2.2.2.2.2.2.2.2.2.2.2.2.2) : gX) : gX) = _
  rw [gup_gup]
theorem k_wordL {l : Nat} (hl : l ≤ 8) : ∀ (r i g : Nat) (S : Int64) (u : gU) (x : gX) (pos : Nat), i + r = l → gD n0 f q m N pos u x → pos + r ≤ m → ∀ y o z, cR_nextWord_5 (g + r + 1) (some 187) (some 163) (Int32.ofNat l) S (Int32.ofNat i) (gH u y o z) = some (gwd u.2.2.2.2.1 r i pos S, gH (su u (pos + r)) y o z) := by
  intro r
  induction r with
  | zero =>
    intro i g S u x pos e D c y o z
    rw [cR_nextWord_5, if_neg (n_nltl (by omega) (by omega) (by omega))]
    have : su u (pos + 0) = u := by
      unfold su
      rw [Nat.add_zero, gup_same D.pu]
    rw [this]; rfl
  | succ r ih =>
    intro i g S u x pos e D c y o z
    rw [show g + (r + 1) + 1 = (g + r + 1) + 1 by omega, cR_nextWord_5, if_pos (n_ltl (by omega) (by omega) (by omega))]
    simp only [ho_187, Option.bind_some, k_nx D (show pos < m by omega), n_succ]
    rw [ih (i + 1) g _ (su u (pos + 1)) (sx x (pos + 1)) (pos + 1) (by omega) (gD_s D (by omega)) (by omega), su_su, show pos + 1 + r = pos + (r + 1) by omega]
    rfl
theorem k_wordL0 {l : Nat} (hl : l ≤ 8) : ∀ (r i g : Nat) (S : Int64) (u : gU) (x : gX) (pos : Nat), i + r = l → gD n0 f q m N pos u x → ¬ pos + r ≤ m → ∃ S' r', r' 1 = 1 ∧ ∀ y o z, cR_nextWord_5 (g + r + 1) (some 187) (some 163) (Int32.ofNat l) S (Int32.ofNat i) (gH u y o z) = some (S', gH ((u.1, u.2.1, u.2.2.1, u.2.2.2.1, u.2.2.2.2.1, u.2.2.2.2.2.1, u.2.2.2.2.2.2.1, u.2.2.2.2.2.2.2.1, u.2.2.2.2.2.2.2.2.1, u.2.2.2.2.2.2.2.2.2.1, u.2.2.2.2.2.2.2.2.2.2.1, u.2.2.2.2.2.2.2.2.2.2.2.1, r', u.2.2.2.2.2.2.2.2.2.2.2.2.2.1, u.2.2.2.2.2.2.2.2.2.2.2.2.2.2) : gU) y o z) := by
  intro r
  induction r with
  | zero =>
    intro i g S u x pos e D c
    exact absurd D.hp (by omega)
  | succ r ih =>
    intro i g S u x pos e D c
    by_cases p : pos < m
    · obtain ⟨S', r', h1, h2⟩ := ih (i + 1) g (S ||| ((Int32.toInt64 (u.2.2.2.2.1 pos)) <<< (Int32.toInt64 ((8 : Int32) * Int32.ofNat i) &&& 63))) (su u (pos + 1)) (sx x (pos + 1)) (pos + 1) (by omega) (gD_s D (by omega)) (by omega)
      refine ⟨S', r', h1, fun y o z => ?_⟩
      rw [show g + (r + 1) + 1 = (g + r + 1) + 1 by omega, cR_nextWord_5, if_pos (n_ltl (by omega) (by omega) (by omega))]
      simp only [ho_187, Option.bind_some, k_nx D p, n_succ]
      exact h2 y o z
    · obtain ⟨S', h'⟩ := k_wordDead (u := ((u.1, u.2.1, u.2.2.1, u.2.2.2.1, u.2.2.2.2.1, u.2.2.2.2.2.1, u.2.2.2.2.2.2.1, u.2.2.2.2.2.2.2.1, u.2.2.2.2.2.2.2.2.1, u.2.2.2.2.2.2.2.2.2.1, u.2.2.2.2.2.2.2.2.2.2.1, u.2.2.2.2.2.2.2.2.2.2.2.1, gup u.2.2.2.2.2.2.2.2.2.2.2.2.1 1 1, u.2.2.2.2.2.2.2.2.2.2.2.2.2.1, u.2.2.2.2.2.2.2.2.2.2.2.2.2.2) : gU)) hl rfl r (i + 1) g (S ||| ((Int32.toInt64 0) <<< (Int32.toInt64 ((8 : Int32) * Int32.ofNat i) &&& 63))) (by omega)
      refine ⟨S', gup u.2.2.2.2.2.2.2.2.2.2.2.2.1 1 1, rfl, fun y o z => ?_⟩
      rw [show g + (r + 1) + 1 = (g + r + 1) + 1 by omega, cR_nextWord_5, if_pos (n_ltl (by omega) (by omega) (by omega))]
      simp only [ho_187, Option.bind_some, k_nx0 D p, n_succ]
      exact h' y o z
theorem k_word {l : Nat} (hl : l ≤ 8) (D : gD n0 f q m N pos u x) (c : pos + l ≤ m) : ∀ y o z, cR_nextWord (some 187) (some 163) (Int32.ofNat l) (gH u y o z) = some (gwd u.2.2.2.2.1 l 0 pos 0, gH (su u (pos + l)) y o z) := by
  intro y o z
  obtain ⟨G, hG⟩ : ∃ G, 1000000000000000 = G + l + 1 := ⟨999999999999999 - l, by omega⟩
  unfold cR_nextWord
  rw [hG]
  exact k_wordL hl l 0 G 0 u x pos (by omega) D c y o z
theorem k_word0 {l : Nat} (hl : l ≤ 8) (D : gD n0 f q m N pos u x) (c : ¬ pos + l ≤ m) : ∃ S' r', r' 1 = 1 ∧ ∀ y o z, cR_nextWord (some 187) (some 163) (Int32.ofNat l) (gH u y o z) = some (S', gH ((u.1, u.2.1, u.2.2.1, u.2.2.2.1, u.2.2.2.2.1, u.2.2.2.2.2.1, u.2.2.2.2.2.2.1, u.2.2.2.2.2.2.2.1, u.2.2.2.2.2.2.2.2.1, u.2.2.2.2.2.2.2.2.2.1, u.2.2.2.2.2.2.2.2.2.2.1, u.2.2.2.2.2.2.2.2.2.2.2.1, r', u.2.2.2.2.2.2.2.2.2.2.2.2.2.1, u.2.2.2.2.2.2.2.2.2.2.2.2.2.2) : gU) y o z) := by
  obtain ⟨G, hG⟩ : ∃ G, 1000000000000000 = G + l + 1 := ⟨999999999999999 - l, by omega⟩
  obtain ⟨S', r', h1, h2⟩ := k_wordL0 hl l 0 G 0 u x pos (by omega) D c
  refine ⟨S', r', h1, fun y o z => ?_⟩
  unfold cR_nextWord
  rw [hG]
  exact h2 y o z
theorem k_wordD {l : Nat} (hl : l ≤ 8) (h : u.2.2.2.2.2.2.2.2.2.2.2.2.1 1 = 1) : ∃ S', ∀ y o z, cR_nextWord (some 187) (some 163) (Int32.ofNat l) (gH u y o z) = some (S', gH u y o z) := by
  obtain ⟨G, hG⟩ : ∃ G, 1000000000000000 = G + l + 1 := ⟨999999999999999 - l, by omega⟩
  obtain ⟨S', h2⟩ := k_wordDead hl h l 0 G 0 (by omega)
  refine ⟨S', fun y o z => ?_⟩
  unfold cR_nextWord
  rw [hG]
  exact h2 y o z
end H
/-! the bytes of a word -/
theorem b_sh : ∀ i : Nat, i < 8 → ((Int32.toInt64 ((8 : Int32) * Int32.ofNat i) &&& 63).toBitVec.smod 64).toNat = 8 * i := by decide +kernel
theorem b_shr : ∀ i : Nat, i < 8 → (Int32.toInt64 ((8 : Int32) * Int32.ofNat i)).toUInt64 &&& Int64.toUInt64 63 = UInt64.ofNat (8 * i) := by decide +kernel
theorem b_sh32 : ∀ i : Nat, i < 4 → ((((8 : Int32) * Int32.ofNat i) &&& 31).toBitVec.smod 32).toNat = 8 * i := by decide +kernel
theorem b_small {t s : Nat} (h : t < 256) (hs : 8 ≤ s) : (BitVec.ofNat 32 t).getLsbD s = false := by
  rw [BitVec.getLsbD_ofNat]
  have : t.testBit s = false := Nat.testBit_lt_two_pow (Nat.lt_of_lt_of_le h (Nat.pow_le_pow_right (n := 2) (by omega) hs))
  simp [this]
/-- the bits of what one byte adds -/
theorem b_add {t i s : Nat} (ht : t < 256) (hi : i < 8) (hs : s < 64) : ((Int32.toInt64 (Int32.ofNat t)) <<< (Int32.toInt64 ((8 : Int32) * Int32.ofNat i) &&& 63)).toBitVec.getLsbD s = (decide (8 * i ≤ s) && (BitVec.ofNat 32 t).getLsbD (s - 8 * i)) := by
  have h1 : Int32.toInt64 (Int32.ofNat t) = Int64.ofNat t := Int32.toInt64_ofNat' (by rw [Int32.toInt_maxValue]; omega)
  rw [h1]
  show ((Int64.ofNat t).toBitVec <<< ((Int32.toInt64 ((8 : Int32) * Int32.ofNat i) &&& 63).toBitVec.smod 64)).getLsbD s = _
  rw [BitVec.shiftLeft_eq', BitVec.getLsbD_shiftLeft, b_sh i hi, Int64.toBitVec_ofNat']
  by_cases c : 8 * i ≤ s
  · rw [BitVec.getLsbD_ofNat, BitVec.getLsbD_ofNat]
    by_cases c2 : s - 8 * i < 32
    · simp [hs, c, c2, show s - 8 * i < 64 by omega, show ¬ s < 8 * i by omega]
    · have : t.testBit (s - 8 * i) = false := Nat.testBit_lt_two_pow (Nat.lt_of_lt_of_le ht (Nat.pow_le_pow_right (n := 2) (i := 8) (by omega) (by omega)))
      simp [this]
  · simp [c, show s < 8 * i by omega]
theorem b_byte {w : Int64} {j s : Nat} (hj : j < 8) (hs : s < 32) : (gt_w w j).toBitVec.getLsbD s = (decide (s < 8) && w.toBitVec.getLsbD (8 * j + s)) := by
  unfold gt_w
  rw [b_shr j hj]
  have e : (UInt64.ofNat (8 * j)).toBitVec % 64 = BitVec.ofNat 64 (8 * j) := by
    apply BitVec.eq_of_toNat_eq
    rw [BitVec.toNat_umod]
    show (UInt64.ofNat (8 * j)).toNat % 64 = _
    rw [UInt64.toNat_ofNat_of_lt' (by show 8 * j < 2 ^ 64; omega), BitVec.toNat_ofNat]
    omega
  show ((BitVec.signExtend 32 (w.toUInt64 >>> UInt64.ofNat (8 * j)).toBitVec) &&& 255#32).getLsbD s = _
  rw [BitVec.getLsbD_and, gt_bv255 s hs, UInt64.toBitVec_shiftRight, e, BitVec.getLsbD_signExtend]
  by_cases c : s < 8
  · have : s < 64 := by omega
    simp [c, hs, this, BitVec.getLsbD_ushiftRight, BitVec.ushiftRight_eq', Nat.mod_eq_of_lt (show 8 * j < 2 ^ 64 by omega)]
  · simp [c]
