theorem l_32 : ∀ i : Nat, i < 6 → ((0 < (32 : Int32) - (7 : Int32) * Int32.ofNat i) ↔ i < 5) ∧ ((6 < (32 : Int32) - (7 : Int32) * Int32.ofNat i) ↔ i < 4) := by decide +kernel
theorem l_416 : ∀ b : Nat, b < 256 → ((Int32.ofNat b &&& 127 < (1 : Int32) <<< (((32 : Int32) - (7 : Int32) * Int32.ofNat 4) &&& 31)) ↔ b % 128 < 16) := by decide +kernel
theorem l_lt {S : Int64} {b i : Nat} (hb : b < 256) (hi : i < 4) (hS : S.toUInt64.toNat < 2 ^ (7 * i)) : (gad S b i).toUInt64.toNat < 2 ^ (7 * (i + 1)) := by
  rw [l_gad hb (by omega)]
  have h7 : b % 128 * 2 ^ (7 * i) < 2 ^ (7 * (i + 1)) := by
    have : b % 128 * 2 ^ (7 * i) < 2 ^ 7 * 2 ^ (7 * i) := Nat.mul_lt_mul_of_pos_right (by omega) (Nat.pow_pos (by omega))
    rw [← Nat.pow_add] at this
    rw [show 7 * (i + 1) = 7 + 7 * i by omega]
    exact this
  refine Nat.or_lt_two_pow (Nat.lt_of_lt_of_le hS (Nat.pow_le_pow_right (by omega) (by omega))) (Nat.lt_of_le_of_lt (Nat.mod_le _ _) h7)
theorem l_lt4 {S : Int64} {b : Nat} (hb : b < 256) (h16 : b % 128 < 16) (hS : S.toUInt64.toNat < 2 ^ 28) : (gad S b 4).toUInt64.toNat < 2 ^ 32 := by
  rw [l_gad hb (by omega)]
  refine Nat.or_lt_two_pow (Nat.lt_of_lt_of_le hS (Nat.pow_le_pow_right (by omega) (by omega))) (Nat.lt_of_le_of_lt (Nat.mod_le _ _) ?_)
  have : (2 : Nat) ^ (7 * 4) = 268435456 := by decide
  rw [this]; omega
theorem l_ge4 {S : Int64} {b : Nat} (hb : b < 256) (h16 : ¬ b % 128 < 16) : 2 ^ 32 ≤ (gad S b 4).toUInt64.toNat := by
  rw [l_gad hb (by omega)]
  refine Nat.le_trans ?_ Nat.right_le_or
  have e : (2 : Nat) ^ (7 * 4) = 268435456 := by decide
  rw [e, Nat.mod_eq_of_lt (by omega)]
  omega
section H
variable {n0 f q m N pos : Nat} {u : gU} {x : gX}
theorem d_len64 (D : gD n0 f q m N pos u x) : gNx n0 f q m N pos u x (cR_nextLengthy (some 187) (some 163)) (mM_lengthy (some 188) 64) (fun a b => a = b) := by
  obtain ⟨G, hG⟩ : ∃ G, 1000000000000000 = G + 10 + 1 := ⟨999999999999989, rfl⟩
  obtain ⟨G2, hG2⟩ : ∃ G, 1000000000000000 = G + 10 + 1 + 1 := ⟨999999999999988, rfl⟩
  have e1 : ∀ h, cR_nextLengthy (some 187) (some 163) h = cR_nextLengthy_5 (G + 10 + 1) (some 187) (some 163) 0 (Int32.ofNat 0) h := fun h => by
    unfold cR_nextLengthy; rw [hG]; rfl
  have e2 : ∀ h, mM_lengthy (some 188) 64 h = mM_lengthy_8 (G2 + 10 + 1 + 1) (some 188) 64 0 (Int32.ofNat 0) 1 h := fun h => by
    unfold mM_lengthy; rw [hG2]; rfl
  rcases d_len64L 10 0 G G2 0 u x pos (by omega) D with ⟨a, b, r, s, pos', k1, k2, k3, k4⟩ | ⟨a, b, r, s, k1, k2, k3⟩
  · exact Or.inl ⟨a, b, r, s, pos', fun y o z => (e1 _).trans (k1 y o z), fun y o z => (e2 _).trans (k2 y o z), k3.1, k4⟩
  · exact Or.inr ⟨a, b, r, s, fun y o z => (e1 _).trans (k1 y o z), fun y o z => (e2 _).trans (k2 y o z), k3⟩
/-- a number of 32 bits: both have it, or the reference refuses and the class does or has one too large -/
def gN32 (n0 f q m N : Nat) (u : gU) (x : gX) (A M : gx_H → Option (Int64 × gx_H)) : Prop := (∃ a r s pos', (∀ y o z, A (gH u y o z) = some (a, gH ((u.1, u.2.1, u.2.2.1, u.2.2.2.1, u.2.2.2.2.1, u.2.2.2.2.2.1, u.2.2.2.2.2.2.1, u.2.2.2.2.2.2.2.1, u.2.2.2.2.2.2.2.2.1, u.2.2.2.2.2.2.2.2.2.1, u.2.2.2.2.2.2.2.2.2.2.1, u.2.2.2.2.2.2.2.2.2.2.2.1, r, u.2.2.2.2.2.2.2.2.2.2.2.2.2.1, u.2.2.2.2.2.2.2.2.2.2.2.2.2.2) : gU) y o z)) ∧ (∀ y o z, M (gH y x o z) = some (a, gH y ((x.1, s, x.2.2.1, x.2.2.2.1, x.2.2.2.2.1, x.2.2.2.2.2.1, x.2.2.2.2.2.2.1, x.2.2.2.2.2.2.2.1, x.2.2.2.2.2.2.2.2.1, x.2.2.2.2.2.2.2.2.2.1, x.2.2.2.2.2.2.2.2.2.2.1, x.2.2.2.2.2.2.2.2.2.2.2.1, x.2.2.2.2.2.2.2.2.2.2.2.2.1, x.2.2.2.2.2.2.2.2.2.2.2.2.2.1, x.2.2.2.2.2.2.2.2.2.2.2.2.2.2.1, x.2.2.2.2.2.2.2.2.2.2.2.2.2.2.2) : gX) o z)) ∧ a.toUInt64.toNat < 2 ^ 32 ∧ gD n0 f q m N pos' ((u.1, u.2.1, u.2.2.1, u.2.2.2.1, u.2.2.2.2.1, u.2.2.2.2.2.1, u.2.2.2.2.2.2.1, u.2.2.2.2.2.2.2.1, u.2.2.2.2.2.2.2.2.1, u.2.2.2.2.2.2.2.2.2.1, u.2.2.2.2.2.2.2.2.2.2.1, u.2.2.2.2.2.2.2.2.2.2.2.1, r, u.2.2.2.2.2.2.2.2.2.2.2.2.2.1, u.2.2.2.2.2.2.2.2.2.2.2.2.2.2) : gU) ((x.1, s, x.2.2.1, x.2.2.2.1, x.2.2.2.2.1, x.2.2.2.2.2.1, x.2.2.2.2.2.2.1, x.2.2.2.2.2.2.2.1, x.2.2.2.2.2.2.2.2.1, x.2.2.2.2.2.2.2.2.2.1, x.2.2.2.2.2.2.2.2.2.2.1, x.2.2.2.2.2.2.2.2.2.2.2.1, x.2.2.2.2.2.2.2.2.2.2.2.2.1, x.2.2.2.2.2.2.2.2.2.2.2.2.2.1, x.2.2.2.2.2.2.2.2.2.2.2.2.2.2.1, x.2.2.2.2.2.2.2.2.2.2.2.2.2.2.2) : gX) ∧ gKs x.2.1 s ∧ r 2 = u.2.2.2.2.2.2.2.2.2.2.2.2.1 2 ∧ r 3 = u.2.2.2.2.2.2.2.2.2.2.2.2.1 3) ∨ ∃ a b r s, (∀ y o z, A (gH u y o z) = some (a, gH ((u.1, u.2.1, u.2.2.1, u.2.2.2.1, u.2.2.2.2.1, u.2.2.2.2.2.1, u.2.2.2.2.2.2.1, u.2.2.2.2.2.2.2.1, u.2.2.2.2.2.2.2.2.1, u.2.2.2.2.2.2.2.2.2.1, u.2.2.2.2.2.2.2.2.2.2.1, u.2.2.2.2.2.2.2.2.2.2.2.1, r, u.2.2.2.2.2.2.2.2.2.2.2.2.2.1, u.2.2.2.2.2.2.2.2.2.2.2.2.2.2) : gU) y o z)) ∧ (∀ y o z, M (gH y x o z) = some (b, gH y ((x.1, s, x.2.2.1, x.2.2.2.1, x.2.2.2.2.1, x.2.2.2.2.2.1, x.2.2.2.2.2.2.1, x.2.2.2.2.2.2.2.1, x.2.2.2.2.2.2.2.2.1, x.2.2.2.2.2.2.2.2.2.1, x.2.2.2.2.2.2.2.2.2.2.1, x.2.2.2.2.2.2.2.2.2.2.2.1, x.2.2.2.2.2.2.2.2.2.2.2.2.1, x.2.2.2.2.2.2.2.2.2.2.2.2.2.1, x.2.2.2.2.2.2.2.2.2.2.2.2.2.2.1, x.2.2.2.2.2.2.2.2.2.2.2.2.2.2.2) : gX) o z)) ∧ (r 1 = 1 ∨ 2 ^ 32 ≤ a.toUInt64.toNat) ∧ s 31 = 0 ∧ gKs x.2.1 s
theorem d_len32L : ∀ (r i g g2 : Nat) (S : Int64) (u : gU) (x : gX) (pos : Nat), i + r = 5 → S.toUInt64.toNat < 2 ^ (7 * i) → gD n0 f q m N pos u x → gN32 n0 f q m N u x (cR_nextLengthy_5 (g + (r + 5) + 1) (some 187) (some 163) S (Int32.ofNat i)) (mM_lengthy_8 (g2 + r + 1 + 1) (some 188) 32 S (Int32.ofNat i) 1) := by
  have far : ∀ (g : Nat) (S : Int64) (u : gU) (x : gX) (pos : Nat), gD n0 f q m N pos u x → ∃ a r, (∀ y o z, cR_nextLengthy_5 (g + 5 + 1) (some 187) (some 163) S (Int32.ofNat 5) (gH u y o z) = some (a, gH ((u.1, u.2.1, u.2.2.1, u.2.2.2.1, u.2.2.2.2.1, u.2.2.2.2.2.1, u.2.2.2.2.2.2.1, u.2.2.2.2.2.2.2.1, u.2.2.2.2.2.2.2.2.1, u.2.2.2.2.2.2.2.2.2.1, u.2.2.2.2.2.2.2.2.2.2.1, u.2.2.2.2.2.2.2.2.2.2.2.1, r, u.2.2.2.2.2.2.2.2.2.2.2.2.2.1, u.2.2.2.2.2.2.2.2.2.2.2.2.2.2) : gU) y o z)) ∧ (r 1 = 1 ∨ 2 ^ 32 ≤ a.toUInt64.toNat) := by
    intro g S u x pos D
    rcases d_len64L 5 5 g 0 S u x pos (by omega) D with ⟨a, b, r, s, pos', k1, k2, k3, k4⟩ | ⟨a, b, r, s, k1, k2, k3, k4⟩
    · exact ⟨a, r, k1, Or.inr (Nat.le_trans (by decide) (k3.2 (by omega)))⟩
    · exact ⟨a, r, k1, Or.inl k3⟩
  intro r
  induction r with
  | zero =>
    intro i g g2 S u x pos h hS D
    obtain rfl : i = 5 := by omega
    obtain ⟨a, r, k1, k2⟩ := far g S u x pos D
    rw [show g + (0 + 5) + 1 = g + 5 + 1 by omega]
    have l := l_32 5 (by omega)
    rcases d_byte D with ⟨b, b1, _, b3, b4, b5⟩ | ⟨b3, b4⟩
    · refine Or.inr ⟨a, gad S b 5, r, gup (gup (gup x.2.1 31 1) 32 (Int32.ofNat (pos + 1))) 31 0, k1, fun y o z => ?_, k2, rfl, fun j hj => by rw [gup_ne (by omega), gup_ne (by omega), gup_ne (by omega)]⟩
      rw [r_lstep D b4, if_neg (fun q => by have := l.1.mp q; omega), r_l81]
    · exact Or.inr ⟨a, _, r, _, k1, fun y o z => r_lnone D b4, k2, rfl, fun j hj => by rw [gup_ne (by omega), gup_ne (by omega), gup_ne (by omega)]⟩
  | succ r ih =>
    intro i g g2 S u x pos h hS D
    have l := l_32 i (by omega)
    have hi : i < 5 := by omega
    have i10 : Int32.ofNat i < 10 := n_ltl (m := 10) (by omega) (by omega) (by omega)
    rcases d_byte D with ⟨b, b1, _, b3, b4, b5⟩ | ⟨b3, b4⟩
    · have eb128 : (Int32.ofNat b < 128) ↔ b < 128 := n_lt (m := 128) (by omega) (by omega)
      have ks : ∀ v, gKs x.2.1 (gup (gup (gup x.2.1 31 1) 32 (Int32.ofNat (pos + 1))) 31 v) := fun v j hj => by rw [gup_ne (by omega), gup_ne (by omega), gup_ne (by omega)]
      have D2 : gD n0 f q m N (pos + 1) ((u.1, u.2.1, u.2.2.1, u.2.2.2.1, u.2.2.2.2.1, u.2.2.2.2.2.1, u.2.2.2.2.2.2.1, u.2.2.2.2.2.2.2.1, u.2.2.2.2.2.2.2.2.1, u.2.2.2.2.2.2.2.2.2.1, u.2.2.2.2.2.2.2.2.2.2.1, u.2.2.2.2.2.2.2.2.2.2.2.1, gup u.2.2.2.2.2.2.2.2.2.2.2.2.1 0 (Int32.ofNat (pos + 1)), u.2.2.2.2.2.2.2.2.2.2.2.2.2.1, u.2.2.2.2.2.2.2.2.2.2.2.2.2.2) : gU) ((x.1, gup (gup (gup x.2.1 31 1) 32 (Int32.ofNat (pos + 1))) 31 1, x.2.2.1, x.2.2.2.1, x.2.2.2.2.1, x.2.2.2.2.2.1, x.2.2.2.2.2.2.1, x.2.2.2.2.2.2.2.1, x.2.2.2.2.2.2.2.2.1, x.2.2.2.2.2.2.2.2.2.1, x.2.2.2.2.2.2.2.2.2.2.1, x.2.2.2.2.2.2.2.2.2.2.2.1, x.2.2.2.2.2.2.2.2.2.2.2.2.1, x.2.2.2.2.2.2.2.2.2.2.2.2.2.1, x.2.2.2.2.2.2.2.2.2.2.2.2.2.2.1, x.2.2.2.2.2.2.2.2.2.2.2.2.2.2.2) : gX) := gD_r D D.wr rfl b5.hp rfl rfl rfl rfl rfl rfl (ks 1)
      by_cases c : b < 128
      · have cl : ∀ y o z, cR_nextLengthy_5 (g + (r + 1 + 5) + 1) (some 187) (some 163) S (Int32.ofNat i) (gH u y o z) = some (gad S b i, gH ((u.1, u.2.1, u.2.2.1, u.2.2.2.1, u.2.2.2.2.1, u.2.2.2.2.2.1, u.2.2.2.2.2.2.1, u.2.2.2.2.2.2.2.1, u.2.2.2.2.2.2.2.2.1, u.2.2.2.2.2.2.2.2.2.1, u.2.2.2.2.2.2.2.2.2.2.1, u.2.2.2.2.2.2.2.2.2.2.2.1, gup (gup u.2.2.2.2.2.2.2.2.2.2.2.2.1 0 (Int32.ofNat (pos + 1))) 1 (if (0 < i ∧ b = 0) ∨ (i = 9 ∧ 1 < b) then 1 else 0), u.2.2.2.2.2.2.2.2.2.2.2.2.2.1, u.2.2.2.2.2.2.2.2.2.2.2.2.2.2) : gU) y o z) := by
          intro y o z
          rw [cR_nextLengthy_5]
          simp only [if_pos i10, ho_187, Option.bind_some, b3, eb128, if_pos c]
          exact k_llast (u := ((u.1, u.2.1, u.2.2.1, u.2.2.2.1, u.2.2.2.2.1, u.2.2.2.2.2.1, u.2.2.2.2.2.2.1, u.2.2.2.2.2.2.2.1, u.2.2.2.2.2.2.2.2.1, u.2.2.2.2.2.2.2.2.2.1, u.2.2.2.2.2.2.2.2.2.2.1, u.2.2.2.2.2.2.2.2.2.2.2.1, gup u.2.2.2.2.2.2.2.2.2.2.2.2.1 0 (Int32.ofNat (pos + 1)), u.2.2.2.2.2.2.2.2.2.2.2.2.2.1, u.2.2.2.2.2.2.2.2.2.2.2.2.2.2) : gU)) D.wr c (by omega)
        by_cases nb : 0 < i ∧ b = 0
        · simp only [if_pos (show (0 < i ∧ b = 0) ∨ (i = 9 ∧ 1 < b) from Or.inl nb)] at cl
          refine Or.inr ⟨_, gad S b i, _, _, cl, fun y o z => ?_, Or.inl rfl, rfl, ks 0⟩
          rw [show g2 + (r + 1) + 1 + 1 = (g2 + r + 1) + 1 + 1 by omega, r_lstep D b4, if_pos (l.1.mpr hi)]
          by_cases c4 : i < 4
          · rw [if_pos (l.2.mpr c4), r_l67 b1 (by omega), if_pos (by omega)]
          · obtain rfl : i = 4 := by omega
            rw [if_neg (fun q => by have := l.2.mp q; omega), if_pos ((l_416 b b1).mpr (by omega)), r_l67 b1 (by omega), if_pos (by omega)]
        · simp only [if_neg (show ¬ ((0 < i ∧ b = 0) ∨ (i = 9 ∧ 1 < b)) from fun q => by rcases q with q | q; exact nb q; omega)] at cl
          have D3 : gD n0 f q m N (pos + 1) ((u.1, u.2.1, u.2.2.1, u.2.2.2.1, u.2.2.2.2.1, u.2.2.2.2.2.1, u.2.2.2.2.2.2.1, u.2.2.2.2.2.2.2.1, u.2.2.2.2.2.2.2.2.1, u.2.2.2.2.2.2.2.2.2.1, u.2.2.2.2.2.2.2.2.2.2.1, u.2.2.2.2.2.2.2.2.2.2.2.1, gup (gup u.2.2.2.2.2.2.2.2.2.2.2.2.1 0 (Int32.ofNat (pos + 1))) 1 0, u.2.2.2.2.2.2.2.2.2.2.2.2.2.1, u.2.2.2.2.2.2.2.2.2.2.2.2.2.2) : gU) ((x.1, gup (gup (gup x.2.1 31 1) 32 (Int32.ofNat (pos + 1))) 31 1, x.2.2.1, x.2.2.2.1, x.2.2.2.2.1, x.2.2.2.2.2.1, x.2.2.2.2.2.2.1, x.2.2.2.2.2.2.2.1, x.2.2.2.2.2.2.2.2.1, x.2.2.2.2.2.2.2.2.2.1, x.2.2.2.2.2.2.2.2.2.2.1, x.2.2.2.2.2.2.2.2.2.2.2.1, x.2.2.2.2.2.2.2.2.2.2.2.2.1, x.2.2.2.2.2.2.2.2.2.2.2.2.2.1, x.2.2.2.2.2.2.2.2.2.2.2.2.2.2.1, x.2.2.2.2.2.2.2.2.2.2.2.2.2.2.2) : gX) := gD_r D rfl rfl b5.hp rfl rfl rfl rfl rfl rfl (ks 1)
          by_cases c4 : i < 4
          · refine Or.inl ⟨_, _, _, pos + 1, cl, fun y o z => ?_, Nat.lt_of_lt_of_le (l_lt b1 c4 hS) (Nat.pow_le_pow_right (by omega) (by omega)), D3, ks 1, rfl, rfl⟩
            rw [show g2 + (r + 1) + 1 + 1 = (g2 + r + 1) + 1 + 1 by omega, r_lstep D b4, if_pos (l.1.mpr hi), if_pos (l.2.mpr c4), r_l67 b1 (by omega), if_neg (by omega), if_pos c]
          · obtain rfl : i = 4 := by omega
            by_cases h16 : b % 128 < 16
            · refine Or.inl ⟨_, _, _, pos + 1, cl, fun y o z => ?_, l_lt4 b1 h16 hS, D3, ks 1, rfl, rfl⟩
              rw [show g2 + (r + 1) + 1 + 1 = (g2 + r + 1) + 1 + 1 by omega, r_lstep D b4, if_pos (l.1.mpr hi), if_neg (fun q => by have := l.2.mp q; omega), if_pos ((l_416 b b1).mpr h16), r_l67 b1 (by omega), if_neg (by omega), if_pos c]
            · refine Or.inr ⟨_, gad S b 4, _, _, cl, fun y o z => ?_, Or.inr (l_ge4 b1 h16), rfl, ks 0⟩
              rw [show g2 + (r + 1) + 1 + 1 = (g2 + r + 1) + 1 + 1 by omega, r_lstep D b4, if_pos (l.1.mpr hi), if_neg (fun q => by have := l.2.mp q; omega), if_neg (fun q => h16 ((l_416 b b1).mp q)), r_l81]
      · have cl : ∀ y o z, cR_nextLengthy_5 (g + (r + 1 + 5) + 1) (some 187) (some 163) S (Int32.ofNat i) (gH u y o z) = cR_nextLengthy_5 (g + (r + 5) + 1) (some 187) (some 163) (gad S b i) (Int32.ofNat (i + 1)) (gH ((u.1, u.2.1, u.2.2.1, u.2.2.2.1, u.2.2.2.2.1, u.2.2.2.2.2.1, u.2.2.2.2.2.2.1, u.2.2.2.2.2.2.2.1, u.2.2.2.2.2.2.2.2.1, u.2.2.2.2.2.2.2.2.2.1, u.2.2.2.2.2.2.2.2.2.2.1, u.2.2.2.2.2.2.2.2.2.2.2.1, gup u.2.2.2.2.2.2.2.2.2.2.2.2.1 0 (Int32.ofNat (pos + 1)), u.2.2.2.2.2.2.2.2.2.2.2.2.2.1, u.2.2.2.2.2.2.2.2.2.2.2.2.2.2) : gU) y o z) := by
          intro y o z
          rw [show g + (r + 1 + 5) + 1 = (g + (r + 5) + 1) + 1 by omega, cR_nextLengthy_5]
          simp only [if_pos i10, ho_187, Option.bind_some, b3, eb128, if_neg c, n_succ]
          rfl
        by_cases go : i < 4 ∨ b % 128 < 16
        · have rf : ∀ y o z, mM_lengthy_8 (g2 + (r + 1) + 1 + 1) (some 188) 32 S (Int32.ofNat i) 1 (gH y x o z) = mM_lengthy_8 (g2 + r + 1 + 1) (some 188) 32 (gad S b i) (Int32.ofNat (i + 1)) 1 (gH y ((x.1, gup (gup (gup x.2.1 31 1) 32 (Int32.ofNat (pos + 1))) 31 1, x.2.2.1, x.2.2.2.1, x.2.2.2.2.1, x.2.2.2.2.2.1, x.2.2.2.2.2.2.1, x.2.2.2.2.2.2.2.1, x.2.2.2.2.2.2.2.2.1, x.2.2.2.2.2.2.2.2.2.1, x.2.2.2.2.2.2.2.2.2.2.1, x.2.2.2.2.2.2.2.2.2.2.2.1, x.2.2.2.2.2.2.2.2.2.2.2.2.1, x.2.2.2.2.2.2.2.2.2.2.2.2.2.1, x.2.2.2.2.2.2.2.2.2.2.2.2.2.2.1, x.2.2.2.2.2.2.2.2.2.2.2.2.2.2.2) : gX) o z) := by
            intro y o z
            rw [show g2 + (r + 1) + 1 + 1 = (g2 + r + 1) + 1 + 1 by omega, r_lstep D b4, if_pos (l.1.mpr hi)]
            by_cases c4 : i < 4
            · rw [if_pos (l.2.mpr c4), r_l67 b1 (by omega), if_neg (by omega), if_neg c]
            · obtain rfl : i = 4 := by omega
              rw [if_neg (fun q => by have := l.2.mp q; omega), if_pos ((l_416 b b1).mpr (by omega)), r_l67 b1 (by omega), if_neg (by omega), if_neg c]
          have hS2 : (gad S b i).toUInt64.toNat < 2 ^ (7 * (i + 1)) := by
            by_cases c4 : i < 4
            · exact l_lt b1 c4 hS
            · obtain rfl : i = 4 := by omega
              exact Nat.lt_of_lt_of_le (l_lt4 b1 (by omega) hS) (by decide)
          rcases ih (i + 1) g g2 (gad S b i) _ _ (pos + 1) (by omega) hS2 D2 with ⟨a, r', s, pos', k1, k2, k3, k4, k5, k6, k7⟩ | ⟨a, b', r', s, k1, k2, k3, k4, k5⟩
          · exact Or.inl ⟨a, r', s, pos', fun y o z => (cl y o z).trans (k1 y o z), fun y o z => (rf y o z).trans (k2 y o z), k3, k4, gKs_trans (ks 1) k5, k6, k7⟩
          · exact Or.inr ⟨a, b', r', s, fun y o z => (cl y o z).trans (k1 y o z), fun y o z => (rf y o z).trans (k2 y o z), k3, k4, gKs_trans (ks 1) k5⟩
        · obtain rfl : i = 4 := by omega
          obtain rfl : r = 0 := by omega
          obtain ⟨a, r', k1, k2⟩ := far g (gad S b 4) _ _ (pos + 1) D2
          refine Or.inr ⟨a, gad S b 4, r', _, fun y o z => (cl y o z).trans (k1 y o z), fun y o z => ?_, k2, rfl, ks 0⟩
          rw [show g2 + (0 + 1) + 1 + 1 = (g2 + 0 + 1) + 1 + 1 by omega, r_lstep D b4, if_pos (l.1.mpr hi), if_neg (fun q => by have := l.2.mp q; omega), if_neg (fun q => go (Or.inr ((l_416 b b1).mp q))), r_l81]
    · refine Or.inr ⟨gad S 0 i, gad S 0 i, gup (gup u.2.2.2.2.2.2.2.2.2.2.2.2.1 1 1) 1 1, _, fun y o z => ?_, fun y o z => r_lnone (g := g2 + r + 1) D b4, Or.inl rfl, rfl, fun j hj => by rw [gup_ne (by omega), gup_ne (by omega), gup_ne (by omega)]⟩
      rw [cR_nextLengthy_5]
      have w1 : gup u.2.2.2.2.2.2.2.2.2.2.2.2.1 1 1 1 = 1 := rfl
      simp only [if_pos i10, ho_187, Option.bind_some, b3, if_pos (show (0 : Int32) < 128 by decide), cR_nextLengthy_57, cR_nextLengthy_56, cR_nextLengthy_76, cR_nextLengthy_77, hi_187_1, w1, show ¬ (1 : Int32) = 0 by decide, if_false, hp_187_1, ite_self, if_true]
      rfl
end H
