/-! small numbers as ints -/
theorem n_lt {n m : Nat} (hn : n < 2 ^ 31) (hm : m < 2 ^ 31) : (Int32.ofNat n < Int32.ofNat m) ↔ n < m := by
  rw [Int32.lt_iff_toInt_lt, Int32.toInt_ofNat_of_lt hn, Int32.toInt_ofNat_of_lt hm]; omega
theorem n_nn {n : Nat} (hn : n < 2 ^ 31) : ¬ Int32.ofNat n < 0 := by
  have := n_lt hn (show 0 < 2 ^ 31 by decide)
  intro q
  have q2 : Int32.ofNat n < Int32.ofNat 0 := q
  rw [this] at q2
  omega
theorem n_cl {n : Nat} (hn : n < 2 ^ 31) : (Int32.ofNat n).toNatClampNeg = n := Int32.toNatClampNeg_ofNat_of_lt hn
theorem n_eq {n m : Nat} (hn : n < 2 ^ 31) (hm : m < 2 ^ 31) : (Int32.ofNat n = Int32.ofNat m) ↔ n = m := by
  rw [← Int32.toInt_inj, Int32.toInt_ofNat_of_lt hn, Int32.toInt_ofNat_of_lt hm]; omega
theorem n_succ {n : Nat} : Int32.ofNat n + 1 = Int32.ofNat (n + 1) := (Int32.ofNat_add n 1).symm
theorem n_pred {n : Nat} : Int32.ofNat (n + 1) - 1 = Int32.ofNat n := by rw [← n_succ, Int32.add_sub_cancel]
theorem n_m1 {n : Nat} : Int32.ofNat (n + 1) + -1 = Int32.ofNat n := by rw [← Int32.sub_eq_add_neg, n_pred]
theorem n_ne1 {n : Nat} (hn : n < 2 ^ 31) : ¬ Int32.ofNat n = -1 := by
  intro q
  exact n_nn hn (by rw [q]; decide)
/-- an int that is not below 0 and below m is a small number -/
theorem n_of {v : Int32} {m : Nat} (h0 : ¬ v < 0) (h1 : v < Int32.ofNat m) (hm : m < 2 ^ 31) : ∃ n, n < m ∧ v = Int32.ofNat n := by
  have h3 : ¬ v.toInt < (0 : Int32).toInt := fun q => h0 (Int32.lt_iff_toInt_lt.mpr q)
  have h4 : (0 : Int32).toInt = 0 := rfl
  refine ⟨v.toNatClampNeg, ?_, ?_⟩
  · have h2 := Int32.lt_iff_toInt_lt.mp h1
    rw [Int32.toInt_ofNat_of_lt hm] at h2
    rw [← Int32.toNat_toInt]
    omega
  · rw [← Int32.toInt_inj, Int32.toInt_ofNat_of_lt (Int32.toNatClampNeg_lt v), ← Int32.toNat_toInt]
    omega
theorem n_le {v : Int32} {m : Nat} (h0 : ¬ v < 0) (h1 : ¬ Int32.ofNat m < v) (hm : m < 2 ^ 31) : ∃ n, n ≤ m ∧ v = Int32.ofNat n := by
  have h3 : ¬ v.toInt < (0 : Int32).toInt := fun q => h0 (Int32.lt_iff_toInt_lt.mpr q)
  have h4 : (0 : Int32).toInt = 0 := rfl
  have h2 : ¬ (Int32.ofNat m).toInt < v.toInt := fun q => h1 (Int32.lt_iff_toInt_lt.mpr q)
  rw [Int32.toInt_ofNat_of_lt hm] at h2
  refine ⟨v.toNatClampNeg, ?_, ?_⟩
  · rw [← Int32.toNat_toInt]
    omega
  · rw [← Int32.toInt_inj, Int32.toInt_ofNat_of_lt (Int32.toNatClampNeg_lt v), ← Int32.toNat_toInt]
    omega
theorem n_8 {k i : Nat} : (8 : Int32) * Int32.ofNat k + Int32.ofNat i = Int32.ofNat (8 * k + i) := by
  rw [Int32.ofNat_add, Int32.ofNat_mul]; rfl
theorem n_80 {k : Nat} : (8 : Int32) * Int32.ofNat k = Int32.ofNat (8 * k) := by
  rw [Int32.ofNat_mul]; rfl
theorem n_6 {k i : Nat} : (6 : Int32) * Int32.ofNat k + Int32.ofNat i = Int32.ofNat (6 * k + i) := by
  rw [Int32.ofNat_add, Int32.ofNat_mul]; rfl
theorem n_60 {k : Nat} : (6 : Int32) * Int32.ofNat k = Int32.ofNat (6 * k) := by
  rw [Int32.ofNat_mul]; rfl
theorem n_add {a b : Nat} : Int32.ofNat a + Int32.ofNat b = Int32.ofNat (a + b) := (Int32.ofNat_add a b).symm
theorem n_ltl {n m : Nat} (hn : n < 2 ^ 31) (hm : m < 2 ^ 31) (h : n < m) : Int32.ofNat n < Int32.ofNat m := (n_lt hn hm).mpr h
theorem n_nltl {n m : Nat} (hn : n < 2 ^ 31) (hm : m < 2 ^ 31) (h : m ≤ n) : ¬ Int32.ofNat n < Int32.ofNat m := fun q => by have := (n_lt hn hm).mp q; omega
theorem n_nn0 {v : Int32} : ¬ v < 0 ↔ 0 ≤ v.toInt := by
  rw [Int32.lt_iff_toInt_lt]; show ¬ v.toInt < 0 ↔ _; omega
/-- one place of a row changed -/
def gup {α : Type} (f : Nat → α) (k : Nat) (v : α) : Nat → α := fun j => if j = k then v else f j
theorem gup_eq {α : Type} {f : Nat → α} {k : Nat} {v : α} : gup f k v k = v := by simp [gup]
theorem gup_ne {α : Type} {f : Nat → α} {k j : Nat} {v : α} (h : ¬ j = k) : gup f k v j = f j := by simp [gup, h]
theorem gup_gup {α : Type} {f : Nat → α} {k : Nat} {v w : α} : gup (gup f k v) k w = gup f k w := by
  funext j; unfold gup; split <;> rfl
theorem gup_ap {α : Type} {f : Nat → α} {k j : Nat} {v : α} : gup f k v j = if j = k then v else f j := rfl
