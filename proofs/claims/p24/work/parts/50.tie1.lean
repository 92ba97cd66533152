section
/-! small numbers as ints -/
theorem n_lt {n m : Nat} (hn : n < 2 ^ 31) (hm : m < 2 ^ 31) : (Int32.ofNat n < Int32.ofNat m) ↔ n < m := by
  rw [Int32.lt_iff_toInt_lt, Int32.toInt_ofNat_of_lt hn, Int32.toInt_ofNat_of_lt hm]; omega
theorem n_nn {n : Nat} (hn : n < 2 ^ 31) : ¬ Int32.ofNat n < 0 := by
  have := n_lt hn (show 0 < 2 ^ 31 by decide)
  intro q
  have q2 : Int32.ofNat n < Int32.ofNat 0 := q
  rw [this] at q2
  omega
theorem n_cl {n : Nat} (hn : n < 2 ^ 31) : (Int32.ofNat n).toNatClampNeg = n := Int32.toNatClampNeg_ofNat_of_lt hn
theorem n_eq {n m : Nat} (hn : n < 2 ^ 31) (hm : m < 2 ^ 31) : (Int32.ofNat n = Int32.ofNat m) ↔ n = m := by
  rw [← Int32.toInt_inj, Int32.toInt_ofNat_of_lt hn, Int32.toInt_ofNat_of_lt hm]; omega
theorem n_succ {n : Nat} : Int32.ofNat n + 1 = Int32.ofNat (n + 1) := (Int32.ofNat_add n 1).symm
theorem n_pred {n : Nat} : Int32.ofNat (n + 1) - 1 = Int32.ofNat n := by rw [← n_succ, Int32.add_sub_cancel]
theorem n_m1 {n : Nat} : Int32.ofNat (n + 1) + -1 = Int32.ofNat n := by rw [← Int32.sub_eq_add_neg, n_pred]
theorem n_ne1 {n : Nat} (hn : n < 2 ^ 31) : ¬ Int32.ofNat n = -1 := by
  intro q
  exact n_nn hn (by rw [q]; decide)
/-- an int that is not below 0 and below m is a small number -/
theorem n_of {v : Int32} {m : Nat} (h0 : ¬ v < 0) (h1 : v < Int32.ofNat m) (hm : m < 2 ^ 31) : ∃ n, n < m ∧ v = Int32.ofNat n := by
  have h3 : ¬ v.toInt < (0 : Int32).toInt := fun q => h0 (Int32.lt_iff_toInt_lt.mpr q)
  have h4 : (0 : Int32).toInt = 0 := rfl
  refine ⟨v.toNatClampNeg, ?_, ?_⟩
  · have h2 := Int32.lt_iff_toInt_lt.mp h1
    rw [Int32.toInt_ofNat_of_lt hm] at h2
    rw [← Int32.toNat_toInt]
    omega
  · rw [← Int32.toInt_inj, Int32.toInt_ofNat_of_lt (Int32.toNatClampNeg_lt v), ← Int32.toNat_toInt]
    omega
theorem n_le {v : Int32} {m : Nat} (h0 : ¬ v < 0) (h1 : ¬ Int32.ofNat m < v) (hm : m < 2 ^ 31) : ∃ n, n ≤ m ∧ v = Int32.ofNat n := by
  have h3 : ¬ v.toInt < (0 : Int32).toInt := fun q => h0 (Int32.lt_iff_toInt_lt.mpr q)
  have h4 : (0 : Int32).toInt = 0 := rfl
  have h2 : ¬ (Int32.ofNat m).toInt < v.toInt := fun q => h1 (Int32.lt_iff_toInt_lt.mpr q)
  rw [Int32.toInt_ofNat_of_lt hm] at h2
  refine ⟨v.toNatClampNeg, ?_, ?_⟩
  · rw [← Int32.toNat_toInt]
    omega
  · rw [← Int32.toInt_inj, Int32.toInt_ofNat_of_lt (Int32.toNatClampNeg_lt v), ← Int32.toNat_toInt]
    omega
theorem n_8 {k i : Nat} : (8 : Int32) * Int32.ofNat k + Int32.ofNat i = Int32.ofNat (8 * k + i) := by
  rw [Int32.ofNat_add, Int32.ofNat_mul]; rfl
theorem n_80 {k : Nat} : (8 : Int32) * Int32.ofNat k = Int32.ofNat (8 * k) := by
  rw [Int32.ofNat_mul]; rfl
theorem n_6 {k i : Nat} : (6 : Int32) * Int32.ofNat k + Int32.ofNat i = Int32.ofNat (6 * k + i) := by
  rw [Int32.ofNat_add, Int32.ofNat_mul]; rfl
theorem n_60 {k : Nat} : (6 : Int32) * Int32.ofNat k = Int32.ofNat (6 * k) := by
  rw [Int32.ofNat_mul]; rfl
theorem n_add {a b : Nat} : Int32.ofNat a + Int32.ofNat b = Int32.ofNat (a + b) := (Int32.ofNat_add a b).symm
theorem n_ltl {n m : Nat} (hn : n < 2 ^ 31) (hm : m < 2 ^ 31) (h : n < m) : Int32.ofNat n < Int32.ofNat m := (n_lt hn hm).mpr h
theorem n_nltl {n m : Nat} (hn : n < 2 ^ 31) (hm : m < 2 ^ 31) (h : m ≤ n) : ¬ Int32.ofNat n < Int32.ofNat m := fun q => by have := (n_lt hn hm).mp q; omega
theorem n_nn0 {v : Int32} : ¬ v < 0 ↔ 0 ≤ v.toInt := by
  rw [Int32.lt_iff_toInt_lt]; show ¬ v.toInt < 0 ↔ _; omega
/-- one place of a row changed -/
def gup {α : Type} (f : Nat → α) (k : Nat) (v : α) : Nat → α := fun j => if j = k then v else f j
theorem gup_eq {α : Type} {f : Nat → α} {k : Nat} {v : α} : gup f k v k = v := by simp [gup]
theorem gup_ne {α : Type} {f : Nat → α} {k j : Nat} {v : α} (h : ¬ j = k) : gup f k v j = f j := by simp [gup, h]
theorem gup_gup {α : Type} {f : Nat → α} {k : Nat} {v w : α} : gup (gup f k v) k w = gup f k w := by
  funext j; unfold gup; split <;> rfl
theorem gup_ap {α : Type} {f : Nat → α} {k j : Nat} {v : α} : gup f k v j = if j = k then v else f j := rfl
end
section
/-! copies of rows -/
theorem gx_sp_get (p : Nat) : ∀ (l : List Value) (s : Nat) (vs : List Value) (k : Nat), (gx_sp p (l.zipIdx s) vs)[k]? = if p + s ≤ k ∧ k < p + s + l.length ∧ k < vs.length then l[k - (p + s)]? else vs[k]? := by
  intro l
  induction l with
  | nil => intro s vs k; simp [gx_sp]; intro a b; omega
  | cons v l ih =>
    intro s vs k
    show (gx_sp p (l.zipIdx (s + 1)) (vs.set (p + s) v))[k]? = _
    rw [ih (s + 1) (vs.set (p + s) v) k, List.length_set, List.length_cons]
    by_cases h1 : p + (s + 1) ≤ k ∧ k < p + (s + 1) + l.length ∧ k < vs.length
    · rw [if_pos h1, if_pos ⟨by omega, by omega, h1.2.2⟩]
      obtain ⟨m, rfl⟩ : ∃ m, k = p + s + 1 + m := ⟨k - (p + s + 1), by omega⟩
      rw [show p + s + 1 + m - (p + s) = m + 1 by omega, show p + s + 1 + m - (p + (s + 1)) = m by omega]
      rfl
    · rw [if_neg h1, List.getElem?_set]
      by_cases h2 : p + s = k
      · subst h2
        by_cases h3 : p + s < vs.length
        · rw [if_pos rfl, if_pos h3, if_pos ⟨by omega, by omega, h3⟩]; simp
        · rw [if_pos rfl, if_neg h3, if_neg (by omega)]; simp; omega
      · rw [if_neg h2, if_neg (by omega)]
def gm_fill (I : Nat → Nat → Int32) (a k n : Nat) (v : Int32) : Nat → Nat → Int32 := fun b i => if b = a ∧ k ≤ i ∧ i < n then v else I b i
def gm_copy (I : Nat → Nat → Int32) (a0 a k n : Nat) : Nat → Nat → Int32 := fun b i => if b = a ∧ k ≤ i ∧ i < n then I a0 i else I b i
theorem gm_fill0 {I : Nat → Nat → Int32} {a n : Nat} {v : Int32} : gm_fill I a n n v = I := by
  funext b i; unfold gm_fill; rw [if_neg (by omega)]
theorem gm_fill1 {I : Nat → Nat → Int32} {a k n : Nat} {v : Int32} (h : k < n) : gm_fill (gm_up I a k v) a (k + 1) n v = gm_fill I a k n v := by
  funext b i; unfold gm_fill gm_up
  by_cases c1 : b = a
  · subst c1
    by_cases c2 : i = k
    · subst c2; simp [h]
    · by_cases c3 : k + 1 ≤ i ∧ i < n
      · rw [if_pos ⟨rfl, c3⟩, if_pos ⟨rfl, by omega, c3.2⟩]
      · rw [if_neg (fun q => c3 q.2), if_neg (fun q => c2 q.2), if_neg (by omega)]
  · simp [c1]
theorem gm_copy0 {I : Nat → Nat → Int32} {a0 a n : Nat} : gm_copy I a0 a n n = I := by
  funext b i; unfold gm_copy; rw [if_neg (by omega)]
theorem gm_copy1 {I : Nat → Nat → Int32} {a0 a k n : Nat} (h : k < n) (hne : ¬ a0 = a) : gm_copy (gm_up I a k (I a0 k)) a0 a (k + 1) n = gm_copy I a0 a k n := by
  funext b i; unfold gm_copy gm_up
  by_cases c1 : b = a
  · subst c1
    by_cases c2 : i = k
    · subst c2; simp [h]
    · by_cases c3 : k + 1 ≤ i ∧ i < n
      · rw [if_pos ⟨rfl, c3⟩, if_neg (fun q => hne q.1), if_pos ⟨rfl, by omega, c3.2⟩]
      · rw [if_neg (fun q => c3 q.2), if_neg (fun q => c2 q.2), if_neg (by omega)]
  · simp [c1]
section F
variable {I : Nat → Nat → Int32} {J : Nat → Nat → Int64} {z : gx_H}
theorem gm_cellA {a n : Nat} (h : gm_lay a = (100, List.replicate n (1, 0))) : gm_cell I J a = (100, (List.range n).map fun i => .int (I a i)) := by
  unfold gm_cell
  rw [h]
  congr 1
  apply List.ext_getElem?
  intro k
  rw [List.getElem?_mapIdx]
  by_cases hk : k < n
  · simp [hk, gm_v]
  · simp [hk]
theorem gm_cp {a0 a n0 n1 n : Nat} (ha0 : a0 < 212) (ha : a < 212) (h0 : gm_lay a0 = (100, List.replicate n0 (1, 0))) (h1 : gm_lay a = (100, List.replicate n1 (1, 0))) (hn0 : n ≤ n0) (hn1 : n ≤ n1) (hn : n < 2 ^ 31) : gv_cp (gm_mk I J z) (some a0) 0 (some a) 0 (Int32.ofNat n) = some (gm_mk (gm_copy I a0 a 0 n) J z) := by
  unfold gv_cp
  rw [Option.bind_some, Option.bind_some, gm_ob ha0 (by rw [h0]), Option.bind_some, gm_ob ha (by rw [h1]), Option.bind_some, gm_cellA h0, gm_cellA h1, n_cl hn]
  have e0 : (0 : Int32).toNatClampNeg = 0 := rfl
  rw [e0]
  rw [if_pos ⟨by decide, by decide, n_nn hn, by simpa using hn0, by simpa using hn1, by simp [gx_i1]⟩]
  rw [gm_set (I' := gm_copy I a0 a 0 n) (J' := J) ha]
  · rw [gm_cellA h1]
    congr 1
    apply List.ext_getElem?
    intro k
    unfold gx_cpy
    rw [gx_sp_get]
    by_cases hk : k < n1
    · by_cases hk2 : k < n
      · rw [if_pos ⟨by omega, by simp; omega, by simpa using hk⟩]
        simp [hk, hk2, gm_copy, List.getD, show k < n0 by omega]
      · rw [if_neg (by simp; omega)]
        simp [hk, hk2, gm_copy]
    · rw [if_neg (by simp; omega)]
      simp [hk]
  · intro b hb
    unfold gm_cell
    congr 2
    funext k s
    unfold gm_v gm_copy
    simp [hb]
end F
end
section
/-! the heap as two records: what the class keeps and what the reference keeps; by program -/
abbrev gQ := (Nat → Int32) × (Nat → Int32) × (Nat → Int32) × (Nat → Int32) × (Nat → Int32) × (Nat → Int64)
abbrev gP := (Nat → Int32) × (Nat → Int32) × (Nat → Int32) × (Nat → Int32) × Int32 × Int32 × Int32 × Int64
abbrev gU := (Nat → gQ) × (Nat → Int32) × (Nat → Int32) × (Nat → Int32) × (Nat → Int32) × (Nat → Int32) × (Nat → Int32) × (Nat → Int32) × (Nat → Int32) × (Nat → Int32) × (Nat → Int32) × (Nat → Int32) × (Nat → Int32) × (Nat → Nat → Int32) × (Nat → Int64)
abbrev gX := (Nat → gP) × (Nat → Int32) × (Nat → Int32) × (Nat → Int32) × (Nat → Int32) × (Nat → Int32) × (Nat → Int32) × (Nat → Int32) × (Nat → Int32) × (Nat → Int32) × (Nat → Int32) × (Nat → Int32) × (Nat → Int32) × (Nat → Int32) × (Nat → Int32) × (Nat → Int32)
def gf_T (q : gQ) (r : Nat) : Nat → Int32 := if r = 0 then q.2.2.2.2.1 else if r = 1 then q.1 else if r = 2 then q.2.1 else if r = 3 then q.2.2.1 else if r = 4 then q.2.2.2.1 else fun _ => 0
def gf_C (u : gU) (a : Nat) : Nat → Int32 := if 174 ≤ a ∧ a ≤ 186 then u.2.2.2.2.2.2.2.2.2.2.2.2.2.1 (a - 174) else if a = 163 then u.2.2.2.1 else if a = 164 then u.2.2.2.2.1 else if a = 165 then u.2.2.2.2.2.1 else if a = 166 then u.2.2.2.2.2.2.1 else if a = 168 then u.2.2.2.2.2.2.2.1 else if a = 169 then u.2.2.2.2.2.2.2.2.1 else if a = 170 then u.2.2.2.2.2.2.2.2.2.1 else if a = 171 then u.2.2.2.2.2.2.2.2.2.2.1 else if a = 172 then u.2.2.2.2.2.2.2.2.2.2.2.1 else if a = 187 then u.2.2.2.2.2.2.2.2.2.2.2.2.1 else fun _ => 0
def gf_X (x : gX) (a : Nat) : Nat → Int32 := if a = 189 then (fun j => (x.1 j).2.2.2.2.1) else if a = 190 then (fun j => (x.1 j).2.2.2.2.2.1) else if a = 191 then (fun j => (x.1 j).2.2.2.2.2.2.1) else if a = 193 then (fun j => (x.1 (j / 8)).2.1 (j % 8)) else if a = 194 then (fun j => (x.1 (j / 8)).1 (j % 8)) else if a = 195 then (fun j => (x.1 (j / 8)).2.2.1 (j % 8)) else if a = 196 then (fun j => (x.1 (j / 8)).2.2.2.1 (j % 8)) else if a = 188 then x.2.1 else if a = 197 then x.2.2.1 else if a = 198 then x.2.2.2.1 else if a = 199 then x.2.2.2.2.1 else if a = 200 then x.2.2.2.2.2.1 else if a = 201 then x.2.2.2.2.2.2.1 else if a = 202 then x.2.2.2.2.2.2.2.1 else if a = 203 then x.2.2.2.2.2.2.2.2.1 else if a = 204 then x.2.2.2.2.2.2.2.2.2.1 else if a = 205 then x.2.2.2.2.2.2.2.2.2.2.1 else if a = 206 then x.2.2.2.2.2.2.2.2.2.2.2.1 else if a = 207 then x.2.2.2.2.2.2.2.2.2.2.2.2.1 else if a = 208 then x.2.2.2.2.2.2.2.2.2.2.2.2.2.1 else if a = 209 then x.2.2.2.2.2.2.2.2.2.2.2.2.2.2.1 else if a = 210 then x.2.2.2.2.2.2.2.2.2.2.2.2.2.2.2 else fun _ => 0
def gf_I (u : gU) (x : gX) (a : Nat) : Nat → Int32 := if a < 163 then (if a < 3 then (if a = 0 then u.2.1 else if a = 1 then u.2.2.1 else fun _ => 0) else gf_T (u.1 ((a - 3) / 5)) ((a - 3) % 5)) else if a < 188 then gf_C u a else gf_X x a
def gf_J (u : gU) (x : gX) (o : Nat → Int64) (a : Nat) : Nat → Int64 := if a < 163 then (if a < 3 then fun _ => 0 else if (a - 3) % 5 = 0 then (u.1 ((a - 3) / 5)).2.2.2.2.2 else fun _ => 0) else if a = 167 then u.2.2.2.2.2.2.2.2.2.2.2.2.2.2 else if a = 192 then (fun j => (x.1 j).2.2.2.2.2.2.2) else if a = 211 then o else fun _ => 0
def gH (u : gU) (x : gX) (o : Nat → Int64) (z : gx_H) : gx_H := gm_mk (gf_I u x) (gf_J u x o) z
theorem gf_up {I I2 : Nat → Nat → Int32} {a i : Nat} {v : Int32} (h1 : I2 a = gup (I a) i v) (h2 : ∀ b, ¬ b = a → I2 b = I b) : gm_up I a i v = I2 := by
  funext b j
  unfold gm_up
  by_cases hb : b = a
  · subst hb; rw [h1]; unfold gup; by_cases hj : j = i <;> simp [hj]
  · rw [h2 b hb]; simp [hb]
theorem gf_uj {I I2 : Nat → Nat → Int64} {a i : Nat} {v : Int64} (h1 : I2 a = gup (I a) i v) (h2 : ∀ b, ¬ b = a → I2 b = I b) : gm_uj I a i v = I2 := by
  funext b j
  unfold gm_uj
  by_cases hb : b = a
  · subst hb; rw [h1]; unfold gup; by_cases hj : j = i <;> simp [hj]
  · rw [h2 b hb]; simp [hb]
theorem gh_I {I I2 : Nat → Nat → Int32} {J J2 : Nat → Nat → Int64} {z : gx_H} (h1 : I = I2) (h2 : J = J2) : some (gm_mk I J z) = some (gm_mk I2 J2 z) := by rw [h1, h2]
section H
variable {u : gU} {x : gX} {o : Nat → Int64} {z : gx_H}
theorem gf_w0 {i : Nat} {v : Int32} : gm_up (gf_I u x) 0 i v = gf_I ((u.1, gup u.2.1 i v, u.2.2.1, u.2.2.2.1, u.2.2.2.2.1, u.2.2.2.2.2.1, u.2.2.2.2.2.2.1, u.2.2.2.2.2.2.2.1, u.2.2.2.2.2.2.2.2.1, u.2.2.2.2.2.2.2.2.2.1, u.2.2.2.2.2.2.2.2.2.2.1, u.2.2.2.2.2.2.2.2.2.2.2.1, u.2.2.2.2.2.2.2.2.2.2.2.2.1, u.2.2.2.2.2.2.2.2.2.2.2.2.2.1, u.2.2.2.2.2.2.2.2.2.2.2.2.2.2) : gU) x := by
  refine gf_up rfl ?_
  intro b hb
  unfold gf_I
  rw [if_neg hb, if_neg hb]
  rfl
theorem gf_v0 {r : Nat → Int32} : gf_J ((u.1, r, u.2.2.1, u.2.2.2.1, u.2.2.2.2.1, u.2.2.2.2.2.1, u.2.2.2.2.2.2.1, u.2.2.2.2.2.2.2.1, u.2.2.2.2.2.2.2.2.1, u.2.2.2.2.2.2.2.2.2.1, u.2.2.2.2.2.2.2.2.2.2.1, u.2.2.2.2.2.2.2.2.2.2.2.1, u.2.2.2.2.2.2.2.2.2.2.2.2.1, u.2.2.2.2.2.2.2.2.2.2.2.2.2.1, u.2.2.2.2.2.2.2.2.2.2.2.2.2.2) : gU) x o = gf_J u x o := rfl
theorem gf_w1 {i : Nat} {v : Int32} : gm_up (gf_I u x) 1 i v = gf_I ((u.1, u.2.1, gup u.2.2.1 i v, u.2.2.2.1, u.2.2.2.2.1, u.2.2.2.2.2.1, u.2.2.2.2.2.2.1, u.2.2.2.2.2.2.2.1, u.2.2.2.2.2.2.2.2.1, u.2.2.2.2.2.2.2.2.2.1, u.2.2.2.2.2.2.2.2.2.2.1, u.2.2.2.2.2.2.2.2.2.2.2.1, u.2.2.2.2.2.2.2.2.2.2.2.2.1, u.2.2.2.2.2.2.2.2.2.2.2.2.2.1, u.2.2.2.2.2.2.2.2.2.2.2.2.2.2) : gU) x := by
  refine gf_up rfl ?_
  intro b hb
  unfold gf_I
  rw [if_neg hb, if_neg hb]
  rfl
theorem gf_v1 {r : Nat → Int32} : gf_J ((u.1, u.2.1, r, u.2.2.2.1, u.2.2.2.2.1, u.2.2.2.2.2.1, u.2.2.2.2.2.2.1, u.2.2.2.2.2.2.2.1, u.2.2.2.2.2.2.2.2.1, u.2.2.2.2.2.2.2.2.2.1, u.2.2.2.2.2.2.2.2.2.2.1, u.2.2.2.2.2.2.2.2.2.2.2.1, u.2.2.2.2.2.2.2.2.2.2.2.2.1, u.2.2.2.2.2.2.2.2.2.2.2.2.2.1, u.2.2.2.2.2.2.2.2.2.2.2.2.2.2) : gU) x o = gf_J u x o := rfl
theorem gf_w163 {i : Nat} {v : Int32} : gm_up (gf_I u x) 163 i v = gf_I ((u.1, u.2.1, u.2.2.1, gup u.2.2.2.1 i v, u.2.2.2.2.1, u.2.2.2.2.2.1, u.2.2.2.2.2.2.1, u.2.2.2.2.2.2.2.1, u.2.2.2.2.2.2.2.2.1, u.2.2.2.2.2.2.2.2.2.1, u.2.2.2.2.2.2.2.2.2.2.1, u.2.2.2.2.2.2.2.2.2.2.2.1, u.2.2.2.2.2.2.2.2.2.2.2.2.1, u.2.2.2.2.2.2.2.2.2.2.2.2.2.1, u.2.2.2.2.2.2.2.2.2.2.2.2.2.2) : gU) x := by
  refine gf_up rfl ?_
  intro b hb
  unfold gf_I gf_C
  rw [if_neg hb, if_neg hb]
theorem gf_v163 {r : Nat → Int32} : gf_J ((u.1, u.2.1, u.2.2.1, r, u.2.2.2.2.1, u.2.2.2.2.2.1, u.2.2.2.2.2.2.1, u.2.2.2.2.2.2.2.1, u.2.2.2.2.2.2.2.2.1, u.2.2.2.2.2.2.2.2.2.1, u.2.2.2.2.2.2.2.2.2.2.1, u.2.2.2.2.2.2.2.2.2.2.2.1, u.2.2.2.2.2.2.2.2.2.2.2.2.1, u.2.2.2.2.2.2.2.2.2.2.2.2.2.1, u.2.2.2.2.2.2.2.2.2.2.2.2.2.2) : gU) x o = gf_J u x o := rfl
theorem gf_w164 {i : Nat} {v : Int32} : gm_up (gf_I u x) 164 i v = gf_I ((u.1, u.2.1, u.2.2.1, u.2.2.2.1, gup u.2.2.2.2.1 i v, u.2.2.2.2.2.1, u.2.2.2.2.2.2.1, u.2.2.2.2.2.2.2.1, u.2.2.2.2.2.2.2.2.1, u.2.2.2.2.2.2.2.2.2.1, u.2.2.2.2.2.2.2.2.2.2.1, u.2.2.2.2.2.2.2.2.2.2.2.1, u.2.2.2.2.2.2.2.2.2.2.2.2.1, u.2.2.2.2.2.2.2.2.2.2.2.2.2.1, u.2.2.2.2.2.2.2.2.2.2.2.2.2.2) : gU) x := by
  refine gf_up rfl ?_
  intro b hb
  unfold gf_I gf_C
  rw [if_neg hb, if_neg hb]
theorem gf_v164 {r : Nat → Int32} : gf_J ((u.1, u.2.1, u.2.2.1, u.2.2.2.1, r, u.2.2.2.2.2.1, u.2.2.2.2.2.2.1, u.2.2.2.2.2.2.2.1, u.2.2.2.2.2.2.2.2.1, u.2.2.2.2.2.2.2.2.2.1, u.2.2.2.2.2.2.2.2.2.2.1, u.2.2.2.2.2.2.2.2.2.2.2.1, u.2.2.2.2.2.2.2.2.2.2.2.2.1, u.2.2.2.2.2.2.2.2.2.2.2.2.2.1, u.2.2.2.2.2.2.2.2.2.2.2.2.2.2) : gU) x o = gf_J u x o := rfl
theorem gf_w165 {i : Nat} {v : Int32} : gm_up (gf_I u x) 165 i v = gf_I ((u.1, u.2.1, u.2.2.1, u.2.2.2.1, u.2.2.2.2.1, gup u.2.2.2.2.2.1 i v, u.2.2.2.2.2.2.1, u.2.2.2.2.2.2.2.1, u.2.2.2.2.2.2.2.2.1, u.2.2.2.2.2.2.2.2.2.1, u.2.2.2.2.2.2.2.2.2.2.1, u.2.2.2.2.2.2.2.2.2.2.2.1, u.2.2.2.2.2.2.2.2.2.2.2.2.1, u.2.2.2.2.2.2.2.2.2.2.2.2.2.1, u.2.2.2.2.2.2.2.2.2.2.2.2.2.2) : gU) x := by
  refine gf_up rfl ?_
  intro b hb
  unfold gf_I gf_C
  rw [if_neg hb, if_neg hb]
theorem gf_v165 {r : Nat → Int32} : gf_J ((u.1, u.2.1, u.2.2.1, u.2.2.2.1, u.2.2.2.2.1, r, u.2.2.2.2.2.2.1, u.2.2.2.2.2.2.2.1, u.2.2.2.2.2.2.2.2.1, u.2.2.2.2.2.2.2.2.2.1, u.2.2.2.2.2.2.2.2.2.2.1, u.2.2.2.2.2.2.2.2.2.2.2.1, u.2.2.2.2.2.2.2.2.2.2.2.2.1, u.2.2.2.2.2.2.2.2.2.2.2.2.2.1, u.2.2.2.2.2.2.2.2.2.2.2.2.2.2) : gU) x o = gf_J u x o := rfl
theorem gf_w166 {i : Nat} {v : Int32} : gm_up (gf_I u x) 166 i v = gf_I ((u.1, u.2.1, u.2.2.1, u.2.2.2.1, u.2.2.2.2.1, u.2.2.2.2.2.1, gup u.2.2.2.2.2.2.1 i v, u.2.2.2.2.2.2.2.1, u.2.2.2.2.2.2.2.2.1, u.2.2.2.2.2.2.2.2.2.1, u.2.2.2.2.2.2.2.2.2.2.1, u.2.2.2.2.2.2.2.2.2.2.2.1, u.2.2.2.2.2.2.2.2.2.2.2.2.1, u.2.2.2.2.2.2.2.2.2.2.2.2.2.1, u.2.2.2.2.2.2.2.2.2.2.2.2.2.2) : gU) x := by
  refine gf_up rfl ?_
  intro b hb
  unfold gf_I gf_C
  rw [if_neg hb, if_neg hb]
theorem gf_v166 {r : Nat → Int32} : gf_J ((u.1, u.2.1, u.2.2.1, u.2.2.2.1, u.2.2.2.2.1, u.2.2.2.2.2.1, r, u.2.2.2.2.2.2.2.1, u.2.2.2.2.2.2.2.2.1, u.2.2.2.2.2.2.2.2.2.1, u.2.2.2.2.2.2.2.2.2.2.1, u.2.2.2.2.2.2.2.2.2.2.2.1, u.2.2.2.2.2.2.2.2.2.2.2.2.1, u.2.2.2.2.2.2.2.2.2.2.2.2.2.1, u.2.2.2.2.2.2.2.2.2.2.2.2.2.2) : gU) x o = gf_J u x o := rfl
theorem gf_w168 {i : Nat} {v : Int32} : gm_up (gf_I u x) 168 i v = gf_I ((u.1, u.2.1, u.2.2.1, u.2.2.2.1, u.2.2.2.2.1, u.2.2.2.2.2.1, u.2.2.2.2.2.2.1, gup u.2.2.2.2.2.2.2.1 i v, u.2.2.2.2.2.2.2.2.1, u.2.2.2.2.2.2.2.2.2.1, u.2.2.2.2.2.2.2.2.2.2.1, u.2.2.2.2.2.2.2.2.2.2.2.1, u.2.2.2.2.2.2.2.2.2.2.2.2.1, u.2.2.2.2.2.2.2.2.2.2.2.2.2.1, u.2.2.2.2.2.2.2.2.2.2.2.2.2.2) : gU) x := by
  refine gf_up rfl ?_
  intro b hb
  unfold gf_I gf_C
  rw [if_neg hb, if_neg hb]
theorem gf_v168 {r : Nat → Int32} : gf_J ((u.1, u.2.1, u.2.2.1, u.2.2.2.1, u.2.2.2.2.1, u.2.2.2.2.2.1, u.2.2.2.2.2.2.1, r, u.2.2.2.2.2.2.2.2.1, u.2.2.2.2.2.2.2.2.2.1, u.2.2.2.2.2.2.2.2.2.2.1, u.2.2.2.2.2.2.2.2.2.2.2.1, u.2.2.2.2.2.2.2.2.2.2.2.2.1, u.2.2.2.2.2.2.2.2.2.2.2.2.2.1, u.2.2.2.2.2.2.2.2.2.2.2.2.2.2) : gU) x o = gf_J u x o := rfl
theorem gf_w169 {i : Nat} {v : Int32} : gm_up (gf_I u x) 169 i v = gf_I ((u.1, u.2.1, u.2.2.1, u.2.2.2.1, u.2.2.2.2.1, u.2.2.2.2.2.1, u.2.2.2.2.2.2.1, u.2.2.2.2.2.2.2.1, gup u.2.2.2.2.2.2.2.2.1 i v, u.2.2.2.2.2.2.2.2.2.1, u.2.2.2.2.2.2.2.2.2.2.1, u.2.2.2.2.2.2.2.2.2.2.2.1, u.2.2.2.2.2.2.2.2.2.2.2.2.1, u.2.2.2.2.2.2.2.2.2.2.2.2.2.1, u.2.2.2.2.2.2.2.2.2.2.2.2.2.2) : gU) x := by
  refine gf_up rfl ?_
  intro b hb
  unfold gf_I gf_C
  rw [if_neg hb, if_neg hb]
theorem gf_v169 {r : Nat → Int32} : gf_J ((u.1, u.2.1, u.2.2.1, u.2.2.2.1, u.2.2.2.2.1, u.2.2.2.2.2.1, u.2.2.2.2.2.2.1, u.2.2.2.2.2.2.2.1, r, u.2.2.2.2.2.2.2.2.2.1, u.2.2.2.2.2.2.2.2.2.2.1, u.2.2.2.2.2.2.2.2.2.2.2.1, u.2.2.2.2.2.2.2.2.2.2.2.2.1, u.2.2.2.2.2.2.2.2.2.2.2.2.2.1, u.2.2.2.2.2.2.2.2.2.2.2.2.2.2) : gU) x o = gf_J u x o := rfl
theorem gf_w170 {i : Nat} {v : Int32} : gm_up (gf_I u x) 170 i v = gf_I ((u.1, u.2.1, u.2.2.1, u.2.2.2.1, u.2.2.2.2.1, u.2.2.2.2.2.1, u.2.2.2.2.2.2.1, u.2.2.2.2.2.2.2.1, u.2.2.2.2.2.2.2.2.1, gup u.2.2.2.2.2.2.2.2.2.1 i v, u.2.2.2.2.2.2.2.2.2.2.1, u.2.2.2.2.2.2.2.2.2.2.2.1, u.2.2.2.2.2.2.2.2.2.2.2.2.1, u.2.2.2.2.2.2.2.2.2.2.2.2.2.1, u.2.2.2.2.2.2.2.2.2.2.2.2.2.2) : gU) x := by
  refine gf_up rfl ?_
  intro b hb
  unfold gf_I gf_C
  rw [if_neg hb, if_neg hb]
theorem gf_v170 {r : Nat → Int32} : gf_J ((u.1, u.2.1, u.2.2.1, u.2.2.2.1, u.2.2.2.2.1, u.2.2.2.2.2.1, u.2.2.2.2.2.2.1, u.2.2.2.2.2.2.2.1, u.2.2.2.2.2.2.2.2.1, r, u.2.2.2.2.2.2.2.2.2.2.1, u.2.2.2.2.2.2.2.2.2.2.2.1, u.2.2.2.2.2.2.2.2.2.2.2.2.1, u.2.2.2.2.2.2.2.2.2.2.2.2.2.1, u.2.2.2.2.2.2.2.2.2.2.2.2.2.2) : gU) x o = gf_J u x o := rfl
theorem gf_w171 {i : Nat} {v : Int32} : gm_up (gf_I u x) 171 i v = gf_I ((u.1, u.2.1, u.2.2.1, u.2.2.2.1, u.2.2.2.2.1, u.2.2.2.2.2.1, u.2.2.2.2.2.2.1, u.2.2.2.2.2.2.2.1, u.2.2.2.2.2.2.2.2.1, u.2.2.2.2.2.2.2.2.2.1, gup u.2.2.2.2.2.2.2.2.2.2.1 i v, u.2.2.2.2.2.2.2.2.2.2.2.1, u.2.2.2.2.2.2.2.2.2.2.2.2.1, u.2.2.2.2.2.2.2.2.2.2.2.2.2.1, u.2.2.2.2.2.2.2.2.2.2.2.2.2.2) : gU) x := by
  refine gf_up rfl ?_
  intro b hb
  unfold gf_I gf_C
  rw [if_neg hb, if_neg hb]
theorem gf_v171 {r : Nat → Int32} : gf_J ((u.1, u.2.1, u.2.2.1, u.2.2.2.1, u.2.2.2.2.1, u.2.2.2.2.2.1, u.2.2.2.2.2.2.1, u.2.2.2.2.2.2.2.1, u.2.2.2.2.2.2.2.2.1, u.2.2.2.2.2.2.2.2.2.1, r, u.2.2.2.2.2.2.2.2.2.2.2.1, u.2.2.2.2.2.2.2.2.2.2.2.2.1, u.2.2.2.2.2.2.2.2.2.2.2.2.2.1, u.2.2.2.2.2.2.2.2.2.2.2.2.2.2) : gU) x o = gf_J u x o := rfl
theorem gf_w172 {i : Nat} {v : Int32} : gm_up (gf_I u x) 172 i v = gf_I ((u.1, u.2.1, u.2.2.1, u.2.2.2.1, u.2.2.2.2.1, u.2.2.2.2.2.1, u.2.2.2.2.2.2.1, u.2.2.2.2.2.2.2.1, u.2.2.2.2.2.2.2.2.1, u.2.2.2.2.2.2.2.2.2.1, u.2.2.2.2.2.2.2.2.2.2.1, gup u.2.2.2.2.2.2.2.2.2.2.2.1 i v, u.2.2.2.2.2.2.2.2.2.2.2.2.1, u.2.2.2.2.2.2.2.2.2.2.2.2.2.1, u.2.2.2.2.2.2.2.2.2.2.2.2.2.2) : gU) x := by
  refine gf_up rfl ?_
  intro b hb
  unfold gf_I gf_C
  rw [if_neg hb, if_neg hb]
theorem gf_v172 {r : Nat → Int32} : gf_J ((u.1, u.2.1, u.2.2.1, u.2.2.2.1, u.2.2.2.2.1, u.2.2.2.2.2.1, u.2.2.2.2.2.2.1, u.2.2.2.2.2.2.2.1, u.2.2.2.2.2.2.2.2.1, u.2.2.2.2.2.2.2.2.2.1, u.2.2.2.2.2.2.2.2.2.2.1, r, u.2.2.2.2.2.2.2.2.2.2.2.2.1, u.2.2.2.2.2.2.2.2.2.2.2.2.2.1, u.2.2.2.2.2.2.2.2.2.2.2.2.2.2) : gU) x o = gf_J u x o := rfl
theorem gf_w187 {i : Nat} {v : Int32} : gm_up (gf_I u x) 187 i v = gf_I ((u.1, u.2.1, u.2.2.1, u.2.2.2.1, u.2.2.2.2.1, u.2.2.2.2.2.1, u.2.2.2.2.2.2.1, u.2.2.2.2.2.2.2.1, u.2.2.2.2.2.2.2.2.1, u.2.2.2.2.2.2.2.2.2.1, u.2.2.2.2.2.2.2.2.2.2.1, u.2.2.2.2.2.2.2.2.2.2.2.1, gup u.2.2.2.2.2.2.2.2.2.2.2.2.1 i v, u.2.2.2.2.2.2.2.2.2.2.2.2.2.1, u.2.2.2.2.2.2.2.2.2.2.2.2.2.2) : gU) x := by
  refine gf_up rfl ?_
  intro b hb
  unfold gf_I gf_C
  rw [if_neg hb, if_neg hb]
theorem gf_v187 {r : Nat → Int32} : gf_J ((u.1, u.2.1, u.2.2.1, u.2.2.2.1, u.2.2.2.2.1, u.2.2.2.2.2.1, u.2.2.2.2.2.2.1, u.2.2.2.2.2.2.2.1, u.2.2.2.2.2.2.2.2.1, u.2.2.2.2.2.2.2.2.2.1, u.2.2.2.2.2.2.2.2.2.2.1, u.2.2.2.2.2.2.2.2.2.2.2.1, r, u.2.2.2.2.2.2.2.2.2.2.2.2.2.1, u.2.2.2.2.2.2.2.2.2.2.2.2.2.2) : gU) x o = gf_J u x o := rfl
theorem gf_w188 {i : Nat} {v : Int32} : gm_up (gf_I u x) 188 i v = gf_I u ((x.1, gup x.2.1 i v, x.2.2.1, x.2.2.2.1, x.2.2.2.2.1, x.2.2.2.2.2.1, x.2.2.2.2.2.2.1, x.2.2.2.2.2.2.2.1, x.2.2.2.2.2.2.2.2.1, x.2.2.2.2.2.2.2.2.2.1, x.2.2.2.2.2.2.2.2.2.2.1, x.2.2.2.2.2.2.2.2.2.2.2.1, x.2.2.2.2.2.2.2.2.2.2.2.2.1, x.2.2.2.2.2.2.2.2.2.2.2.2.2.1, x.2.2.2.2.2.2.2.2.2.2.2.2.2.2.1, x.2.2.2.2.2.2.2.2.2.2.2.2.2.2.2) : gX) := by
  refine gf_up rfl ?_
  intro b hb
  unfold gf_I gf_X
  rw [if_neg hb, if_neg hb]
theorem gf_v188 {r : Nat → Int32} : gf_J u ((x.1, r, x.2.2.1, x.2.2.2.1, x.2.2.2.2.1, x.2.2.2.2.2.1, x.2.2.2.2.2.2.1, x.2.2.2.2.2.2.2.1, x.2.2.2.2.2.2.2.2.1, x.2.2.2.2.2.2.2.2.2.1, x.2.2.2.2.2.2.2.2.2.2.1, x.2.2.2.2.2.2.2.2.2.2.2.1, x.2.2.2.2.2.2.2.2.2.2.2.2.1, x.2.2.2.2.2.2.2.2.2.2.2.2.2.1, x.2.2.2.2.2.2.2.2.2.2.2.2.2.2.1, x.2.2.2.2.2.2.2.2.2.2.2.2.2.2.2) : gX) o = gf_J u x o := rfl
theorem gf_w197 {i : Nat} {v : Int32} : gm_up (gf_I u x) 197 i v = gf_I u ((x.1, x.2.1, gup x.2.2.1 i v, x.2.2.2.1, x.2.2.2.2.1, x.2.2.2.2.2.1, x.2.2.2.2.2.2.1, x.2.2.2.2.2.2.2.1, x.2.2.2.2.2.2.2.2.1, x.2.2.2.2.2.2.2.2.2.1, x.2.2.2.2.2.2.2.2.2.2.1, x.2.2.2.2.2.2.2.2.2.2.2.1, x.2.2.2.2.2.2.2.2.2.2.2.2.1, x.2.2.2.2.2.2.2.2.2.2.2.2.2.1, x.2.2.2.2.2.2.2.2.2.2.2.2.2.2.1, x.2.2.2.2.2.2.2.2.2.2.2.2.2.2.2) : gX) := by
  refine gf_up rfl ?_
  intro b hb
  unfold gf_I gf_X
  rw [if_neg hb, if_neg hb]
theorem gf_v197 {r : Nat → Int32} : gf_J u ((x.1, x.2.1, r, x.2.2.2.1, x.2.2.2.2.1, x.2.2.2.2.2.1, x.2.2.2.2.2.2.1, x.2.2.2.2.2.2.2.1, x.2.2.2.2.2.2.2.2.1, x.2.2.2.2.2.2.2.2.2.1, x.2.2.2.2.2.2.2.2.2.2.1, x.2.2.2.2.2.2.2.2.2.2.2.1, x.2.2.2.2.2.2.2.2.2.2.2.2.1, x.2.2.2.2.2.2.2.2.2.2.2.2.2.1, x.2.2.2.2.2.2.2.2.2.2.2.2.2.2.1, x.2.2.2.2.2.2.2.2.2.2.2.2.2.2.2) : gX) o = gf_J u x o := rfl
theorem gf_w198 {i : Nat} {v : Int32} : gm_up (gf_I u x) 198 i v = gf_I u ((x.1, x.2.1, x.2.2.1, gup x.2.2.2.1 i v, x.2.2.2.2.1, x.2.2.2.2.2.1, x.2.2.2.2.2.2.1, x.2.2.2.2.2.2.2.1, x.2.2.2.2.2.2.2.2.1, x.2.2.2.2.2.2.2.2.2.1, x.2.2.2.2.2.2.2.2.2.2.1, x.2.2.2.2.2.2.2.2.2.2.2.1, x.2.2.2.2.2.2.2.2.2.2.2.2.1, x.2.2.2.2.2.2.2.2.2.2.2.2.2.1, x.2.2.2.2.2.2.2.2.2.2.2.2.2.2.1, x.2.2.2.2.2.2.2.2.2.2.2.2.2.2.2) : gX) := by
  refine gf_up rfl ?_
  intro b hb
  unfold gf_I gf_X
  rw [if_neg hb, if_neg hb]
theorem gf_v198 {r : Nat → Int32} : gf_J u ((x.1, x.2.1, x.2.2.1, r, x.2.2.2.2.1, x.2.2.2.2.2.1, x.2.2.2.2.2.2.1, x.2.2.2.2.2.2.2.1, x.2.2.2.2.2.2.2.2.1, x.2.2.2.2.2.2.2.2.2.1, x.2.2.2.2.2.2.2.2.2.2.1, x.2.2.2.2.2.2.2.2.2.2.2.1, x.2.2.2.2.2.2.2.2.2.2.2.2.1, x.2.2.2.2.2.2.2.2.2.2.2.2.2.1, x.2.2.2.2.2.2.2.2.2.2.2.2.2.2.1, x.2.2.2.2.2.2.2.2.2.2.2.2.2.2.2) : gX) o = gf_J u x o := rfl
theorem gf_w199 {i : Nat} {v : Int32} : gm_up (gf_I u x) 199 i v = gf_I u ((x.1, x.2.1, x.2.2.1, x.2.2.2.1, gup x.2.2.2.2.1 i v, x.2.2.2.2.2.1, x.2.2.2.2.2.2.1, x.2.2.2.2.2.2.2.1, x.2.2.2.2.2.2.2.2.1, x.2.2.2.2.2.2.2.2.2.1, x.2.2.2.2.2.2.2.2.2.2.1, x.2.2.2.2.2.2.2.2.2.2.2.1, x.2.2.2.2.2.2.2.2.2.2.2.2.1, x.2.2.2.2.2.2.2.2.2.2.2.2.2.1, x.2.2.2.2.2.2.2.2.2.2.2.2.2.2.1, x.2.2.2.2.2.2.2.2.2.2.2.2.2.2.2) : gX) := by
  refine gf_up rfl ?_
  intro b hb
  unfold gf_I gf_X
  rw [if_neg hb, if_neg hb]
theorem gf_v199 {r : Nat → Int32} : gf_J u ((x.1, x.2.1, x.2.2.1, x.2.2.2.1, r, x.2.2.2.2.2.1, x.2.2.2.2.2.2.1, x.2.2.2.2.2.2.2.1, x.2.2.2.2.2.2.2.2.1, x.2.2.2.2.2.2.2.2.2.1, x.2.2.2.2.2.2.2.2.2.2.1, x.2.2.2.2.2.2.2.2.2.2.2.1, x.2.2.2.2.2.2.2.2.2.2.2.2.1, x.2.2.2.2.2.2.2.2.2.2.2.2.2.1, x.2.2.2.2.2.2.2.2.2.2.2.2.2.2.1, x.2.2.2.2.2.2.2.2.2.2.2.2.2.2.2) : gX) o = gf_J u x o := rfl
theorem gf_w200 {i : Nat} {v : Int32} : gm_up (gf_I u x) 200 i v = gf_I u ((x.1, x.2.1, x.2.2.1, x.2.2.2.1, x.2.2.2.2.1, gup x.2.2.2.2.2.1 i v, x.2.2.2.2.2.2.1, x.2.2.2.2.2.2.2.1, x.2.2.2.2.2.2.2.2.1, x.2.2.2.2.2.2.2.2.2.1, x.2.2.2.2.2.2.2.2.2.2.1, x.2.2.2.2.2.2.2.2.2.2.2.1, x.2.2.2.2.2.2.2.2.2.2.2.2.1, x.2.2.2.2.2.2.2.2.2.2.2.2.2.1, x.2.2.2.2.2.2.2.2.2.2.2.2.2.2.1, x.2.2.2.2.2.2.2.2.2.2.2.2.2.2.2) : gX) := by
  refine gf_up rfl ?_
  intro b hb
  unfold gf_I gf_X
  rw [if_neg hb, if_neg hb]
theorem gf_v200 {r : Nat → Int32} : gf_J u ((x.1, x.2.1, x.2.2.1, x.2.2.2.1, x.2.2.2.2.1, r, x.2.2.2.2.2.2.1, x.2.2.2.2.2.2.2.1, x.2.2.2.2.2.2.2.2.1, x.2.2.2.2.2.2.2.2.2.1, x.2.2.2.2.2.2.2.2.2.2.1, x.2.2.2.2.2.2.2.2.2.2.2.1, x.2.2.2.2.2.2.2.2.2.2.2.2.1, x.2.2.2.2.2.2.2.2.2.2.2.2.2.1, x.2.2.2.2.2.2.2.2.2.2.2.2.2.2.1, x.2.2.2.2.2.2.2.2.2.2.2.2.2.2.2) : gX) o = gf_J u x o := rfl
theorem gf_w201 {i : Nat} {v : Int32} : gm_up (gf_I u x) 201 i v = gf_I u ((x.1, x.2.1, x.2.2.1, x.2.2.2.1, x.2.2.2.2.1, x.2.2.2.2.2.1, gup x.2.2.2.2.2.2.1 i v, x.2.2.2.2.2.2.2.1, x.2.2.2.2.2.2.2.2.1, x.2.2.2.2.2.2.2.2.2.1, x.2.2.2.2.2.2.2.2.2.2.1, x.2.2.2.2.2.2.2.2.2.2.2.1, x.2.2.2.2.2.2.2.2.2.2.2.2.1, x.2.2.2.2.2.2.2.2.2.2.2.2.2.1, x.2.2.2.2.2.2.2.2.2.2.2.2.2.2.1, x.2.2.2.2.2.2.2.2.2.2.2.2.2.2.2) : gX) := by
  refine gf_up rfl ?_
  intro b hb
  unfold gf_I gf_X
  rw [if_neg hb, if_neg hb]
theorem gf_v201 {r : Nat → Int32} : gf_J u ((x.1, x.2.1, x.2.2.1, x.2.2.2.1, x.2.2.2.2.1, x.2.2.2.2.2.1, r, x.2.2.2.2.2.2.2.1, x.2.2.2.2.2.2.2.2.1, x.2.2.2.2.2.2.2.2.2.1, x.2.2.2.2.2.2.2.2.2.2.1, x.2.2.2.2.2.2.2.2.2.2.2.1, x.2.2.2.2.2.2.2.2.2.2.2.2.1, x.2.2.2.2.2.2.2.2.2.2.2.2.2.1, x.2.2.2.2.2.2.2.2.2.2.2.2.2.2.1, x.2.2.2.2.2.2.2.2.2.2.2.2.2.2.2) : gX) o = gf_J u x o := rfl
theorem gf_w202 {i : Nat} {v : Int32} : gm_up (gf_I u x) 202 i v = gf_I u ((x.1, x.2.1, x.2.2.1, x.2.2.2.1, x.2.2.2.2.1, x.2.2.2.2.2.1, x.2.2.2.2.2.2.1, gup x.2.2.2.2.2.2.2.1 i v, x.2.2.2.2.2.2.2.2.1, x.2.2.2.2.2.2.2.2.2.1, x.2.2.2.2.2.2.2.2.2.2.1, x.2.2.2.2.2.2.2.2.2.2.2.1, x.2.2.2.2.2.2.2.2.2.2.2.2.1, x.2.2.2.2.2.2.2.2.2.2.2.2.2.1, x.2.2.2.2.2.2.2.2.2.2.2.2.2.2.1, x.2.2.2.2.2.2.2.2.2.2.2.2.2.2.2) : gX) := by
  refine gf_up rfl ?_
  intro b hb
  unfold gf_I gf_X
  rw [if_neg hb, if_neg hb]
theorem gf_v202 {r : Nat → Int32} : gf_J u ((x.1, x.2.1, x.2.2.1, x.2.2.2.1, x.2.2.2.2.1, x.2.2.2.2.2.1, x.2.2.2.2.2.2.1, r, x.2.2.2.2.2.2.2.2.1, x.2.2.2.2.2.2.2.2.2.1, x.2.2.2.2.2.2.2.2.2.2.1, x.2.2.2.2.2.2.2.2.2.2.2.1, x.2.2.2.2.2.2.2.2.2.2.2.2.1, x.2.2.2.2.2.2.2.2.2.2.2.2.2.1, x.2.2.2.2.2.2.2.2.2.2.2.2.2.2.1, x.2.2.2.2.2.2.2.2.2.2.2.2.2.2.2) : gX) o = gf_J u x o := rfl
theorem gf_w203 {i : Nat} {v : Int32} : gm_up (gf_I u x) 203 i v = gf_I u ((x.1, x.2.1, x.2.2.1, x.2.2.2.1, x.2.2.2.2.1, x.2.2.2.2.2.1, x.2.2.2.2.2.2.1, x.2.2.2.2.2.2.2.1, gup x.2.2.2.2.2.2.2.2.1 i v, x.2.2.2.2.2.2.2.2.2.1, x.2.2.2.2.2.2.2.2.2.2.1, x.2.2.2.2.2.2.2.2.2.2.2.1, x.2.2.2.2.2.2.2.2.2.2.2.2.1, x.2.2.2.2.2.2.2.2.2.2.2.2.2.1, x.2.2.2.2.2.2.2.2.2.2.2.2.2.2.1, x.2.2.2.2.2.2.2.2.2.2.2.2.2.2.2) : gX) := by
  refine gf_up rfl ?_
  intro b hb
  unfold gf_I gf_X
  rw [if_neg hb, if_neg hb]
theorem gf_v203 {r : Nat → Int32} : gf_J u ((x.1, x.2.1, x.2.2.1, x.2.2.2.1, x.2.2.2.2.1, x.2.2.2.2.2.1, x.2.2.2.2.2.2.1, x.2.2.2.2.2.2.2.1, r, x.2.2.2.2.2.2.2.2.2.1, x.2.2.2.2.2.2.2.2.2.2.1, x.2.2.2.2.2.2.2.2.2.2.2.1, x.2.2.2.2.2.2.2.2.2.2.2.2.1, x.2.2.2.2.2.2.2.2.2.2.2.2.2.1, x.2.2.2.2.2.2.2.2.2.2.2.2.2.2.1, x.2.2.2.2.2.2.2.2.2.2.2.2.2.2.2) : gX) o = gf_J u x o := rfl
theorem gf_w204 {i : Nat} {v : Int32} : gm_up (gf_I u x) 204 i v = gf_I u ((x.1, x.2.1, x.2.2.1, x.2.2.2.1, x.2.2.2.2.1, x.2.2.2.2.2.1, x.2.2.2.2.2.2.1, x.2.2.2.2.2.2.2.1, x.2.2.2.2.2.2.2.2.1, gup x.2.2.2.2.2.2.2.2.2.1 i v, x.2.2.2.2.2.2.2.2.2.2.1, x.2.2.2.2.2.2.2.2.2.2.2.1, x.2.2.2.2.2.2.2.2.2.2.2.2.1, x.2.2.2.2.2.2.2.2.2.2.2.2.2.1, x.2.2.2.2.2.2.2.2.2.2.2.2.2.2.1, x.2.2.2.2.2.2.2.2.2.2.2.2.2.2.2) : gX) := by
  refine gf_up rfl ?_
  intro b hb
  unfold gf_I gf_X
  rw [if_neg hb, if_neg hb]
theorem gf_v204 {r : Nat → Int32} : gf_J u ((x.1, x.2.1, x.2.2.1, x.2.2.2.1, x.2.2.2.2.1, x.2.2.2.2.2.1, x.2.2.2.2.2.2.1, x.2.2.2.2.2.2.2.1, x.2.2.2.2.2.2.2.2.1, r, x.2.2.2.2.2.2.2.2.2.2.1, x.2.2.2.2.2.2.2.2.2.2.2.1, x.2.2.2.2.2.2.2.2.2.2.2.2.1, x.2.2.2.2.2.2.2.2.2.2.2.2.2.1, x.2.2.2.2.2.2.2.2.2.2.2.2.2.2.1, x.2.2.2.2.2.2.2.2.2.2.2.2.2.2.2) : gX) o = gf_J u x o := rfl
theorem gf_w205 {i : Nat} {v : Int32} : gm_up (gf_I u x) 205 i v = gf_I u ((x.1, x.2.1, x.2.2.1, x.2.2.2.1, x.2.2.2.2.1, x.2.2.2.2.2.1, x.2.2.2.2.2.2.1, x.2.2.2.2.2.2.2.1, x.2.2.2.2.2.2.2.2.1, x.2.2.2.2.2.2.2.2.2.1, gup x.2.2.2.2.2.2.2.2.2.2.1 i v, x.2.2.2.2.2.2.2.2.2.2.2.1, x.2.2.2.2.2.2.2.2.2.2.2.2.1, x.2.2.2.2.2.2.2.2.2.2.2.2.2.1, x.2.2.2.2.2.2.2.2.2.2.2.2.2.2.1, x.2.2.2.2.2.2.2.2.2.2.2.2.2.2.2) : gX) := by
  refine gf_up rfl ?_
  intro b hb
  unfold gf_I gf_X
  rw [if_neg hb, if_neg hb]
theorem gf_v205 {r : Nat → Int32} : gf_J u ((x.1, x.2.1, x.2.2.1, x.2.2.2.1, x.2.2.2.2.1, x.2.2.2.2.2.1, x.2.2.2.2.2.2.1, x.2.2.2.2.2.2.2.1, x.2.2.2.2.2.2.2.2.1, x.2.2.2.2.2.2.2.2.2.1, r, x.2.2.2.2.2.2.2.2.2.2.2.1, x.2.2.2.2.2.2.2.2.2.2.2.2.1, x.2.2.2.2.2.2.2.2.2.2.2.2.2.1, x.2.2.2.2.2.2.2.2.2.2.2.2.2.2.1, x.2.2.2.2.2.2.2.2.2.2.2.2.2.2.2) : gX) o = gf_J u x o := rfl
theorem gf_w206 {i : Nat} {v : Int32} : gm_up (gf_I u x) 206 i v = gf_I u ((x.1, x.2.1, x.2.2.1, x.2.2.2.1, x.2.2.2.2.1, x.2.2.2.2.2.1, x.2.2.2.2.2.2.1, x.2.2.2.2.2.2.2.1, x.2.2.2.2.2.2.2.2.1, x.2.2.2.2.2.2.2.2.2.1, x.2.2.2.2.2.2.2.2.2.2.1, gup x.2.2.2.2.2.2.2.2.2.2.2.1 i v, x.2.2.2.2.2.2.2.2.2.2.2.2.1, x.2.2.2.2.2.2.2.2.2.2.2.2.2.1, x.2.2.2.2.2.2.2.2.2.2.2.2.2.2.1, x.2.2.2.2.2.2.2.2.2.2.2.2.2.2.2) : gX) := by
  refine gf_up rfl ?_
  intro b hb
  unfold gf_I gf_X
  rw [if_neg hb, if_neg hb]
theorem gf_v206 {r : Nat → Int32} : gf_J u ((x.1, x.2.1, x.2.2.1, x.2.2.2.1, x.2.2.2.2.1, x.2.2.2.2.2.1, x.2.2.2.2.2.2.1, x.2.2.2.2.2.2.2.1, x.2.2.2.2.2.2.2.2.1, x.2.2.2.2.2.2.2.2.2.1, x.2.2.2.2.2.2.2.2.2.2.1, r, x.2.2.2.2.2.2.2.2.2.2.2.2.1, x.2.2.2.2.2.2.2.2.2.2.2.2.2.1, x.2.2.2.2.2.2.2.2.2.2.2.2.2.2.1, x.2.2.2.2.2.2.2.2.2.2.2.2.2.2.2) : gX) o = gf_J u x o := rfl
theorem gf_w207 {i : Nat} {v : Int32} : gm_up (gf_I u x) 207 i v = gf_I u ((x.1, x.2.1, x.2.2.1, x.2.2.2.1, x.2.2.2.2.1, x.2.2.2.2.2.1, x.2.2.2.2.2.2.1, x.2.2.2.2.2.2.2.1, x.2.2.2.2.2.2.2.2.1, x.2.2.2.2.2.2.2.2.2.1, x.2.2.2.2.2.2.2.2.2.2.1, x.2.2.2.2.2.2.2.2.2.2.2.1, gup x.2.2.2.2.2.2.2.2.2.2.2.2.1 i v, x.2.2.2.2.2.2.2.2.2.2.2.2.2.1, x.2.2.2.2.2.2.2.2.2.2.2.2.2.2.1, x.2.2.2.2.2.2.2.2.2.2.2.2.2.2.2) : gX) := by
  refine gf_up rfl ?_
  intro b hb
  unfold gf_I gf_X
  rw [if_neg hb, if_neg hb]
theorem gf_v207 {r : Nat → Int32} : gf_J u ((x.1, x.2.1, x.2.2.1, x.2.2.2.1, x.2.2.2.2.1, x.2.2.2.2.2.1, x.2.2.2.2.2.2.1, x.2.2.2.2.2.2.2.1, x.2.2.2.2.2.2.2.2.1, x.2.2.2.2.2.2.2.2.2.1, x.2.2.2.2.2.2.2.2.2.2.1, x.2.2.2.2.2.2.2.2.2.2.2.1, r, x.2.2.2.2.2.2.2.2.2.2.2.2.2.1, x.2.2.2.2.2.2.2.2.2.2.2.2.2.2.1, x.2.2.2.2.2.2.2.2.2.2.2.2.2.2.2) : gX) o = gf_J u x o := rfl
theorem gf_w208 {i : Nat} {v : Int32} : gm_up (gf_I u x) 208 i v = gf_I u ((x.1, x.2.1, x.2.2.1, x.2.2.2.1, x.2.2.2.2.1, x.2.2.2.2.2.1, x.2.2.2.2.2.2.1, x.2.2.2.2.2.2.2.1, x.2.2.2.2.2.2.2.2.1, x.2.2.2.2.2.2.2.2.2.1, x.2.2.2.2.2.2.2.2.2.2.1, x.2.2.2.2.2.2.2.2.2.2.2.1, x.2.2.2.2.2.2.2.2.2.2.2.2.1, gup x.2.2.2.2.2.2.2.2.2.2.2.2.2.1 i v, x.2.2.2.2.2.2.2.2.2.2.2.2.2.2.1, x.2.2.2.2.2.2.2.2.2.2.2.2.2.2.2) : gX) := by
  refine gf_up rfl ?_
  intro b hb
  unfold gf_I gf_X
  rw [if_neg hb, if_neg hb]
theorem gf_v208 {r : Nat → Int32} : gf_J u ((x.1, x.2.1, x.2.2.1, x.2.2.2.1, x.2.2.2.2.1, x.2.2.2.2.2.1, x.2.2.2.2.2.2.1, x.2.2.2.2.2.2.2.1, x.2.2.2.2.2.2.2.2.1, x.2.2.2.2.2.2.2.2.2.1, x.2.2.2.2.2.2.2.2.2.2.1, x.2.2.2.2.2.2.2.2.2.2.2.1, x.2.2.2.2.2.2.2.2.2.2.2.2.1, r, x.2.2.2.2.2.2.2.2.2.2.2.2.2.2.1, x.2.2.2.2.2.2.2.2.2.2.2.2.2.2.2) : gX) o = gf_J u x o := rfl
theorem gf_w209 {i : Nat} {v : Int32} : gm_up (gf_I u x) 209 i v = gf_I u ((x.1, x.2.1, x.2.2.1, x.2.2.2.1, x.2.2.2.2.1, x.2.2.2.2.2.1, x.2.2.2.2.2.2.1, x.2.2.2.2.2.2.2.1, x.2.2.2.2.2.2.2.2.1, x.2.2.2.2.2.2.2.2.2.1, x.2.2.2.2.2.2.2.2.2.2.1, x.2.2.2.2.2.2.2.2.2.2.2.1, x.2.2.2.2.2.2.2.2.2.2.2.2.1, x.2.2.2.2.2.2.2.2.2.2.2.2.2.1, gup x.2.2.2.2.2.2.2.2.2.2.2.2.2.2.1 i v, x.2.2.2.2.2.2.2.2.2.2.2.2.2.2.2) : gX) := by
  refine gf_up rfl ?_
  intro b hb
  unfold gf_I gf_X
  rw [if_neg hb, if_neg hb]
theorem gf_v209 {r : Nat → Int32} : gf_J u ((x.1, x.2.1, x.2.2.1, x.2.2.2.1, x.2.2.2.2.1, x.2.2.2.2.2.1, x.2.2.2.2.2.2.1, x.2.2.2.2.2.2.2.1, x.2.2.2.2.2.2.2.2.1, x.2.2.2.2.2.2.2.2.2.1, x.2.2.2.2.2.2.2.2.2.2.1, x.2.2.2.2.2.2.2.2.2.2.2.1, x.2.2.2.2.2.2.2.2.2.2.2.2.1, x.2.2.2.2.2.2.2.2.2.2.2.2.2.1, r, x.2.2.2.2.2.2.2.2.2.2.2.2.2.2.2) : gX) o = gf_J u x o := rfl
theorem gf_w210 {i : Nat} {v : Int32} : gm_up (gf_I u x) 210 i v = gf_I u ((x.1, x.2.1, x.2.2.1, x.2.2.2.1, x.2.2.2.2.1, x.2.2.2.2.2.1, x.2.2.2.2.2.2.1, x.2.2.2.2.2.2.2.1, x.2.2.2.2.2.2.2.2.1, x.2.2.2.2.2.2.2.2.2.1, x.2.2.2.2.2.2.2.2.2.2.1, x.2.2.2.2.2.2.2.2.2.2.2.1, x.2.2.2.2.2.2.2.2.2.2.2.2.1, x.2.2.2.2.2.2.2.2.2.2.2.2.2.1, x.2.2.2.2.2.2.2.2.2.2.2.2.2.2.1, gup x.2.2.2.2.2.2.2.2.2.2.2.2.2.2.2 i v) : gX) := by
  refine gf_up rfl ?_
  intro b hb
  unfold gf_I gf_X
  rw [if_neg hb, if_neg hb]
theorem gf_v210 {r : Nat → Int32} : gf_J u ((x.1, x.2.1, x.2.2.1, x.2.2.2.1, x.2.2.2.2.1, x.2.2.2.2.2.1, x.2.2.2.2.2.2.1, x.2.2.2.2.2.2.2.1, x.2.2.2.2.2.2.2.2.1, x.2.2.2.2.2.2.2.2.2.1, x.2.2.2.2.2.2.2.2.2.2.1, x.2.2.2.2.2.2.2.2.2.2.2.1, x.2.2.2.2.2.2.2.2.2.2.2.2.1, x.2.2.2.2.2.2.2.2.2.2.2.2.2.1, x.2.2.2.2.2.2.2.2.2.2.2.2.2.2.1, r) : gX) o = gf_J u x o := rfl
theorem gf_tI {k r : Nat} (h : k < 32) (hr : r < 5) : gf_I u x (3 + 5 * k + r) = gf_T (u.1 k) r := by
  unfold gf_I
  rw [if_pos (by omega), if_neg (by omega), show (3 + 5 * k + r - 3) / 5 = k by omega, show (3 + 5 * k + r - 3) % 5 = r by omega]
theorem gf_tJ {k : Nat} (h : k < 32) : gf_J u x o (3 + 5 * k) = (u.1 k).2.2.2.2.2 := by
  unfold gf_J
  rw [if_pos (by omega), if_neg (by omega), if_pos (by omega), show (3 + 5 * k - 3) / 5 = k by omega]
theorem gf_tw {k r i : Nat} {v : Int32} {q : gQ} (h : k < 32) (hr : r < 5) (h1 : gf_T q r = gup (gf_T (u.1 k) r) i v) (h2 : ∀ s, ¬ s = r → s < 5 → gf_T q s = gf_T (u.1 k) s) : gm_up (gf_I u x) (3 + 5 * k + r) i v = gf_I ((gup u.1 k q, u.2.1, u.2.2.1, u.2.2.2.1, u.2.2.2.2.1, u.2.2.2.2.2.1, u.2.2.2.2.2.2.1, u.2.2.2.2.2.2.2.1, u.2.2.2.2.2.2.2.2.1, u.2.2.2.2.2.2.2.2.2.1, u.2.2.2.2.2.2.2.2.2.2.1, u.2.2.2.2.2.2.2.2.2.2.2.1, u.2.2.2.2.2.2.2.2.2.2.2.2.1, u.2.2.2.2.2.2.2.2.2.2.2.2.2.1, u.2.2.2.2.2.2.2.2.2.2.2.2.2.2) : gU) x := by
  refine gf_up ?_ ?_
  · rw [gf_tI h hr, gf_tI h hr]
    show gf_T (gup u.1 k q k) r = _
    rw [gup_eq, h1]
  · intro b hb
    unfold gf_I
    by_cases c1 : b < 163
    · rw [if_pos c1, if_pos c1]
      by_cases c2 : b < 3
      · rw [if_pos c2, if_pos c2]
      · rw [if_neg c2, if_neg c2]
        show gf_T (gup u.1 k q ((b - 3) / 5)) ((b - 3) % 5) = _
        by_cases c3 : (b - 3) / 5 = k
        · rw [c3, gup_eq, h2 _ (by omega) (by omega)]
        · rw [gup_ne c3]
    · rw [if_neg c1, if_neg c1]; rfl
theorem gf_tv {k : Nat} {q : gQ} (hq : q.2.2.2.2.2 = (u.1 k).2.2.2.2.2) : gf_J ((gup u.1 k q, u.2.1, u.2.2.1, u.2.2.2.1, u.2.2.2.2.1, u.2.2.2.2.2.1, u.2.2.2.2.2.2.1, u.2.2.2.2.2.2.2.1, u.2.2.2.2.2.2.2.2.1, u.2.2.2.2.2.2.2.2.2.1, u.2.2.2.2.2.2.2.2.2.2.1, u.2.2.2.2.2.2.2.2.2.2.2.1, u.2.2.2.2.2.2.2.2.2.2.2.2.1, u.2.2.2.2.2.2.2.2.2.2.2.2.2.1, u.2.2.2.2.2.2.2.2.2.2.2.2.2.2) : gU) x o = gf_J u x o := by
  funext b
  unfold gf_J
  by_cases c1 : b < 163
  · rw [if_pos c1, if_pos c1]
    by_cases c2 : b < 3
    · rw [if_pos c2, if_pos c2]
    · rw [if_neg c2, if_neg c2]
      by_cases c4 : (b - 3) % 5 = 0
      · rw [if_pos c4, if_pos c4]
        show (gup u.1 k q ((b - 3) / 5)).2.2.2.2.2 = _
        by_cases c3 : (b - 3) / 5 = k
        · rw [c3, gup_eq, hq]
        · rw [gup_ne c3]
      · rw [if_neg c4, if_neg c4]
  · rw [if_neg c1, if_neg c1]
theorem gf_tj {k i : Nat} {v : Int64} (h : k < 32) : gm_uj (gf_J u x o) (3 + 5 * k) i v = gf_J ((gup u.1 k (((u.1 k).1, (u.1 k).2.1, (u.1 k).2.2.1, (u.1 k).2.2.2.1, (u.1 k).2.2.2.2.1, gup (u.1 k).2.2.2.2.2 i v) : gQ), u.2.1, u.2.2.1, u.2.2.2.1, u.2.2.2.2.1, u.2.2.2.2.2.1, u.2.2.2.2.2.2.1, u.2.2.2.2.2.2.2.1, u.2.2.2.2.2.2.2.2.1, u.2.2.2.2.2.2.2.2.2.1, u.2.2.2.2.2.2.2.2.2.2.1, u.2.2.2.2.2.2.2.2.2.2.2.1, u.2.2.2.2.2.2.2.2.2.2.2.2.1, u.2.2.2.2.2.2.2.2.2.2.2.2.2.1, u.2.2.2.2.2.2.2.2.2.2.2.2.2.2) : gU) x o := by
  refine gf_uj ?_ ?_
  · rw [gf_tJ h, gf_tJ h]
    show (gup u.1 k _ k).2.2.2.2.2 = _
    rw [gup_eq]
  · intro b hb
    unfold gf_J
    by_cases c1 : b < 163
    · rw [if_pos c1, if_pos c1]
      by_cases c2 : b < 3
      · rw [if_pos c2, if_pos c2]
      · rw [if_neg c2, if_neg c2]
        by_cases c4 : (b - 3) % 5 = 0
        · rw [if_pos c4, if_pos c4]
          show (gup u.1 k _ ((b - 3) / 5)).2.2.2.2.2 = _
          rw [gup_ne (by omega)]
        · rw [if_neg c4, if_neg c4]
    · rw [if_neg c1, if_neg c1]
theorem gf_ti {k : Nat} {r : Nat → Int64} : gf_I ((gup u.1 k (((u.1 k).1, (u.1 k).2.1, (u.1 k).2.2.1, (u.1 k).2.2.2.1, (u.1 k).2.2.2.2.1, r) : gQ), u.2.1, u.2.2.1, u.2.2.2.1, u.2.2.2.2.1, u.2.2.2.2.2.1, u.2.2.2.2.2.2.1, u.2.2.2.2.2.2.2.1, u.2.2.2.2.2.2.2.2.1, u.2.2.2.2.2.2.2.2.2.1, u.2.2.2.2.2.2.2.2.2.2.1, u.2.2.2.2.2.2.2.2.2.2.2.1, u.2.2.2.2.2.2.2.2.2.2.2.2.1, u.2.2.2.2.2.2.2.2.2.2.2.2.2.1, u.2.2.2.2.2.2.2.2.2.2.2.2.2.2) : gU) x = gf_I u x := by
  funext b
  unfold gf_I
  by_cases c1 : b < 163
  · rw [if_pos c1, if_pos c1]
    by_cases c2 : b < 3
    · rw [if_pos c2, if_pos c2]
    · rw [if_neg c2, if_neg c2]
      show gf_T (gup u.1 k _ ((b - 3) / 5)) ((b - 3) % 5) = _
      by_cases c3 : (b - 3) / 5 = k
      · rw [c3, gup_eq]; rfl
      · rw [gup_ne c3]
  · rw [if_neg c1, if_neg c1]; rfl
theorem gf_dI {d : Nat} (h : d < 13) : gf_I u x (174 + d) = u.2.2.2.2.2.2.2.2.2.2.2.2.2.1 d := by
  unfold gf_I gf_C
  rw [if_neg (by omega), if_pos (by omega), if_pos (by omega), show 174 + d - 174 = d by omega]
set_option maxRecDepth 10000 in
theorem gf_kd {k d n : Nat} (hk : k < 32) (h : d < 13) : gm_copy (gf_I u x) (3 + 5 * k + 2) (174 + d) 0 n = gf_I ((u.1, u.2.1, u.2.2.1, u.2.2.2.1, u.2.2.2.2.1, u.2.2.2.2.2.1, u.2.2.2.2.2.2.1, u.2.2.2.2.2.2.2.1, u.2.2.2.2.2.2.2.2.1, u.2.2.2.2.2.2.2.2.2.1, u.2.2.2.2.2.2.2.2.2.2.1, u.2.2.2.2.2.2.2.2.2.2.2.1, u.2.2.2.2.2.2.2.2.2.2.2.2.1, gup u.2.2.2.2.2.2.2.2.2.2.2.2.2.1 d (fun i => if i < n then (u.1 k).2.1 i else u.2.2.2.2.2.2.2.2.2.2.2.2.2.1 d i), u.2.2.2.2.2.2.2.2.2.2.2.2.2.2) : gU) x := by
  funext b j
  unfold gm_copy
  by_cases hb : b = 174 + d
  · subst hb
    rw [gf_dI h, gf_dI h, gf_tI hk (by omega)]
    show _ = gup u.2.2.2.2.2.2.2.2.2.2.2.2.2.1 d _ d j
    rw [gup_eq]
    by_cases hj : j < n
    · rw [if_pos ⟨rfl, by omega, hj⟩, if_pos hj]; rfl
    · rw [if_neg (fun q => hj q.2.2), if_neg hj]
  · rw [if_neg (fun q => hb q.1)]
    unfold gf_I gf_C
    by_cases c1 : b < 163
    · rw [if_pos c1, if_pos c1]
    · rw [if_neg c1, if_neg c1]
      by_cases c2 : b < 188
      · rw [if_pos c2, if_pos c2]
        by_cases c3 : 174 ≤ b ∧ b ≤ 186
        · rw [if_pos c3, if_pos c3]
          have ne : ¬ b - 174 = d := by omega
          have K := congrFun (gup_ne (f := u.2.2.2.2.2.2.2.2.2.2.2.2.2.1) (v := fun i => if i < n then (u.1 k).2.1 i else u.2.2.2.2.2.2.2.2.2.2.2.2.2.1 d i) ne) j
          exact K.symm
        · rw [if_neg c3, if_neg c3]
      · rw [if_neg c2, if_neg c2]
theorem gf_bl {n : Nat} : gm_copy (gf_I u x) 171 164 0 n = gf_I ((u.1, u.2.1, u.2.2.1, u.2.2.2.1, fun i => if i < n then u.2.2.2.2.2.2.2.2.2.2.1 i else u.2.2.2.2.1 i, u.2.2.2.2.2.1, u.2.2.2.2.2.2.1, u.2.2.2.2.2.2.2.1, u.2.2.2.2.2.2.2.2.1, u.2.2.2.2.2.2.2.2.2.1, u.2.2.2.2.2.2.2.2.2.2.1, u.2.2.2.2.2.2.2.2.2.2.2.1, u.2.2.2.2.2.2.2.2.2.2.2.2.1, u.2.2.2.2.2.2.2.2.2.2.2.2.2.1, u.2.2.2.2.2.2.2.2.2.2.2.2.2.2) : gU) x := by
  funext b j
  unfold gm_copy
  by_cases hb : b = 164
  · subst hb
    by_cases hj : j < n
    · rw [if_pos ⟨rfl, by omega, hj⟩]
      show u.2.2.2.2.2.2.2.2.2.2.1 j = if j < n then u.2.2.2.2.2.2.2.2.2.2.1 j else u.2.2.2.2.1 j
      rw [if_pos hj]
    · rw [if_neg (fun q => hj q.2.2)]
      show u.2.2.2.2.1 j = if j < n then u.2.2.2.2.2.2.2.2.2.2.1 j else u.2.2.2.2.1 j
      rw [if_neg hj]
  · rw [if_neg (fun q => hb q.1)]
    unfold gf_I gf_C
    rw [if_neg hb, if_neg hb]
theorem gf_hw {i : Nat} {v : Int64} : gm_uj (gf_J u x o) 167 i v = gf_J ((u.1, u.2.1, u.2.2.1, u.2.2.2.1, u.2.2.2.2.1, u.2.2.2.2.2.1, u.2.2.2.2.2.2.1, u.2.2.2.2.2.2.2.1, u.2.2.2.2.2.2.2.2.1, u.2.2.2.2.2.2.2.2.2.1, u.2.2.2.2.2.2.2.2.2.2.1, u.2.2.2.2.2.2.2.2.2.2.2.1, u.2.2.2.2.2.2.2.2.2.2.2.2.1, u.2.2.2.2.2.2.2.2.2.2.2.2.2.1, gup u.2.2.2.2.2.2.2.2.2.2.2.2.2.2 i v) : gU) x o := by
  refine gf_uj rfl ?_
  intro b hb
  unfold gf_J
  rw [if_neg hb, if_neg hb]
theorem gf_oo {i : Nat} {v : Int64} : gm_uj (gf_J u x o) 211 i v = gf_J u x (gup o i v) := by
  refine gf_uj rfl ?_
  intro b hb
  unfold gf_J
  rw [if_neg hb, if_neg hb]
theorem gr_ty {q : gP} {k : Nat} (h : q.2.2.2.2.1 = (x.1 k).2.2.2.2.1) : (fun j => (gup x.1 k q j).2.2.2.2.1) = fun j => (x.1 j).2.2.2.2.1 := by
  funext j
  by_cases c : j = k
  · subst c; rw [gup_eq, h]
  · rw [gup_ne c]
theorem gr_ct {q : gP} {k : Nat} (h : q.2.2.2.2.2.1 = (x.1 k).2.2.2.2.2.1) : (fun j => (gup x.1 k q j).2.2.2.2.2.1) = fun j => (x.1 j).2.2.2.2.2.1 := by
  funext j
  by_cases c : j = k
  · subst c; rw [gup_eq, h]
  · rw [gup_ne c]
theorem gr_de {q : gP} {k : Nat} (h : q.2.2.2.2.2.2.1 = (x.1 k).2.2.2.2.2.2.1) : (fun j => (gup x.1 k q j).2.2.2.2.2.2.1) = fun j => (x.1 j).2.2.2.2.2.2.1 := by
  funext j
  by_cases c : j = k
  · subst c; rw [gup_eq, h]
  · rw [gup_ne c]
theorem gr_ke {q : gP} {k : Nat} (h : q.2.1 = (x.1 k).2.1) : (fun j => (gup x.1 k q (j / 8)).2.1 (j % 8)) = fun j => (x.1 (j / 8)).2.1 (j % 8) := by
  funext j
  by_cases c : j / 8 = k
  · rw [c, gup_eq, h]
  · rw [gup_ne c]
theorem gr_kk {q : gP} {k : Nat} (h : q.1 = (x.1 k).1) : (fun j => (gup x.1 k q (j / 8)).1 (j % 8)) = fun j => (x.1 (j / 8)).1 (j % 8) := by
  funext j
  by_cases c : j / 8 = k
  · rw [c, gup_eq, h]
  · rw [gup_ne c]
theorem gr_ki {q : gP} {k : Nat} (h : q.2.2.1 = (x.1 k).2.2.1) : (fun j => (gup x.1 k q (j / 8)).2.2.1 (j % 8)) = fun j => (x.1 (j / 8)).2.2.1 (j % 8) := by
  funext j
  by_cases c : j / 8 = k
  · rw [c, gup_eq, h]
  · rw [gup_ne c]
theorem gr_nu {q : gP} {k : Nat} (h : q.2.2.2.1 = (x.1 k).2.2.2.1) : (fun j => (gup x.1 k q (j / 8)).2.2.2.1 (j % 8)) = fun j => (x.1 (j / 8)).2.2.2.1 (j % 8) := by
  funext j
  by_cases c : j / 8 = k
  · rw [c, gup_eq, h]
  · rw [gup_ne c]
theorem gr_st {q : gP} {k : Nat} (h : q.2.2.2.2.2.2.2 = (x.1 k).2.2.2.2.2.2.2) : gf_J u ((gup x.1 k q, x.2.1, x.2.2.1, x.2.2.2.1, x.2.2.2.2.1, x.2.2.2.2.2.1, x.2.2.2.2.2.2.1, x.2.2.2.2.2.2.2.1, x.2.2.2.2.2.2.2.2.1, x.2.2.2.2.2.2.2.2.2.1, x.2.2.2.2.2.2.2.2.2.2.1, x.2.2.2.2.2.2.2.2.2.2.2.1, x.2.2.2.2.2.2.2.2.2.2.2.2.1, x.2.2.2.2.2.2.2.2.2.2.2.2.2.1, x.2.2.2.2.2.2.2.2.2.2.2.2.2.2.1, x.2.2.2.2.2.2.2.2.2.2.2.2.2.2.2) : gX) o = gf_J u x o := by
  have e : (fun j => (gup x.1 k q j).2.2.2.2.2.2.2) = fun j => (x.1 j).2.2.2.2.2.2.2 := by
    funext j
    by_cases c : j = k
    · subst c; rw [gup_eq, h]
    · rw [gup_ne c]
  funext b
  unfold gf_J
  dsimp only
  rw [e]
theorem gf_w189 {k : Nat} {v : Int32} : gm_up (gf_I u x) 189 k v = gf_I u ((gup x.1 k (((x.1 k).1, (x.1 k).2.1, (x.1 k).2.2.1, (x.1 k).2.2.2.1, v, (x.1 k).2.2.2.2.2.1, (x.1 k).2.2.2.2.2.2.1, (x.1 k).2.2.2.2.2.2.2) : gP), x.2.1, x.2.2.1, x.2.2.2.1, x.2.2.2.2.1, x.2.2.2.2.2.1, x.2.2.2.2.2.2.1, x.2.2.2.2.2.2.2.1, x.2.2.2.2.2.2.2.2.1, x.2.2.2.2.2.2.2.2.2.1, x.2.2.2.2.2.2.2.2.2.2.1, x.2.2.2.2.2.2.2.2.2.2.2.1, x.2.2.2.2.2.2.2.2.2.2.2.2.1, x.2.2.2.2.2.2.2.2.2.2.2.2.2.1, x.2.2.2.2.2.2.2.2.2.2.2.2.2.2.1, x.2.2.2.2.2.2.2.2.2.2.2.2.2.2.2) : gX) := by
  refine gf_up ?_ ?_
  · show (fun j => (gup x.1 k _ j).2.2.2.2.1) = gup (fun j => (x.1 j).2.2.2.2.1) k v
    funext j
    by_cases c : j = k
    · subst c; rw [gup_eq, gup_eq]
    · rw [gup_ne c, gup_ne c]
  · intro b hb
    unfold gf_I gf_X
    rw [if_neg hb, if_neg hb]
    dsimp only
    rw [gr_ct (x := x) (k := k) (q := (((x.1 k).1, (x.1 k).2.1, (x.1 k).2.2.1, (x.1 k).2.2.2.1, v, (x.1 k).2.2.2.2.2.1, (x.1 k).2.2.2.2.2.2.1, (x.1 k).2.2.2.2.2.2.2) : gP)) rfl, gr_de (x := x) (k := k) (q := (((x.1 k).1, (x.1 k).2.1, (x.1 k).2.2.1, (x.1 k).2.2.2.1, v, (x.1 k).2.2.2.2.2.1, (x.1 k).2.2.2.2.2.2.1, (x.1 k).2.2.2.2.2.2.2) : gP)) rfl, gr_ke (x := x) (k := k) (q := (((x.1 k).1, (x.1 k).2.1, (x.1 k).2.2.1, (x.1 k).2.2.2.1, v, (x.1 k).2.2.2.2.2.1, (x.1 k).2.2.2.2.2.2.1, (x.1 k).2.2.2.2.2.2.2) : gP)) rfl, gr_kk (x := x) (k := k) (q := (((x.1 k).1, (x.1 k).2.1, (x.1 k).2.2.1, (x.1 k).2.2.2.1, v, (x.1 k).2.2.2.2.2.1, (x.1 k).2.2.2.2.2.2.1, (x.1 k).2.2.2.2.2.2.2) : gP)) rfl, gr_ki (x := x) (k := k) (q := (((x.1 k).1, (x.1 k).2.1, (x.1 k).2.2.1, (x.1 k).2.2.2.1, v, (x.1 k).2.2.2.2.2.1, (x.1 k).2.2.2.2.2.2.1, (x.1 k).2.2.2.2.2.2.2) : gP)) rfl, gr_nu (x := x) (k := k) (q := (((x.1 k).1, (x.1 k).2.1, (x.1 k).2.2.1, (x.1 k).2.2.2.1, v, (x.1 k).2.2.2.2.2.1, (x.1 k).2.2.2.2.2.2.1, (x.1 k).2.2.2.2.2.2.2) : gP)) rfl]
theorem gf_v189 {k : Nat} {q : gP} (h : q.2.2.2.2.2.2.2 = (x.1 k).2.2.2.2.2.2.2) : gf_J u ((gup x.1 k q, x.2.1, x.2.2.1, x.2.2.2.1, x.2.2.2.2.1, x.2.2.2.2.2.1, x.2.2.2.2.2.2.1, x.2.2.2.2.2.2.2.1, x.2.2.2.2.2.2.2.2.1, x.2.2.2.2.2.2.2.2.2.1, x.2.2.2.2.2.2.2.2.2.2.1, x.2.2.2.2.2.2.2.2.2.2.2.1, x.2.2.2.2.2.2.2.2.2.2.2.2.1, x.2.2.2.2.2.2.2.2.2.2.2.2.2.1, x.2.2.2.2.2.2.2.2.2.2.2.2.2.2.1, x.2.2.2.2.2.2.2.2.2.2.2.2.2.2.2) : gX) o = gf_J u x o := gr_st h
theorem gf_w190 {k : Nat} {v : Int32} : gm_up (gf_I u x) 190 k v = gf_I u ((gup x.1 k (((x.1 k).1, (x.1 k).2.1, (x.1 k).2.2.1, (x.1 k).2.2.2.1, (x.1 k).2.2.2.2.1, v, (x.1 k).2.2.2.2.2.2.1, (x.1 k).2.2.2.2.2.2.2) : gP), x.2.1, x.2.2.1, x.2.2.2.1, x.2.2.2.2.1, x.2.2.2.2.2.1, x.2.2.2.2.2.2.1, x.2.2.2.2.2.2.2.1, x.2.2.2.2.2.2.2.2.1, x.2.2.2.2.2.2.2.2.2.1, x.2.2.2.2.2.2.2.2.2.2.1, x.2.2.2.2.2.2.2.2.2.2.2.1, x.2.2.2.2.2.2.2.2.2.2.2.2.1, x.2.2.2.2.2.2.2.2.2.2.2.2.2.1, x.2.2.2.2.2.2.2.2.2.2.2.2.2.2.1, x.2.2.2.2.2.2.2.2.2.2.2.2.2.2.2) : gX) := by
  refine gf_up ?_ ?_
  · show (fun j => (gup x.1 k _ j).2.2.2.2.2.1) = gup (fun j => (x.1 j).2.2.2.2.2.1) k v
    funext j
    by_cases c : j = k
    · subst c; rw [gup_eq, gup_eq]
    · rw [gup_ne c, gup_ne c]
  · intro b hb
    unfold gf_I gf_X
    rw [if_neg hb, if_neg hb]
    dsimp only
    rw [gr_ty (x := x) (k := k) (q := (((x.1 k).1, (x.1 k).2.1, (x.1 k).2.2.1, (x.1 k).2.2.2.1, (x.1 k).2.2.2.2.1, v, (x.1 k).2.2.2.2.2.2.1, (x.1 k).2.2.2.2.2.2.2) : gP)) rfl, gr_de (x := x) (k := k) (q := (((x.1 k).1, (x.1 k).2.1, (x.1 k).2.2.1, (x.1 k).2.2.2.1, (x.1 k).2.2.2.2.1, v, (x.1 k).2.2.2.2.2.2.1, (x.1 k).2.2.2.2.2.2.2) : gP)) rfl, gr_ke (x := x) (k := k) (q := (((x.1 k).1, (x.1 k).2.1, (x.1 k).2.2.1, (x.1 k).2.2.2.1, (x.1 k).2.2.2.2.1, v, (x.1 k).2.2.2.2.2.2.1, (x.1 k).2.2.2.2.2.2.2) : gP)) rfl, gr_kk (x := x) (k := k) (q := (((x.1 k).1, (x.1 k).2.1, (x.1 k).2.2.1, (x.1 k).2.2.2.1, (x.1 k).2.2.2.2.1, v, (x.1 k).2.2.2.2.2.2.1, (x.1 k).2.2.2.2.2.2.2) : gP)) rfl, gr_ki (x := x) (k := k) (q := (((x.1 k).1, (x.1 k).2.1, (x.1 k).2.2.1, (x.1 k).2.2.2.1, (x.1 k).2.2.2.2.1, v, (x.1 k).2.2.2.2.2.2.1, (x.1 k).2.2.2.2.2.2.2) : gP)) rfl, gr_nu (x := x) (k := k) (q := (((x.1 k).1, (x.1 k).2.1, (x.1 k).2.2.1, (x.1 k).2.2.2.1, (x.1 k).2.2.2.2.1, v, (x.1 k).2.2.2.2.2.2.1, (x.1 k).2.2.2.2.2.2.2) : gP)) rfl]
theorem gf_v190 {k : Nat} {q : gP} (h : q.2.2.2.2.2.2.2 = (x.1 k).2.2.2.2.2.2.2) : gf_J u ((gup x.1 k q, x.2.1, x.2.2.1, x.2.2.2.1, x.2.2.2.2.1, x.2.2.2.2.2.1, x.2.2.2.2.2.2.1, x.2.2.2.2.2.2.2.1, x.2.2.2.2.2.2.2.2.1, x.2.2.2.2.2.2.2.2.2.1, x.2.2.2.2.2.2.2.2.2.2.1, x.2.2.2.2.2.2.2.2.2.2.2.1, x.2.2.2.2.2.2.2.2.2.2.2.2.1, x.2.2.2.2.2.2.2.2.2.2.2.2.2.1, x.2.2.2.2.2.2.2.2.2.2.2.2.2.2.1, x.2.2.2.2.2.2.2.2.2.2.2.2.2.2.2) : gX) o = gf_J u x o := gr_st h
theorem gf_w191 {k : Nat} {v : Int32} : gm_up (gf_I u x) 191 k v = gf_I u ((gup x.1 k (((x.1 k).1, (x.1 k).2.1, (x.1 k).2.2.1, (x.1 k).2.2.2.1, (x.1 k).2.2.2.2.1, (x.1 k).2.2.2.2.2.1, v, (x.1 k).2.2.2.2.2.2.2) : gP), x.2.1, x.2.2.1, x.2.2.2.1, x.2.2.2.2.1, x.2.2.2.2.2.1, x.2.2.2.2.2.2.1, x.2.2.2.2.2.2.2.1, x.2.2.2.2.2.2.2.2.1, x.2.2.2.2.2.2.2.2.2.1, x.2.2.2.2.2.2.2.2.2.2.1, x.2.2.2.2.2.2.2.2.2.2.2.1, x.2.2.2.2.2.2.2.2.2.2.2.2.1, x.2.2.2.2.2.2.2.2.2.2.2.2.2.1, x.2.2.2.2.2.2.2.2.2.2.2.2.2.2.1, x.2.2.2.2.2.2.2.2.2.2.2.2.2.2.2) : gX) := by
  refine gf_up ?_ ?_
  · show (fun j => (gup x.1 k _ j).2.2.2.2.2.2.1) = gup (fun j => (x.1 j).2.2.2.2.2.2.1) k v
    funext j
    by_cases c : j = k
    · subst c; rw [gup_eq, gup_eq]
    · rw [gup_ne c, gup_ne c]
  · intro b hb
    unfold gf_I gf_X
    rw [if_neg hb, if_neg hb]
    dsimp only
    rw [gr_ty (x := x) (k := k) (q := (((x.1 k).1, (x.1 k).2.1, (x.1 k).2.2.1, (x.1 k).2.2.2.1, (x.1 k).2.2.2.2.1, (x.1 k).2.2.2.2.2.1, v, (x.1 k).2.2.2.2.2.2.2) : gP)) rfl, gr_ct (x := x) (k := k) (q := (((x.1 k).1, (x.1 k).2.1, (x.1 k).2.2.1, (x.1 k).2.2.2.1, (x.1 k).2.2.2.2.1, (x.1 k).2.2.2.2.2.1, v, (x.1 k).2.2.2.2.2.2.2) : gP)) rfl, gr_ke (x := x) (k := k) (q := (((x.1 k).1, (x.1 k).2.1, (x.1 k).2.2.1, (x.1 k).2.2.2.1, (x.1 k).2.2.2.2.1, (x.1 k).2.2.2.2.2.1, v, (x.1 k).2.2.2.2.2.2.2) : gP)) rfl, gr_kk (x := x) (k := k) (q := (((x.1 k).1, (x.1 k).2.1, (x.1 k).2.2.1, (x.1 k).2.2.2.1, (x.1 k).2.2.2.2.1, (x.1 k).2.2.2.2.2.1, v, (x.1 k).2.2.2.2.2.2.2) : gP)) rfl, gr_ki (x := x) (k := k) (q := (((x.1 k).1, (x.1 k).2.1, (x.1 k).2.2.1, (x.1 k).2.2.2.1, (x.1 k).2.2.2.2.1, (x.1 k).2.2.2.2.2.1, v, (x.1 k).2.2.2.2.2.2.2) : gP)) rfl, gr_nu (x := x) (k := k) (q := (((x.1 k).1, (x.1 k).2.1, (x.1 k).2.2.1, (x.1 k).2.2.2.1, (x.1 k).2.2.2.2.1, (x.1 k).2.2.2.2.2.1, v, (x.1 k).2.2.2.2.2.2.2) : gP)) rfl]
theorem gf_v191 {k : Nat} {q : gP} (h : q.2.2.2.2.2.2.2 = (x.1 k).2.2.2.2.2.2.2) : gf_J u ((gup x.1 k q, x.2.1, x.2.2.1, x.2.2.2.1, x.2.2.2.2.1, x.2.2.2.2.2.1, x.2.2.2.2.2.2.1, x.2.2.2.2.2.2.2.1, x.2.2.2.2.2.2.2.2.1, x.2.2.2.2.2.2.2.2.2.1, x.2.2.2.2.2.2.2.2.2.2.1, x.2.2.2.2.2.2.2.2.2.2.2.1, x.2.2.2.2.2.2.2.2.2.2.2.2.1, x.2.2.2.2.2.2.2.2.2.2.2.2.2.1, x.2.2.2.2.2.2.2.2.2.2.2.2.2.2.1, x.2.2.2.2.2.2.2.2.2.2.2.2.2.2.2) : gX) o = gf_J u x o := gr_st h
theorem gf_w193 {k i : Nat} {v : Int32} (hi : i < 8) : gm_up (gf_I u x) 193 (8 * k + i) v = gf_I u ((gup x.1 k (((x.1 k).1, gup (x.1 k).2.1 i v, (x.1 k).2.2.1, (x.1 k).2.2.2.1, (x.1 k).2.2.2.2.1, (x.1 k).2.2.2.2.2.1, (x.1 k).2.2.2.2.2.2.1, (x.1 k).2.2.2.2.2.2.2) : gP), x.2.1, x.2.2.1, x.2.2.2.1, x.2.2.2.2.1, x.2.2.2.2.2.1, x.2.2.2.2.2.2.1, x.2.2.2.2.2.2.2.1, x.2.2.2.2.2.2.2.2.1, x.2.2.2.2.2.2.2.2.2.1, x.2.2.2.2.2.2.2.2.2.2.1, x.2.2.2.2.2.2.2.2.2.2.2.1, x.2.2.2.2.2.2.2.2.2.2.2.2.1, x.2.2.2.2.2.2.2.2.2.2.2.2.2.1, x.2.2.2.2.2.2.2.2.2.2.2.2.2.2.1, x.2.2.2.2.2.2.2.2.2.2.2.2.2.2.2) : gX) := by
  refine gf_up ?_ ?_
  · show (fun j => (gup x.1 k _ (j / 8)).2.1 (j % 8)) = gup (fun j => (x.1 (j / 8)).2.1 (j % 8)) (8 * k + i) v
    funext j
    by_cases c : j = 8 * k + i
    · subst c; rw [gup_eq, show (8 * k + i) / 8 = k by omega, gup_eq, show (8 * k + i) % 8 = i by omega]; exact gup_eq
    · rw [gup_ne c]
      by_cases c2 : j / 8 = k
      · rw [c2, gup_eq]; exact gup_ne (by omega)
      · rw [gup_ne c2]
  · intro b hb
    unfold gf_I gf_X
    rw [if_neg hb, if_neg hb]
    dsimp only
    rw [gr_ty (x := x) (k := k) (q := (((x.1 k).1, gup (x.1 k).2.1 i v, (x.1 k).2.2.1, (x.1 k).2.2.2.1, (x.1 k).2.2.2.2.1, (x.1 k).2.2.2.2.2.1, (x.1 k).2.2.2.2.2.2.1, (x.1 k).2.2.2.2.2.2.2) : gP)) rfl, gr_ct (x := x) (k := k) (q := (((x.1 k).1, gup (x.1 k).2.1 i v, (x.1 k).2.2.1, (x.1 k).2.2.2.1, (x.1 k).2.2.2.2.1, (x.1 k).2.2.2.2.2.1, (x.1 k).2.2.2.2.2.2.1, (x.1 k).2.2.2.2.2.2.2) : gP)) rfl, gr_de (x := x) (k := k) (q := (((x.1 k).1, gup (x.1 k).2.1 i v, (x.1 k).2.2.1, (x.1 k).2.2.2.1, (x.1 k).2.2.2.2.1, (x.1 k).2.2.2.2.2.1, (x.1 k).2.2.2.2.2.2.1, (x.1 k).2.2.2.2.2.2.2) : gP)) rfl, gr_kk (x := x) (k := k) (q := (((x.1 k).1, gup (x.1 k).2.1 i v, (x.1 k).2.2.1, (x.1 k).2.2.2.1, (x.1 k).2.2.2.2.1, (x.1 k).2.2.2.2.2.1, (x.1 k).2.2.2.2.2.2.1, (x.1 k).2.2.2.2.2.2.2) : gP)) rfl, gr_ki (x := x) (k := k) (q := (((x.1 k).1, gup (x.1 k).2.1 i v, (x.1 k).2.2.1, (x.1 k).2.2.2.1, (x.1 k).2.2.2.2.1, (x.1 k).2.2.2.2.2.1, (x.1 k).2.2.2.2.2.2.1, (x.1 k).2.2.2.2.2.2.2) : gP)) rfl, gr_nu (x := x) (k := k) (q := (((x.1 k).1, gup (x.1 k).2.1 i v, (x.1 k).2.2.1, (x.1 k).2.2.2.1, (x.1 k).2.2.2.2.1, (x.1 k).2.2.2.2.2.1, (x.1 k).2.2.2.2.2.2.1, (x.1 k).2.2.2.2.2.2.2) : gP)) rfl]
theorem gf_v193 {k : Nat} {q : gP} (h : q.2.2.2.2.2.2.2 = (x.1 k).2.2.2.2.2.2.2) : gf_J u ((gup x.1 k q, x.2.1, x.2.2.1, x.2.2.2.1, x.2.2.2.2.1, x.2.2.2.2.2.1, x.2.2.2.2.2.2.1, x.2.2.2.2.2.2.2.1, x.2.2.2.2.2.2.2.2.1, x.2.2.2.2.2.2.2.2.2.1, x.2.2.2.2.2.2.2.2.2.2.1, x.2.2.2.2.2.2.2.2.2.2.2.1, x.2.2.2.2.2.2.2.2.2.2.2.2.1, x.2.2.2.2.2.2.2.2.2.2.2.2.2.1, x.2.2.2.2.2.2.2.2.2.2.2.2.2.2.1, x.2.2.2.2.2.2.2.2.2.2.2.2.2.2.2) : gX) o = gf_J u x o := gr_st h
theorem gf_w194 {k i : Nat} {v : Int32} (hi : i < 8) : gm_up (gf_I u x) 194 (8 * k + i) v = gf_I u ((gup x.1 k ((gup (x.1 k).1 i v, (x.1 k).2.1, (x.1 k).2.2.1, (x.1 k).2.2.2.1, (x.1 k).2.2.2.2.1, (x.1 k).2.2.2.2.2.1, (x.1 k).2.2.2.2.2.2.1, (x.1 k).2.2.2.2.2.2.2) : gP), x.2.1, x.2.2.1, x.2.2.2.1, x.2.2.2.2.1, x.2.2.2.2.2.1, x.2.2.2.2.2.2.1, x.2.2.2.2.2.2.2.1, x.2.2.2.2.2.2.2.2.1, x.2.2.2.2.2.2.2.2.2.1, x.2.2.2.2.2.2.2.2.2.2.1, x.2.2.2.2.2.2.2.2.2.2.2.1, x.2.2.2.2.2.2.2.2.2.2.2.2.1, x.2.2.2.2.2.2.2.2.2.2.2.2.2.1, x.2.2.2.2.2.2.2.2.2.2.2.2.2.2.1, x.2.2.2.2.2.2.2.2.2.2.2.2.2.2.2) : gX) := by
  refine gf_up ?_ ?_
  · show (fun j => (gup x.1 k _ (j / 8)).1 (j % 8)) = gup (fun j => (x.1 (j / 8)).1 (j % 8)) (8 * k + i) v
    funext j
    by_cases c : j = 8 * k + i
    · subst c; rw [gup_eq, show (8 * k + i) / 8 = k by omega, gup_eq, show (8 * k + i) % 8 = i by omega]; exact gup_eq
    · rw [gup_ne c]
      by_cases c2 : j / 8 = k
      · rw [c2, gup_eq]; exact gup_ne (by omega)
      · rw [gup_ne c2]
  · intro b hb
    unfold gf_I gf_X
    rw [if_neg hb, if_neg hb]
    dsimp only
    rw [gr_ty (x := x) (k := k) (q := ((gup (x.1 k).1 i v, (x.1 k).2.1, (x.1 k).2.2.1, (x.1 k).2.2.2.1, (x.1 k).2.2.2.2.1, (x.1 k).2.2.2.2.2.1, (x.1 k).2.2.2.2.2.2.1, (x.1 k).2.2.2.2.2.2.2) : gP)) rfl, gr_ct (x := x) (k := k) (q := ((gup (x.1 k).1 i v, (x.1 k).2.1, (x.1 k).2.2.1, (x.1 k).2.2.2.1, (x.1 k).2.2.2.2.1, (x.1 k).2.2.2.2.2.1, (x.1 k).2.2.2.2.2.2.1, (x.1 k).2.2.2.2.2.2.2) : gP)) rfl, gr_de (x := x) (k := k) (q := ((gup (x.1 k).1 i v, (x.1 k).2.1, (x.1 k).2.2.1, (x.1 k).2.2.2.1, (x.1 k).2.2.2.2.1, (x.1 k).2.2.2.2.2.1, (x.1 k).2.2.2.2.2.2.1, (x.1 k).2.2.2.2.2.2.2) : gP)) rfl, gr_ke (x := x) (k := k) (q := ((gup (x.1 k).1 i v, (x.1 k).2.1, (x.1 k).2.2.1, (x.1 k).2.2.2.1, (x.1 k).2.2.2.2.1, (x.1 k).2.2.2.2.2.1, (x.1 k).2.2.2.2.2.2.1, (x.1 k).2.2.2.2.2.2.2) : gP)) rfl, gr_ki (x := x) (k := k) (q := ((gup (x.1 k).1 i v, (x.1 k).2.1, (x.1 k).2.2.1, (x.1 k).2.2.2.1, (x.1 k).2.2.2.2.1, (x.1 k).2.2.2.2.2.1, (x.1 k).2.2.2.2.2.2.1, (x.1 k).2.2.2.2.2.2.2) : gP)) rfl, gr_nu (x := x) (k := k) (q := ((gup (x.1 k).1 i v, (x.1 k).2.1, (x.1 k).2.2.1, (x.1 k).2.2.2.1, (x.1 k).2.2.2.2.1, (x.1 k).2.2.2.2.2.1, (x.1 k).2.2.2.2.2.2.1, (x.1 k).2.2.2.2.2.2.2) : gP)) rfl]
theorem gf_v194 {k : Nat} {q : gP} (h : q.2.2.2.2.2.2.2 = (x.1 k).2.2.2.2.2.2.2) : gf_J u ((gup x.1 k q, x.2.1, x.2.2.1, x.2.2.2.1, x.2.2.2.2.1, x.2.2.2.2.2.1, x.2.2.2.2.2.2.1, x.2.2.2.2.2.2.2.1, x.2.2.2.2.2.2.2.2.1, x.2.2.2.2.2.2.2.2.2.1, x.2.2.2.2.2.2.2.2.2.2.1, x.2.2.2.2.2.2.2.2.2.2.2.1, x.2.2.2.2.2.2.2.2.2.2.2.2.1, x.2.2.2.2.2.2.2.2.2.2.2.2.2.1, x.2.2.2.2.2.2.2.2.2.2.2.2.2.2.1, x.2.2.2.2.2.2.2.2.2.2.2.2.2.2.2) : gX) o = gf_J u x o := gr_st h
theorem gf_w195 {k i : Nat} {v : Int32} (hi : i < 8) : gm_up (gf_I u x) 195 (8 * k + i) v = gf_I u ((gup x.1 k (((x.1 k).1, (x.1 k).2.1, gup (x.1 k).2.2.1 i v, (x.1 k).2.2.2.1, (x.1 k).2.2.2.2.1, (x.1 k).2.2.2.2.2.1, (x.1 k).2.2.2.2.2.2.1, (x.1 k).2.2.2.2.2.2.2) : gP), x.2.1, x.2.2.1, x.2.2.2.1, x.2.2.2.2.1, x.2.2.2.2.2.1, x.2.2.2.2.2.2.1, x.2.2.2.2.2.2.2.1, x.2.2.2.2.2.2.2.2.1, x.2.2.2.2.2.2.2.2.2.1, x.2.2.2.2.2.2.2.2.2.2.1, x.2.2.2.2.2.2.2.2.2.2.2.1, x.2.2.2.2.2.2.2.2.2.2.2.2.1, x.2.2.2.2.2.2.2.2.2.2.2.2.2.1, x.2.2.2.2.2.2.2.2.2.2.2.2.2.2.1, x.2.2.2.2.2.2.2.2.2.2.2.2.2.2.2) : gX) := by
  refine gf_up ?_ ?_
  · show (fun j => (gup x.1 k _ (j / 8)).2.2.1 (j % 8)) = gup (fun j => (x.1 (j / 8)).2.2.1 (j % 8)) (8 * k + i) v
    funext j
    by_cases c : j = 8 * k + i
    · subst c; rw [gup_eq, show (8 * k + i) / 8 = k by omega, gup_eq, show (8 * k + i) % 8 = i by omega]; exact gup_eq
    · rw [gup_ne c]
      by_cases c2 : j / 8 = k
      · rw [c2, gup_eq]; exact gup_ne (by omega)
      · rw [gup_ne c2]
  · intro b hb
    unfold gf_I gf_X
    rw [if_neg hb, if_neg hb]
    dsimp only
    rw [gr_ty (x := x) (k := k) (q := (((x.1 k).1, (x.1 k).2.1, gup (x.1 k).2.2.1 i v, (x.1 k).2.2.2.1, (x.1 k).2.2.2.2.1, (x.1 k).2.2.2.2.2.1, (x.1 k).2.2.2.2.2.2.1, (x.1 k).2.2.2.2.2.2.2) : gP)) rfl, gr_ct (x := x) (k := k) (q := (((x.1 k).1, (x.1 k).2.1, gup (x.1 k).2.2.1 i v, (x.1 k).2.2.2.1, (x.1 k).2.2.2.2.1, (x.1 k).2.2.2.2.2.1, (x.1 k).2.2.2.2.2.2.1, (x.1 k).2.2.2.2.2.2.2) : gP)) rfl, gr_de (x := x) (k := k) (q := (((x.1 k).1, (x.1 k).2.1, gup (x.1 k).2.2.1 i v, (x.1 k).2.2.2.1, (x.1 k).2.2.2.2.1, (x.1 k).2.2.2.2.2.1, (x.1 k).2.2.2.2.2.2.1, (x.1 k).2.2.2.2.2.2.2) : gP)) rfl, gr_ke (x := x) (k := k) (q := (((x.1 k).1, (x.1 k).2.1, gup (x.1 k).2.2.1 i v, (x.1 k).2.2.2.1, (x.1 k).2.2.2.2.1, (x.1 k).2.2.2.2.2.1, (x.1 k).2.2.2.2.2.2.1, (x.1 k).2.2.2.2.2.2.2) : gP)) rfl, gr_kk (x := x) (k := k) (q := (((x.1 k).1, (x.1 k).2.1, gup (x.1 k).2.2.1 i v, (x.1 k).2.2.2.1, (x.1 k).2.2.2.2.1, (x.1 k).2.2.2.2.2.1, (x.1 k).2.2.2.2.2.2.1, (x.1 k).2.2.2.2.2.2.2) : gP)) rfl, gr_nu (x := x) (k := k) (q := (((x.1 k).1, (x.1 k).2.1, gup (x.1 k).2.2.1 i v, (x.1 k).2.2.2.1, (x.1 k).2.2.2.2.1, (x.1 k).2.2.2.2.2.1, (x.1 k).2.2.2.2.2.2.1, (x.1 k).2.2.2.2.2.2.2) : gP)) rfl]
theorem gf_v195 {k : Nat} {q : gP} (h : q.2.2.2.2.2.2.2 = (x.1 k).2.2.2.2.2.2.2) : gf_J u ((gup x.1 k q, x.2.1, x.2.2.1, x.2.2.2.1, x.2.2.2.2.1, x.2.2.2.2.2.1, x.2.2.2.2.2.2.1, x.2.2.2.2.2.2.2.1, x.2.2.2.2.2.2.2.2.1, x.2.2.2.2.2.2.2.2.2.1, x.2.2.2.2.2.2.2.2.2.2.1, x.2.2.2.2.2.2.2.2.2.2.2.1, x.2.2.2.2.2.2.2.2.2.2.2.2.1, x.2.2.2.2.2.2.2.2.2.2.2.2.2.1, x.2.2.2.2.2.2.2.2.2.2.2.2.2.2.1, x.2.2.2.2.2.2.2.2.2.2.2.2.2.2.2) : gX) o = gf_J u x o := gr_st h
theorem gf_w196 {k i : Nat} {v : Int32} (hi : i < 8) : gm_up (gf_I u x) 196 (8 * k + i) v = gf_I u ((gup x.1 k (((x.1 k).1, (x.1 k).2.1, (x.1 k).2.2.1, gup (x.1 k).2.2.2.1 i v, (x.1 k).2.2.2.2.1, (x.1 k).2.2.2.2.2.1, (x.1 k).2.2.2.2.2.2.1, (x.1 k).2.2.2.2.2.2.2) : gP), x.2.1, x.2.2.1, x.2.2.2.1, x.2.2.2.2.1, x.2.2.2.2.2.1, x.2.2.2.2.2.2.1, x.2.2.2.2.2.2.2.1, x.2.2.2.2.2.2.2.2.1, x.2.2.2.2.2.2.2.2.2.1, x.2.2.2.2.2.2.2.2.2.2.1, x.2.2.2.2.2.2.2.2.2.2.2.1, x.2.2.2.2.2.2.2.2.2.2.2.2.1, x.2.2.2.2.2.2.2.2.2.2.2.2.2.1, x.2.2.2.2.2.2.2.2.2.2.2.2.2.2.1, x.2.2.2.2.2.2.2.2.2.2.2.2.2.2.2) : gX) := by
  refine gf_up ?_ ?_
  · show (fun j => (gup x.1 k _ (j / 8)).2.2.2.1 (j % 8)) = gup (fun j => (x.1 (j / 8)).2.2.2.1 (j % 8)) (8 * k + i) v
    funext j
    by_cases c : j = 8 * k + i
    · subst c; rw [gup_eq, show (8 * k + i) / 8 = k by omega, gup_eq, show (8 * k + i) % 8 = i by omega]; exact gup_eq
    · rw [gup_ne c]
      by_cases c2 : j / 8 = k
      · rw [c2, gup_eq]; exact gup_ne (by omega)
      · rw [gup_ne c2]
  · intro b hb
    unfold gf_I gf_X
    rw [if_neg hb, if_neg hb]
    dsimp only
    rw [gr_ty (x := x) (k := k) (q := (((x.1 k).1, (x.1 k).2.1, (x.1 k).2.2.1, gup (x.1 k).2.2.2.1 i v, (x.1 k).2.2.2.2.1, (x.1 k).2.2.2.2.2.1, (x.1 k).2.2.2.2.2.2.1, (x.1 k).2.2.2.2.2.2.2) : gP)) rfl, gr_ct (x := x) (k := k) (q := (((x.1 k).1, (x.1 k).2.1, (x.1 k).2.2.1, gup (x.1 k).2.2.2.1 i v, (x.1 k).2.2.2.2.1, (x.1 k).2.2.2.2.2.1, (x.1 k).2.2.2.2.2.2.1, (x.1 k).2.2.2.2.2.2.2) : gP)) rfl, gr_de (x := x) (k := k) (q := (((x.1 k).1, (x.1 k).2.1, (x.1 k).2.2.1, gup (x.1 k).2.2.2.1 i v, (x.1 k).2.2.2.2.1, (x.1 k).2.2.2.2.2.1, (x.1 k).2.2.2.2.2.2.1, (x.1 k).2.2.2.2.2.2.2) : gP)) rfl, gr_ke (x := x) (k := k) (q := (((x.1 k).1, (x.1 k).2.1, (x.1 k).2.2.1, gup (x.1 k).2.2.2.1 i v, (x.1 k).2.2.2.2.1, (x.1 k).2.2.2.2.2.1, (x.1 k).2.2.2.2.2.2.1, (x.1 k).2.2.2.2.2.2.2) : gP)) rfl, gr_kk (x := x) (k := k) (q := (((x.1 k).1, (x.1 k).2.1, (x.1 k).2.2.1, gup (x.1 k).2.2.2.1 i v, (x.1 k).2.2.2.2.1, (x.1 k).2.2.2.2.2.1, (x.1 k).2.2.2.2.2.2.1, (x.1 k).2.2.2.2.2.2.2) : gP)) rfl, gr_ki (x := x) (k := k) (q := (((x.1 k).1, (x.1 k).2.1, (x.1 k).2.2.1, gup (x.1 k).2.2.2.1 i v, (x.1 k).2.2.2.2.1, (x.1 k).2.2.2.2.2.1, (x.1 k).2.2.2.2.2.2.1, (x.1 k).2.2.2.2.2.2.2) : gP)) rfl]
theorem gf_v196 {k : Nat} {q : gP} (h : q.2.2.2.2.2.2.2 = (x.1 k).2.2.2.2.2.2.2) : gf_J u ((gup x.1 k q, x.2.1, x.2.2.1, x.2.2.2.1, x.2.2.2.2.1, x.2.2.2.2.2.1, x.2.2.2.2.2.2.1, x.2.2.2.2.2.2.2.1, x.2.2.2.2.2.2.2.2.1, x.2.2.2.2.2.2.2.2.2.1, x.2.2.2.2.2.2.2.2.2.2.1, x.2.2.2.2.2.2.2.2.2.2.2.1, x.2.2.2.2.2.2.2.2.2.2.2.2.1, x.2.2.2.2.2.2.2.2.2.2.2.2.2.1, x.2.2.2.2.2.2.2.2.2.2.2.2.2.2.1, x.2.2.2.2.2.2.2.2.2.2.2.2.2.2.2) : gX) o = gf_J u x o := gr_st h
theorem gf_ws {k : Nat} {v : Int64} : gm_uj (gf_J u x o) 192 k v = gf_J u ((gup x.1 k (((x.1 k).1, (x.1 k).2.1, (x.1 k).2.2.1, (x.1 k).2.2.2.1, (x.1 k).2.2.2.2.1, (x.1 k).2.2.2.2.2.1, (x.1 k).2.2.2.2.2.2.1, v) : gP), x.2.1, x.2.2.1, x.2.2.2.1, x.2.2.2.2.1, x.2.2.2.2.2.1, x.2.2.2.2.2.2.1, x.2.2.2.2.2.2.2.1, x.2.2.2.2.2.2.2.2.1, x.2.2.2.2.2.2.2.2.2.1, x.2.2.2.2.2.2.2.2.2.2.1, x.2.2.2.2.2.2.2.2.2.2.2.1, x.2.2.2.2.2.2.2.2.2.2.2.2.1, x.2.2.2.2.2.2.2.2.2.2.2.2.2.1, x.2.2.2.2.2.2.2.2.2.2.2.2.2.2.1, x.2.2.2.2.2.2.2.2.2.2.2.2.2.2.2) : gX) o := by
  refine gf_uj ?_ ?_
  · show (fun j => (gup x.1 k _ j).2.2.2.2.2.2.2) = gup (fun j => (x.1 j).2.2.2.2.2.2.2) k v
    funext j
    by_cases c : j = k
    · subst c; rw [gup_eq, gup_eq]
    · rw [gup_ne c, gup_ne c]
  · intro b hb
    unfold gf_J
    rw [if_neg hb, if_neg hb]
theorem gf_wi {k : Nat} {v : Int64} : gf_I u ((gup x.1 k (((x.1 k).1, (x.1 k).2.1, (x.1 k).2.2.1, (x.1 k).2.2.2.1, (x.1 k).2.2.2.2.1, (x.1 k).2.2.2.2.2.1, (x.1 k).2.2.2.2.2.2.1, v) : gP), x.2.1, x.2.2.1, x.2.2.2.1, x.2.2.2.2.1, x.2.2.2.2.2.1, x.2.2.2.2.2.2.1, x.2.2.2.2.2.2.2.1, x.2.2.2.2.2.2.2.2.1, x.2.2.2.2.2.2.2.2.2.1, x.2.2.2.2.2.2.2.2.2.2.1, x.2.2.2.2.2.2.2.2.2.2.2.1, x.2.2.2.2.2.2.2.2.2.2.2.2.1, x.2.2.2.2.2.2.2.2.2.2.2.2.2.1, x.2.2.2.2.2.2.2.2.2.2.2.2.2.2.1, x.2.2.2.2.2.2.2.2.2.2.2.2.2.2.2) : gX) = gf_I u x := by
  funext b
  unfold gf_I gf_X
  dsimp only
  rw [gr_ty (x := x) (k := k) (q := (((x.1 k).1, (x.1 k).2.1, (x.1 k).2.2.1, (x.1 k).2.2.2.1, (x.1 k).2.2.2.2.1, (x.1 k).2.2.2.2.2.1, (x.1 k).2.2.2.2.2.2.1, v) : gP)) rfl, gr_ct (x := x) (k := k) (q := (((x.1 k).1, (x.1 k).2.1, (x.1 k).2.2.1, (x.1 k).2.2.2.1, (x.1 k).2.2.2.2.1, (x.1 k).2.2.2.2.2.1, (x.1 k).2.2.2.2.2.2.1, v) : gP)) rfl, gr_de (x := x) (k := k) (q := (((x.1 k).1, (x.1 k).2.1, (x.1 k).2.2.1, (x.1 k).2.2.2.1, (x.1 k).2.2.2.2.1, (x.1 k).2.2.2.2.2.1, (x.1 k).2.2.2.2.2.2.1, v) : gP)) rfl, gr_ke (x := x) (k := k) (q := (((x.1 k).1, (x.1 k).2.1, (x.1 k).2.2.1, (x.1 k).2.2.2.1, (x.1 k).2.2.2.2.1, (x.1 k).2.2.2.2.2.1, (x.1 k).2.2.2.2.2.2.1, v) : gP)) rfl, gr_kk (x := x) (k := k) (q := (((x.1 k).1, (x.1 k).2.1, (x.1 k).2.2.1, (x.1 k).2.2.2.1, (x.1 k).2.2.2.2.1, (x.1 k).2.2.2.2.2.1, (x.1 k).2.2.2.2.2.2.1, v) : gP)) rfl, gr_ki (x := x) (k := k) (q := (((x.1 k).1, (x.1 k).2.1, (x.1 k).2.2.1, (x.1 k).2.2.2.1, (x.1 k).2.2.2.2.1, (x.1 k).2.2.2.2.2.1, (x.1 k).2.2.2.2.2.2.1, v) : gP)) rfl, gr_nu (x := x) (k := k) (q := (((x.1 k).1, (x.1 k).2.1, (x.1 k).2.2.1, (x.1 k).2.2.2.1, (x.1 k).2.2.2.2.1, (x.1 k).2.2.2.2.2.1, (x.1 k).2.2.2.2.2.2.1, v) : gP)) rfl]
theorem ho_0 : gv_is (gH u x o z) (some 0) 0 = some 0 := go_0
theorem hr_0_0 : gv_gR (gH u x o z) (some 0) 0 0 = some (some 1) := gr_0_0
theorem hr_0_1 : gv_gR (gH u x o z) (some 0) 0 1 = some (some 163) := gr_0_1
theorem hr_0_2 : gv_gR (gH u x o z) (some 0) 0 2 = some (some 165) := gr_0_2
theorem hr_0_3 : gv_gR (gH u x o z) (some 0) 0 3 = some (some 169) := gr_0_3
theorem hr_0_4 : gv_gR (gH u x o z) (some 0) 0 4 = some (some 187) := gr_0_4
theorem ho_1 : gv_is (gH u x o z) (some 1) 1 = some 1 := go_1
theorem hr_1_0 : gv_gR (gH u x o z) (some 1) 1 0 = some (some 2) := gr_1_0
theorem ho_163 : gv_is (gH u x o z) (some 163) 3 = some 163 := go_163
theorem hr_163_0 : gv_gR (gH u x o z) (some 163) 3 0 = some (some 164) := gr_163_0
theorem ho_165 : gv_is (gH u x o z) (some 165) 4 = some 165 := go_165
theorem hr_165_0 : gv_gR (gH u x o z) (some 165) 4 0 = some (some 166) := gr_165_0
theorem hr_165_2 : gv_gR (gH u x o z) (some 165) 4 2 = some (some 167) := gr_165_2
theorem hr_165_3 : gv_gR (gH u x o z) (some 165) 4 3 = some (some 168) := gr_165_3
theorem ho_169 : gv_is (gH u x o z) (some 169) 5 = some 169 := go_169
theorem hr_169_0 : gv_gR (gH u x o z) (some 169) 5 0 = some (some 170) := gr_169_0
theorem hr_169_1 : gv_gR (gH u x o z) (some 169) 5 1 = some (some 172) := gr_169_1
theorem hr_169_3 : gv_gR (gH u x o z) (some 169) 5 3 = some (some 173) := gr_169_3
theorem ho_170 : gv_is (gH u x o z) (some 170) 3 = some 170 := go_170
theorem hr_170_0 : gv_gR (gH u x o z) (some 170) 3 0 = some (some 171) := gr_170_0
theorem ho_187 : gv_is (gH u x o z) (some 187) 6 = some 187 := go_187
theorem ho_188 : gv_is (gH u x o z) (some 188) 7 = some 188 := go_188
theorem hr_188_2 : gv_gR (gH u x o z) (some 188) 7 2 = some (some 189) := gr_188_2
theorem hr_188_3 : gv_gR (gH u x o z) (some 188) 7 3 = some (some 190) := gr_188_3
theorem hr_188_4 : gv_gR (gH u x o z) (some 188) 7 4 = some (some 191) := gr_188_4
theorem hr_188_5 : gv_gR (gH u x o z) (some 188) 7 5 = some (some 192) := gr_188_5
theorem hr_188_6 : gv_gR (gH u x o z) (some 188) 7 6 = some (some 193) := gr_188_6
theorem hr_188_7 : gv_gR (gH u x o z) (some 188) 7 7 = some (some 194) := gr_188_7
theorem hr_188_8 : gv_gR (gH u x o z) (some 188) 7 8 = some (some 195) := gr_188_8
theorem hr_188_9 : gv_gR (gH u x o z) (some 188) 7 9 = some (some 196) := gr_188_9
theorem hr_188_11 : gv_gR (gH u x o z) (some 188) 7 11 = some (some 197) := gr_188_11
theorem hr_188_13 : gv_gR (gH u x o z) (some 188) 7 13 = some (some 198) := gr_188_13
theorem hr_188_14 : gv_gR (gH u x o z) (some 188) 7 14 = some (some 199) := gr_188_14
theorem hr_188_16 : gv_gR (gH u x o z) (some 188) 7 16 = some (some 200) := gr_188_16
theorem hr_188_19 : gv_gR (gH u x o z) (some 188) 7 19 = some (some 201) := gr_188_19
theorem hr_188_20 : gv_gR (gH u x o z) (some 188) 7 20 = some (some 202) := gr_188_20
theorem hr_188_21 : gv_gR (gH u x o z) (some 188) 7 21 = some (some 203) := gr_188_21
theorem hr_188_22 : gv_gR (gH u x o z) (some 188) 7 22 = some (some 204) := gr_188_22
theorem hr_188_23 : gv_gR (gH u x o z) (some 188) 7 23 = some (some 205) := gr_188_23
theorem hr_188_24 : gv_gR (gH u x o z) (some 188) 7 24 = some (some 206) := gr_188_24
theorem hr_188_25 : gv_gR (gH u x o z) (some 188) 7 25 = some (some 207) := gr_188_25
theorem hr_188_28 : gv_gR (gH u x o z) (some 188) 7 28 = some (some 208) := gr_188_28
theorem hr_188_30 : gv_gR (gH u x o z) (some 188) 7 30 = some (some 209) := gr_188_30
theorem hr_188_34 : gv_gR (gH u x o z) (some 188) 7 34 = some (some 210) := gr_188_34
theorem hi_0_5 : gv_gI (gH u x o z) (some 0) 0 5 = some (u.2.1 5) := gi_0_5
theorem hp_0_5 {v : Int32} : gv_pV (gH u x o z) (some 0) 0 5 (.int v) = some (gH ((u.1, gup u.2.1 5 v, u.2.2.1, u.2.2.2.1, u.2.2.2.2.1, u.2.2.2.2.2.1, u.2.2.2.2.2.2.1, u.2.2.2.2.2.2.2.1, u.2.2.2.2.2.2.2.2.1, u.2.2.2.2.2.2.2.2.2.1, u.2.2.2.2.2.2.2.2.2.2.1, u.2.2.2.2.2.2.2.2.2.2.2.1, u.2.2.2.2.2.2.2.2.2.2.2.2.1, u.2.2.2.2.2.2.2.2.2.2.2.2.2.1, u.2.2.2.2.2.2.2.2.2.2.2.2.2.2) : gU) x o z) := by
  unfold gH
  rw [gp_0_5, gf_w0]
  rfl
theorem hi_1_1 : gv_gI (gH u x o z) (some 1) 1 1 = some (u.2.2.1 1) := gi_1_1
theorem hp_1_1 {v : Int32} : gv_pV (gH u x o z) (some 1) 1 1 (.int v) = some (gH ((u.1, u.2.1, gup u.2.2.1 1 v, u.2.2.2.1, u.2.2.2.2.1, u.2.2.2.2.2.1, u.2.2.2.2.2.2.1, u.2.2.2.2.2.2.2.1, u.2.2.2.2.2.2.2.2.1, u.2.2.2.2.2.2.2.2.2.1, u.2.2.2.2.2.2.2.2.2.2.1, u.2.2.2.2.2.2.2.2.2.2.2.1, u.2.2.2.2.2.2.2.2.2.2.2.2.1, u.2.2.2.2.2.2.2.2.2.2.2.2.2.1, u.2.2.2.2.2.2.2.2.2.2.2.2.2.2) : gU) x o z) := by
  unfold gH
  rw [gp_1_1, gf_w1]
  rfl
theorem hi_163_1 : gv_gI (gH u x o z) (some 163) 3 1 = some (u.2.2.2.1 1) := gi_163_1
theorem hp_163_1 {v : Int32} : gv_pV (gH u x o z) (some 163) 3 1 (.int v) = some (gH ((u.1, u.2.1, u.2.2.1, gup u.2.2.2.1 1 v, u.2.2.2.2.1, u.2.2.2.2.2.1, u.2.2.2.2.2.2.1, u.2.2.2.2.2.2.2.1, u.2.2.2.2.2.2.2.2.1, u.2.2.2.2.2.2.2.2.2.1, u.2.2.2.2.2.2.2.2.2.2.1, u.2.2.2.2.2.2.2.2.2.2.2.1, u.2.2.2.2.2.2.2.2.2.2.2.2.1, u.2.2.2.2.2.2.2.2.2.2.2.2.2.1, u.2.2.2.2.2.2.2.2.2.2.2.2.2.2) : gU) x o z) := by
  unfold gH
  rw [gp_163_1, gf_w163]
  rfl
theorem hi_165_1 : gv_gI (gH u x o z) (some 165) 4 1 = some (u.2.2.2.2.2.1 1) := gi_165_1
theorem hp_165_1 {v : Int32} : gv_pV (gH u x o z) (some 165) 4 1 (.int v) = some (gH ((u.1, u.2.1, u.2.2.1, u.2.2.2.1, u.2.2.2.2.1, gup u.2.2.2.2.2.1 1 v, u.2.2.2.2.2.2.1, u.2.2.2.2.2.2.2.1, u.2.2.2.2.2.2.2.2.1, u.2.2.2.2.2.2.2.2.2.1, u.2.2.2.2.2.2.2.2.2.2.1, u.2.2.2.2.2.2.2.2.2.2.2.1, u.2.2.2.2.2.2.2.2.2.2.2.2.1, u.2.2.2.2.2.2.2.2.2.2.2.2.2.1, u.2.2.2.2.2.2.2.2.2.2.2.2.2.2) : gU) x o z) := by
  unfold gH
  rw [gp_165_1, gf_w165]
  rfl
theorem hi_165_4 : gv_gI (gH u x o z) (some 165) 4 4 = some (u.2.2.2.2.2.1 4) := gi_165_4
theorem hp_165_4 {v : Int32} : gv_pV (gH u x o z) (some 165) 4 4 (.int v) = some (gH ((u.1, u.2.1, u.2.2.1, u.2.2.2.1, u.2.2.2.2.1, gup u.2.2.2.2.2.1 4 v, u.2.2.2.2.2.2.1, u.2.2.2.2.2.2.2.1, u.2.2.2.2.2.2.2.2.1, u.2.2.2.2.2.2.2.2.2.1, u.2.2.2.2.2.2.2.2.2.2.1, u.2.2.2.2.2.2.2.2.2.2.2.1, u.2.2.2.2.2.2.2.2.2.2.2.2.1, u.2.2.2.2.2.2.2.2.2.2.2.2.2.1, u.2.2.2.2.2.2.2.2.2.2.2.2.2.2) : gU) x o z) := by
  unfold gH
  rw [gp_165_4, gf_w165]
  rfl
theorem hi_169_2 : gv_gI (gH u x o z) (some 169) 5 2 = some (u.2.2.2.2.2.2.2.2.1 2) := gi_169_2
theorem hp_169_2 {v : Int32} : gv_pV (gH u x o z) (some 169) 5 2 (.int v) = some (gH ((u.1, u.2.1, u.2.2.1, u.2.2.2.1, u.2.2.2.2.1, u.2.2.2.2.2.1, u.2.2.2.2.2.2.1, u.2.2.2.2.2.2.2.1, gup u.2.2.2.2.2.2.2.2.1 2 v, u.2.2.2.2.2.2.2.2.2.1, u.2.2.2.2.2.2.2.2.2.2.1, u.2.2.2.2.2.2.2.2.2.2.2.1, u.2.2.2.2.2.2.2.2.2.2.2.2.1, u.2.2.2.2.2.2.2.2.2.2.2.2.2.1, u.2.2.2.2.2.2.2.2.2.2.2.2.2.2) : gU) x o z) := by
  unfold gH
  rw [gp_169_2, gf_w169]
  rfl
theorem hi_169_4 : gv_gI (gH u x o z) (some 169) 5 4 = some (u.2.2.2.2.2.2.2.2.1 4) := gi_169_4
theorem hp_169_4 {v : Int32} : gv_pV (gH u x o z) (some 169) 5 4 (.int v) = some (gH ((u.1, u.2.1, u.2.2.1, u.2.2.2.1, u.2.2.2.2.1, u.2.2.2.2.2.1, u.2.2.2.2.2.2.1, u.2.2.2.2.2.2.2.1, gup u.2.2.2.2.2.2.2.2.1 4 v, u.2.2.2.2.2.2.2.2.2.1, u.2.2.2.2.2.2.2.2.2.2.1, u.2.2.2.2.2.2.2.2.2.2.2.1, u.2.2.2.2.2.2.2.2.2.2.2.2.1, u.2.2.2.2.2.2.2.2.2.2.2.2.2.1, u.2.2.2.2.2.2.2.2.2.2.2.2.2.2) : gU) x o z) := by
  unfold gH
  rw [gp_169_4, gf_w169]
  rfl
theorem hi_170_1 : gv_gI (gH u x o z) (some 170) 3 1 = some (u.2.2.2.2.2.2.2.2.2.1 1) := gi_170_1
theorem hp_170_1 {v : Int32} : gv_pV (gH u x o z) (some 170) 3 1 (.int v) = some (gH ((u.1, u.2.1, u.2.2.1, u.2.2.2.1, u.2.2.2.2.1, u.2.2.2.2.2.1, u.2.2.2.2.2.2.1, u.2.2.2.2.2.2.2.1, u.2.2.2.2.2.2.2.2.1, gup u.2.2.2.2.2.2.2.2.2.1 1 v, u.2.2.2.2.2.2.2.2.2.2.1, u.2.2.2.2.2.2.2.2.2.2.2.1, u.2.2.2.2.2.2.2.2.2.2.2.2.1, u.2.2.2.2.2.2.2.2.2.2.2.2.2.1, u.2.2.2.2.2.2.2.2.2.2.2.2.2.2) : gU) x o z) := by
  unfold gH
  rw [gp_170_1, gf_w170]
  rfl
theorem hi_187_0 : gv_gI (gH u x o z) (some 187) 6 0 = some (u.2.2.2.2.2.2.2.2.2.2.2.2.1 0) := gi_187_0
theorem hp_187_0 {v : Int32} : gv_pV (gH u x o z) (some 187) 6 0 (.int v) = some (gH ((u.1, u.2.1, u.2.2.1, u.2.2.2.1, u.2.2.2.2.1, u.2.2.2.2.2.1, u.2.2.2.2.2.2.1, u.2.2.2.2.2.2.2.1, u.2.2.2.2.2.2.2.2.1, u.2.2.2.2.2.2.2.2.2.1, u.2.2.2.2.2.2.2.2.2.2.1, u.2.2.2.2.2.2.2.2.2.2.2.1, gup u.2.2.2.2.2.2.2.2.2.2.2.2.1 0 v, u.2.2.2.2.2.2.2.2.2.2.2.2.2.1, u.2.2.2.2.2.2.2.2.2.2.2.2.2.2) : gU) x o z) := by
  unfold gH
  rw [gp_187_0, gf_w187]
  rfl
theorem hi_187_1 : gv_gI (gH u x o z) (some 187) 6 1 = some (u.2.2.2.2.2.2.2.2.2.2.2.2.1 1) := gi_187_1
theorem hp_187_1 {v : Int32} : gv_pV (gH u x o z) (some 187) 6 1 (.int v) = some (gH ((u.1, u.2.1, u.2.2.1, u.2.2.2.1, u.2.2.2.2.1, u.2.2.2.2.2.1, u.2.2.2.2.2.2.1, u.2.2.2.2.2.2.2.1, u.2.2.2.2.2.2.2.2.1, u.2.2.2.2.2.2.2.2.2.1, u.2.2.2.2.2.2.2.2.2.2.1, u.2.2.2.2.2.2.2.2.2.2.2.1, gup u.2.2.2.2.2.2.2.2.2.2.2.2.1 1 v, u.2.2.2.2.2.2.2.2.2.2.2.2.2.1, u.2.2.2.2.2.2.2.2.2.2.2.2.2.2) : gU) x o z) := by
  unfold gH
  rw [gp_187_1, gf_w187]
  rfl
theorem hi_187_2 : gv_gI (gH u x o z) (some 187) 6 2 = some (u.2.2.2.2.2.2.2.2.2.2.2.2.1 2) := gi_187_2
theorem hp_187_2 {v : Int32} : gv_pV (gH u x o z) (some 187) 6 2 (.int v) = some (gH ((u.1, u.2.1, u.2.2.1, u.2.2.2.1, u.2.2.2.2.1, u.2.2.2.2.2.1, u.2.2.2.2.2.2.1, u.2.2.2.2.2.2.2.1, u.2.2.2.2.2.2.2.2.1, u.2.2.2.2.2.2.2.2.2.1, u.2.2.2.2.2.2.2.2.2.2.1, u.2.2.2.2.2.2.2.2.2.2.2.1, gup u.2.2.2.2.2.2.2.2.2.2.2.2.1 2 v, u.2.2.2.2.2.2.2.2.2.2.2.2.2.1, u.2.2.2.2.2.2.2.2.2.2.2.2.2.2) : gU) x o z) := by
  unfold gH
  rw [gp_187_2, gf_w187]
  rfl
theorem hi_187_3 : gv_gI (gH u x o z) (some 187) 6 3 = some (u.2.2.2.2.2.2.2.2.2.2.2.2.1 3) := gi_187_3
theorem hp_187_3 {v : Int32} : gv_pV (gH u x o z) (some 187) 6 3 (.int v) = some (gH ((u.1, u.2.1, u.2.2.1, u.2.2.2.1, u.2.2.2.2.1, u.2.2.2.2.2.1, u.2.2.2.2.2.2.1, u.2.2.2.2.2.2.2.1, u.2.2.2.2.2.2.2.2.1, u.2.2.2.2.2.2.2.2.2.1, u.2.2.2.2.2.2.2.2.2.2.1, u.2.2.2.2.2.2.2.2.2.2.2.1, gup u.2.2.2.2.2.2.2.2.2.2.2.2.1 3 v, u.2.2.2.2.2.2.2.2.2.2.2.2.2.1, u.2.2.2.2.2.2.2.2.2.2.2.2.2.2) : gU) x o z) := by
  unfold gH
  rw [gp_187_3, gf_w187]
  rfl
theorem hi_187_4 : gv_gI (gH u x o z) (some 187) 6 4 = some (u.2.2.2.2.2.2.2.2.2.2.2.2.1 4) := gi_187_4
theorem hp_187_4 {v : Int32} : gv_pV (gH u x o z) (some 187) 6 4 (.int v) = some (gH ((u.1, u.2.1, u.2.2.1, u.2.2.2.1, u.2.2.2.2.1, u.2.2.2.2.2.1, u.2.2.2.2.2.2.1, u.2.2.2.2.2.2.2.1, u.2.2.2.2.2.2.2.2.1, u.2.2.2.2.2.2.2.2.2.1, u.2.2.2.2.2.2.2.2.2.2.1, u.2.2.2.2.2.2.2.2.2.2.2.1, gup u.2.2.2.2.2.2.2.2.2.2.2.2.1 4 v, u.2.2.2.2.2.2.2.2.2.2.2.2.2.1, u.2.2.2.2.2.2.2.2.2.2.2.2.2.2) : gU) x o z) := by
  unfold gH
  rw [gp_187_4, gf_w187]
  rfl
theorem hi_187_5 : gv_gI (gH u x o z) (some 187) 6 5 = some (u.2.2.2.2.2.2.2.2.2.2.2.2.1 5) := gi_187_5
theorem hp_187_5 {v : Int32} : gv_pV (gH u x o z) (some 187) 6 5 (.int v) = some (gH ((u.1, u.2.1, u.2.2.1, u.2.2.2.1, u.2.2.2.2.1, u.2.2.2.2.2.1, u.2.2.2.2.2.2.1, u.2.2.2.2.2.2.2.1, u.2.2.2.2.2.2.2.2.1, u.2.2.2.2.2.2.2.2.2.1, u.2.2.2.2.2.2.2.2.2.2.1, u.2.2.2.2.2.2.2.2.2.2.2.1, gup u.2.2.2.2.2.2.2.2.2.2.2.2.1 5 v, u.2.2.2.2.2.2.2.2.2.2.2.2.2.1, u.2.2.2.2.2.2.2.2.2.2.2.2.2.2) : gU) x o z) := by
  unfold gH
  rw [gp_187_5, gf_w187]
  rfl
theorem hi_187_6 : gv_gI (gH u x o z) (some 187) 6 6 = some (u.2.2.2.2.2.2.2.2.2.2.2.2.1 6) := gi_187_6
theorem hp_187_6 {v : Int32} : gv_pV (gH u x o z) (some 187) 6 6 (.int v) = some (gH ((u.1, u.2.1, u.2.2.1, u.2.2.2.1, u.2.2.2.2.1, u.2.2.2.2.2.1, u.2.2.2.2.2.2.1, u.2.2.2.2.2.2.2.1, u.2.2.2.2.2.2.2.2.1, u.2.2.2.2.2.2.2.2.2.1, u.2.2.2.2.2.2.2.2.2.2.1, u.2.2.2.2.2.2.2.2.2.2.2.1, gup u.2.2.2.2.2.2.2.2.2.2.2.2.1 6 v, u.2.2.2.2.2.2.2.2.2.2.2.2.2.1, u.2.2.2.2.2.2.2.2.2.2.2.2.2.2) : gU) x o z) := by
  unfold gH
  rw [gp_187_6, gf_w187]
  rfl
theorem hi_188_0 : gv_gI (gH u x o z) (some 188) 7 0 = some (x.2.1 0) := gi_188_0
theorem hp_188_0 {v : Int32} : gv_pV (gH u x o z) (some 188) 7 0 (.int v) = some (gH u ((x.1, gup x.2.1 0 v, x.2.2.1, x.2.2.2.1, x.2.2.2.2.1, x.2.2.2.2.2.1, x.2.2.2.2.2.2.1, x.2.2.2.2.2.2.2.1, x.2.2.2.2.2.2.2.2.1, x.2.2.2.2.2.2.2.2.2.1, x.2.2.2.2.2.2.2.2.2.2.1, x.2.2.2.2.2.2.2.2.2.2.2.1, x.2.2.2.2.2.2.2.2.2.2.2.2.1, x.2.2.2.2.2.2.2.2.2.2.2.2.2.1, x.2.2.2.2.2.2.2.2.2.2.2.2.2.2.1, x.2.2.2.2.2.2.2.2.2.2.2.2.2.2.2) : gX) o z) := by
  unfold gH
  rw [gp_188_0, gf_w188]
  rfl
theorem hi_188_1 : gv_gI (gH u x o z) (some 188) 7 1 = some (x.2.1 1) := gi_188_1
theorem hp_188_1 {v : Int32} : gv_pV (gH u x o z) (some 188) 7 1 (.int v) = some (gH u ((x.1, gup x.2.1 1 v, x.2.2.1, x.2.2.2.1, x.2.2.2.2.1, x.2.2.2.2.2.1, x.2.2.2.2.2.2.1, x.2.2.2.2.2.2.2.1, x.2.2.2.2.2.2.2.2.1, x.2.2.2.2.2.2.2.2.2.1, x.2.2.2.2.2.2.2.2.2.2.1, x.2.2.2.2.2.2.2.2.2.2.2.1, x.2.2.2.2.2.2.2.2.2.2.2.2.1, x.2.2.2.2.2.2.2.2.2.2.2.2.2.1, x.2.2.2.2.2.2.2.2.2.2.2.2.2.2.1, x.2.2.2.2.2.2.2.2.2.2.2.2.2.2.2) : gX) o z) := by
  unfold gH
  rw [gp_188_1, gf_w188]
  rfl
theorem hi_188_10 : gv_gI (gH u x o z) (some 188) 7 10 = some (x.2.1 10) := gi_188_10
theorem hp_188_10 {v : Int32} : gv_pV (gH u x o z) (some 188) 7 10 (.int v) = some (gH u ((x.1, gup x.2.1 10 v, x.2.2.1, x.2.2.2.1, x.2.2.2.2.1, x.2.2.2.2.2.1, x.2.2.2.2.2.2.1, x.2.2.2.2.2.2.2.1, x.2.2.2.2.2.2.2.2.1, x.2.2.2.2.2.2.2.2.2.1, x.2.2.2.2.2.2.2.2.2.2.1, x.2.2.2.2.2.2.2.2.2.2.2.1, x.2.2.2.2.2.2.2.2.2.2.2.2.1, x.2.2.2.2.2.2.2.2.2.2.2.2.2.1, x.2.2.2.2.2.2.2.2.2.2.2.2.2.2.1, x.2.2.2.2.2.2.2.2.2.2.2.2.2.2.2) : gX) o z) := by
  unfold gH
  rw [gp_188_10, gf_w188]
  rfl
theorem hi_188_12 : gv_gI (gH u x o z) (some 188) 7 12 = some (x.2.1 12) := gi_188_12
theorem hp_188_12 {v : Int32} : gv_pV (gH u x o z) (some 188) 7 12 (.int v) = some (gH u ((x.1, gup x.2.1 12 v, x.2.2.1, x.2.2.2.1, x.2.2.2.2.1, x.2.2.2.2.2.1, x.2.2.2.2.2.2.1, x.2.2.2.2.2.2.2.1, x.2.2.2.2.2.2.2.2.1, x.2.2.2.2.2.2.2.2.2.1, x.2.2.2.2.2.2.2.2.2.2.1, x.2.2.2.2.2.2.2.2.2.2.2.1, x.2.2.2.2.2.2.2.2.2.2.2.2.1, x.2.2.2.2.2.2.2.2.2.2.2.2.2.1, x.2.2.2.2.2.2.2.2.2.2.2.2.2.2.1, x.2.2.2.2.2.2.2.2.2.2.2.2.2.2.2) : gX) o z) := by
  unfold gH
  rw [gp_188_12, gf_w188]
  rfl
theorem hi_188_15 : gv_gI (gH u x o z) (some 188) 7 15 = some (x.2.1 15) := gi_188_15
theorem hp_188_15 {v : Int32} : gv_pV (gH u x o z) (some 188) 7 15 (.int v) = some (gH u ((x.1, gup x.2.1 15 v, x.2.2.1, x.2.2.2.1, x.2.2.2.2.1, x.2.2.2.2.2.1, x.2.2.2.2.2.2.1, x.2.2.2.2.2.2.2.1, x.2.2.2.2.2.2.2.2.1, x.2.2.2.2.2.2.2.2.2.1, x.2.2.2.2.2.2.2.2.2.2.1, x.2.2.2.2.2.2.2.2.2.2.2.1, x.2.2.2.2.2.2.2.2.2.2.2.2.1, x.2.2.2.2.2.2.2.2.2.2.2.2.2.1, x.2.2.2.2.2.2.2.2.2.2.2.2.2.2.1, x.2.2.2.2.2.2.2.2.2.2.2.2.2.2.2) : gX) o z) := by
  unfold gH
  rw [gp_188_15, gf_w188]
  rfl
theorem hi_188_17 : gv_gI (gH u x o z) (some 188) 7 17 = some (x.2.1 17) := gi_188_17
theorem hp_188_17 {v : Int32} : gv_pV (gH u x o z) (some 188) 7 17 (.int v) = some (gH u ((x.1, gup x.2.1 17 v, x.2.2.1, x.2.2.2.1, x.2.2.2.2.1, x.2.2.2.2.2.1, x.2.2.2.2.2.2.1, x.2.2.2.2.2.2.2.1, x.2.2.2.2.2.2.2.2.1, x.2.2.2.2.2.2.2.2.2.1, x.2.2.2.2.2.2.2.2.2.2.1, x.2.2.2.2.2.2.2.2.2.2.2.1, x.2.2.2.2.2.2.2.2.2.2.2.2.1, x.2.2.2.2.2.2.2.2.2.2.2.2.2.1, x.2.2.2.2.2.2.2.2.2.2.2.2.2.2.1, x.2.2.2.2.2.2.2.2.2.2.2.2.2.2.2) : gX) o z) := by
  unfold gH
  rw [gp_188_17, gf_w188]
  rfl
theorem hi_188_18 : gv_gI (gH u x o z) (some 188) 7 18 = some (x.2.1 18) := gi_188_18
theorem hp_188_18 {v : Int32} : gv_pV (gH u x o z) (some 188) 7 18 (.int v) = some (gH u ((x.1, gup x.2.1 18 v, x.2.2.1, x.2.2.2.1, x.2.2.2.2.1, x.2.2.2.2.2.1, x.2.2.2.2.2.2.1, x.2.2.2.2.2.2.2.1, x.2.2.2.2.2.2.2.2.1, x.2.2.2.2.2.2.2.2.2.1, x.2.2.2.2.2.2.2.2.2.2.1, x.2.2.2.2.2.2.2.2.2.2.2.1, x.2.2.2.2.2.2.2.2.2.2.2.2.1, x.2.2.2.2.2.2.2.2.2.2.2.2.2.1, x.2.2.2.2.2.2.2.2.2.2.2.2.2.2.1, x.2.2.2.2.2.2.2.2.2.2.2.2.2.2.2) : gX) o z) := by
  unfold gH
  rw [gp_188_18, gf_w188]
  rfl
theorem hi_188_26 : gv_gI (gH u x o z) (some 188) 7 26 = some (x.2.1 26) := gi_188_26
theorem hp_188_26 {v : Int32} : gv_pV (gH u x o z) (some 188) 7 26 (.int v) = some (gH u ((x.1, gup x.2.1 26 v, x.2.2.1, x.2.2.2.1, x.2.2.2.2.1, x.2.2.2.2.2.1, x.2.2.2.2.2.2.1, x.2.2.2.2.2.2.2.1, x.2.2.2.2.2.2.2.2.1, x.2.2.2.2.2.2.2.2.2.1, x.2.2.2.2.2.2.2.2.2.2.1, x.2.2.2.2.2.2.2.2.2.2.2.1, x.2.2.2.2.2.2.2.2.2.2.2.2.1, x.2.2.2.2.2.2.2.2.2.2.2.2.2.1, x.2.2.2.2.2.2.2.2.2.2.2.2.2.2.1, x.2.2.2.2.2.2.2.2.2.2.2.2.2.2.2) : gX) o z) := by
  unfold gH
  rw [gp_188_26, gf_w188]
  rfl
theorem hi_188_27 : gv_gI (gH u x o z) (some 188) 7 27 = some (x.2.1 27) := gi_188_27
theorem hp_188_27 {v : Int32} : gv_pV (gH u x o z) (some 188) 7 27 (.int v) = some (gH u ((x.1, gup x.2.1 27 v, x.2.2.1, x.2.2.2.1, x.2.2.2.2.1, x.2.2.2.2.2.1, x.2.2.2.2.2.2.1, x.2.2.2.2.2.2.2.1, x.2.2.2.2.2.2.2.2.1, x.2.2.2.2.2.2.2.2.2.1, x.2.2.2.2.2.2.2.2.2.2.1, x.2.2.2.2.2.2.2.2.2.2.2.1, x.2.2.2.2.2.2.2.2.2.2.2.2.1, x.2.2.2.2.2.2.2.2.2.2.2.2.2.1, x.2.2.2.2.2.2.2.2.2.2.2.2.2.2.1, x.2.2.2.2.2.2.2.2.2.2.2.2.2.2.2) : gX) o z) := by
  unfold gH
  rw [gp_188_27, gf_w188]
  rfl
theorem hi_188_29 : gv_gI (gH u x o z) (some 188) 7 29 = some (x.2.1 29) := gi_188_29
theorem hp_188_29 {v : Int32} : gv_pV (gH u x o z) (some 188) 7 29 (.int v) = some (gH u ((x.1, gup x.2.1 29 v, x.2.2.1, x.2.2.2.1, x.2.2.2.2.1, x.2.2.2.2.2.1, x.2.2.2.2.2.2.1, x.2.2.2.2.2.2.2.1, x.2.2.2.2.2.2.2.2.1, x.2.2.2.2.2.2.2.2.2.1, x.2.2.2.2.2.2.2.2.2.2.1, x.2.2.2.2.2.2.2.2.2.2.2.1, x.2.2.2.2.2.2.2.2.2.2.2.2.1, x.2.2.2.2.2.2.2.2.2.2.2.2.2.1, x.2.2.2.2.2.2.2.2.2.2.2.2.2.2.1, x.2.2.2.2.2.2.2.2.2.2.2.2.2.2.2) : gX) o z) := by
  unfold gH
  rw [gp_188_29, gf_w188]
  rfl
theorem hi_188_31 : gv_gI (gH u x o z) (some 188) 7 31 = some (x.2.1 31) := gi_188_31
theorem hp_188_31 {v : Int32} : gv_pV (gH u x o z) (some 188) 7 31 (.int v) = some (gH u ((x.1, gup x.2.1 31 v, x.2.2.1, x.2.2.2.1, x.2.2.2.2.1, x.2.2.2.2.2.1, x.2.2.2.2.2.2.1, x.2.2.2.2.2.2.2.1, x.2.2.2.2.2.2.2.2.1, x.2.2.2.2.2.2.2.2.2.1, x.2.2.2.2.2.2.2.2.2.2.1, x.2.2.2.2.2.2.2.2.2.2.2.1, x.2.2.2.2.2.2.2.2.2.2.2.2.1, x.2.2.2.2.2.2.2.2.2.2.2.2.2.1, x.2.2.2.2.2.2.2.2.2.2.2.2.2.2.1, x.2.2.2.2.2.2.2.2.2.2.2.2.2.2.2) : gX) o z) := by
  unfold gH
  rw [gp_188_31, gf_w188]
  rfl
theorem hi_188_32 : gv_gI (gH u x o z) (some 188) 7 32 = some (x.2.1 32) := gi_188_32
theorem hp_188_32 {v : Int32} : gv_pV (gH u x o z) (some 188) 7 32 (.int v) = some (gH u ((x.1, gup x.2.1 32 v, x.2.2.1, x.2.2.2.1, x.2.2.2.2.1, x.2.2.2.2.2.1, x.2.2.2.2.2.2.1, x.2.2.2.2.2.2.2.1, x.2.2.2.2.2.2.2.2.1, x.2.2.2.2.2.2.2.2.2.1, x.2.2.2.2.2.2.2.2.2.2.1, x.2.2.2.2.2.2.2.2.2.2.2.1, x.2.2.2.2.2.2.2.2.2.2.2.2.1, x.2.2.2.2.2.2.2.2.2.2.2.2.2.1, x.2.2.2.2.2.2.2.2.2.2.2.2.2.2.1, x.2.2.2.2.2.2.2.2.2.2.2.2.2.2.2) : gX) o z) := by
  unfold gH
  rw [gp_188_32, gf_w188]
  rfl
theorem hi_188_33 : gv_gI (gH u x o z) (some 188) 7 33 = some (x.2.1 33) := gi_188_33
theorem hp_188_33 {v : Int32} : gv_pV (gH u x o z) (some 188) 7 33 (.int v) = some (gH u ((x.1, gup x.2.1 33 v, x.2.2.1, x.2.2.2.1, x.2.2.2.2.1, x.2.2.2.2.2.1, x.2.2.2.2.2.2.1, x.2.2.2.2.2.2.2.1, x.2.2.2.2.2.2.2.2.1, x.2.2.2.2.2.2.2.2.2.1, x.2.2.2.2.2.2.2.2.2.2.1, x.2.2.2.2.2.2.2.2.2.2.2.1, x.2.2.2.2.2.2.2.2.2.2.2.2.1, x.2.2.2.2.2.2.2.2.2.2.2.2.2.1, x.2.2.2.2.2.2.2.2.2.2.2.2.2.2.1, x.2.2.2.2.2.2.2.2.2.2.2.2.2.2.2) : gX) o z) := by
  unfold gH
  rw [gp_188_33, gf_w188]
  rfl
theorem hi_188_35 : gv_gI (gH u x o z) (some 188) 7 35 = some (x.2.1 35) := gi_188_35
theorem hp_188_35 {v : Int32} : gv_pV (gH u x o z) (some 188) 7 35 (.int v) = some (gH u ((x.1, gup x.2.1 35 v, x.2.2.1, x.2.2.2.1, x.2.2.2.2.1, x.2.2.2.2.2.1, x.2.2.2.2.2.2.1, x.2.2.2.2.2.2.2.1, x.2.2.2.2.2.2.2.2.1, x.2.2.2.2.2.2.2.2.2.1, x.2.2.2.2.2.2.2.2.2.2.1, x.2.2.2.2.2.2.2.2.2.2.2.1, x.2.2.2.2.2.2.2.2.2.2.2.2.1, x.2.2.2.2.2.2.2.2.2.2.2.2.2.1, x.2.2.2.2.2.2.2.2.2.2.2.2.2.2.1, x.2.2.2.2.2.2.2.2.2.2.2.2.2.2.2) : gX) o z) := by
  unfold gH
  rw [gp_188_35, gf_w188]
  rfl
theorem hi_188_36 : gv_gI (gH u x o z) (some 188) 7 36 = some (x.2.1 36) := gi_188_36
theorem hp_188_36 {v : Int32} : gv_pV (gH u x o z) (some 188) 7 36 (.int v) = some (gH u ((x.1, gup x.2.1 36 v, x.2.2.1, x.2.2.2.1, x.2.2.2.2.1, x.2.2.2.2.2.1, x.2.2.2.2.2.2.1, x.2.2.2.2.2.2.2.1, x.2.2.2.2.2.2.2.2.1, x.2.2.2.2.2.2.2.2.2.1, x.2.2.2.2.2.2.2.2.2.2.1, x.2.2.2.2.2.2.2.2.2.2.2.1, x.2.2.2.2.2.2.2.2.2.2.2.2.1, x.2.2.2.2.2.2.2.2.2.2.2.2.2.1, x.2.2.2.2.2.2.2.2.2.2.2.2.2.2.1, x.2.2.2.2.2.2.2.2.2.2.2.2.2.2.2) : gX) o z) := by
  unfold gH
  rw [gp_188_36, gf_w188]
  rfl
theorem ha_164 {i : Nat} (h : i < 300) : gv_lI (gH u x o z) (some 164) (Int32.ofNat i) = some (u.2.2.2.2.1 i) := by
  unfold gH
  rw [ga_164 (n_nn (by omega)) (by rw [n_cl (by omega)]; omega), n_cl (by omega)]
  rfl
theorem hb_164 {i : Nat} {v : Int32} (h : i < 300) : gv_wI (gH u x o z) (some 164) (Int32.ofNat i) v = some (gH ((u.1, u.2.1, u.2.2.1, u.2.2.2.1, gup u.2.2.2.2.1 i v, u.2.2.2.2.2.1, u.2.2.2.2.2.2.1, u.2.2.2.2.2.2.2.1, u.2.2.2.2.2.2.2.2.1, u.2.2.2.2.2.2.2.2.2.1, u.2.2.2.2.2.2.2.2.2.2.1, u.2.2.2.2.2.2.2.2.2.2.2.1, u.2.2.2.2.2.2.2.2.2.2.2.2.1, u.2.2.2.2.2.2.2.2.2.2.2.2.2.1, u.2.2.2.2.2.2.2.2.2.2.2.2.2.2) : gU) x o z) := by
  unfold gH
  rw [gb_164 (n_nn (by omega)) (by rw [n_cl (by omega)]; omega), n_cl (by omega), gf_w164]
  rfl
theorem ha_166 {i : Nat} (h : i < 4) : gv_lI (gH u x o z) (some 166) (Int32.ofNat i) = some (u.2.2.2.2.2.2.1 i) := by
  unfold gH
  rw [ga_166 (n_nn (by omega)) (by rw [n_cl (by omega)]; omega), n_cl (by omega)]
  rfl
theorem hb_166 {i : Nat} {v : Int32} (h : i < 4) : gv_wI (gH u x o z) (some 166) (Int32.ofNat i) v = some (gH ((u.1, u.2.1, u.2.2.1, u.2.2.2.1, u.2.2.2.2.1, u.2.2.2.2.2.1, gup u.2.2.2.2.2.2.1 i v, u.2.2.2.2.2.2.2.1, u.2.2.2.2.2.2.2.2.1, u.2.2.2.2.2.2.2.2.2.1, u.2.2.2.2.2.2.2.2.2.2.1, u.2.2.2.2.2.2.2.2.2.2.2.1, u.2.2.2.2.2.2.2.2.2.2.2.2.1, u.2.2.2.2.2.2.2.2.2.2.2.2.2.1, u.2.2.2.2.2.2.2.2.2.2.2.2.2.2) : gU) x o z) := by
  unfold gH
  rw [gb_166 (n_nn (by omega)) (by rw [n_cl (by omega)]; omega), n_cl (by omega), gf_w166]
  rfl
theorem ha_167 {i : Nat} (h : i < 4) : gv_lJ (gH u x o z) (some 167) (Int32.ofNat i) = some (u.2.2.2.2.2.2.2.2.2.2.2.2.2.2 i) := by
  unfold gH
  rw [ga_167 (n_nn (by omega)) (by rw [n_cl (by omega)]; omega), n_cl (by omega)]
  rfl
theorem hb_167 {i : Nat} {v : Int64} (h : i < 4) : gv_wJ (gH u x o z) (some 167) (Int32.ofNat i) v = some (gH ((u.1, u.2.1, u.2.2.1, u.2.2.2.1, u.2.2.2.2.1, u.2.2.2.2.2.1, u.2.2.2.2.2.2.1, u.2.2.2.2.2.2.2.1, u.2.2.2.2.2.2.2.2.1, u.2.2.2.2.2.2.2.2.2.1, u.2.2.2.2.2.2.2.2.2.2.1, u.2.2.2.2.2.2.2.2.2.2.2.1, u.2.2.2.2.2.2.2.2.2.2.2.2.1, u.2.2.2.2.2.2.2.2.2.2.2.2.2.1, gup u.2.2.2.2.2.2.2.2.2.2.2.2.2.2 i v) : gU) x o z) := by
  unfold gH
  rw [gb_167 (n_nn (by omega)) (by rw [n_cl (by omega)]; omega), n_cl (by omega), gf_hw]
  rfl
theorem ha_168 {i : Nat} (h : i < 4) : gv_lI (gH u x o z) (some 168) (Int32.ofNat i) = some (u.2.2.2.2.2.2.2.1 i) := by
  unfold gH
  rw [ga_168 (n_nn (by omega)) (by rw [n_cl (by omega)]; omega), n_cl (by omega)]
  rfl
theorem hb_168 {i : Nat} {v : Int32} (h : i < 4) : gv_wI (gH u x o z) (some 168) (Int32.ofNat i) v = some (gH ((u.1, u.2.1, u.2.2.1, u.2.2.2.1, u.2.2.2.2.1, u.2.2.2.2.2.1, u.2.2.2.2.2.2.1, gup u.2.2.2.2.2.2.2.1 i v, u.2.2.2.2.2.2.2.2.1, u.2.2.2.2.2.2.2.2.2.1, u.2.2.2.2.2.2.2.2.2.2.1, u.2.2.2.2.2.2.2.2.2.2.2.1, u.2.2.2.2.2.2.2.2.2.2.2.2.1, u.2.2.2.2.2.2.2.2.2.2.2.2.2.1, u.2.2.2.2.2.2.2.2.2.2.2.2.2.2) : gU) x o z) := by
  unfold gH
  rw [gb_168 (n_nn (by omega)) (by rw [n_cl (by omega)]; omega), n_cl (by omega), gf_w168]
  rfl
theorem ha_171 {i : Nat} (h : i < 300) : gv_lI (gH u x o z) (some 171) (Int32.ofNat i) = some (u.2.2.2.2.2.2.2.2.2.2.1 i) := by
  unfold gH
  rw [ga_171 (n_nn (by omega)) (by rw [n_cl (by omega)]; omega), n_cl (by omega)]
  rfl
theorem hb_171 {i : Nat} {v : Int32} (h : i < 300) : gv_wI (gH u x o z) (some 171) (Int32.ofNat i) v = some (gH ((u.1, u.2.1, u.2.2.1, u.2.2.2.1, u.2.2.2.2.1, u.2.2.2.2.2.1, u.2.2.2.2.2.2.1, u.2.2.2.2.2.2.2.1, u.2.2.2.2.2.2.2.2.1, u.2.2.2.2.2.2.2.2.2.1, gup u.2.2.2.2.2.2.2.2.2.2.1 i v, u.2.2.2.2.2.2.2.2.2.2.2.1, u.2.2.2.2.2.2.2.2.2.2.2.2.1, u.2.2.2.2.2.2.2.2.2.2.2.2.2.1, u.2.2.2.2.2.2.2.2.2.2.2.2.2.2) : gU) x o z) := by
  unfold gH
  rw [gb_171 (n_nn (by omega)) (by rw [n_cl (by omega)]; omega), n_cl (by omega), gf_w171]
  rfl
theorem ha_172 {i : Nat} (h : i < 32) : gv_lI (gH u x o z) (some 172) (Int32.ofNat i) = some (u.2.2.2.2.2.2.2.2.2.2.2.1 i) := by
  unfold gH
  rw [ga_172 (n_nn (by omega)) (by rw [n_cl (by omega)]; omega), n_cl (by omega)]
  rfl
theorem hb_172 {i : Nat} {v : Int32} (h : i < 32) : gv_wI (gH u x o z) (some 172) (Int32.ofNat i) v = some (gH ((u.1, u.2.1, u.2.2.1, u.2.2.2.1, u.2.2.2.2.1, u.2.2.2.2.2.1, u.2.2.2.2.2.2.1, u.2.2.2.2.2.2.2.1, u.2.2.2.2.2.2.2.2.1, u.2.2.2.2.2.2.2.2.2.1, u.2.2.2.2.2.2.2.2.2.2.1, gup u.2.2.2.2.2.2.2.2.2.2.2.1 i v, u.2.2.2.2.2.2.2.2.2.2.2.2.1, u.2.2.2.2.2.2.2.2.2.2.2.2.2.1, u.2.2.2.2.2.2.2.2.2.2.2.2.2.2) : gU) x o z) := by
  unfold gH
  rw [gb_172 (n_nn (by omega)) (by rw [n_cl (by omega)]; omega), n_cl (by omega), gf_w172]
  rfl
theorem ha_189 {k : Nat} (h : k < 32) : gv_lI (gH u x o z) (some 189) (Int32.ofNat k) = some (x.1 k).2.2.2.2.1 := by
  unfold gH
  rw [ga_189 (n_nn (by omega)) (by rw [n_cl (by omega)]; omega), n_cl (by omega)]
  rfl
theorem hb_189 {k : Nat} {v : Int32} (h : k < 32) : gv_wI (gH u x o z) (some 189) (Int32.ofNat k) v = some (gH u ((gup x.1 k (((x.1 k).1, (x.1 k).2.1, (x.1 k).2.2.1, (x.1 k).2.2.2.1, v, (x.1 k).2.2.2.2.2.1, (x.1 k).2.2.2.2.2.2.1, (x.1 k).2.2.2.2.2.2.2) : gP), x.2.1, x.2.2.1, x.2.2.2.1, x.2.2.2.2.1, x.2.2.2.2.2.1, x.2.2.2.2.2.2.1, x.2.2.2.2.2.2.2.1, x.2.2.2.2.2.2.2.2.1, x.2.2.2.2.2.2.2.2.2.1, x.2.2.2.2.2.2.2.2.2.2.1, x.2.2.2.2.2.2.2.2.2.2.2.1, x.2.2.2.2.2.2.2.2.2.2.2.2.1, x.2.2.2.2.2.2.2.2.2.2.2.2.2.1, x.2.2.2.2.2.2.2.2.2.2.2.2.2.2.1, x.2.2.2.2.2.2.2.2.2.2.2.2.2.2.2) : gX) o z) := by
  unfold gH
  rw [gb_189 (n_nn (by omega)) (by rw [n_cl (by omega)]; omega), n_cl (by omega), gf_w189]
  exact gh_I rfl (gr_st (by rfl)).symm
theorem ha_190 {k : Nat} (h : k < 32) : gv_lI (gH u x o z) (some 190) (Int32.ofNat k) = some (x.1 k).2.2.2.2.2.1 := by
  unfold gH
  rw [ga_190 (n_nn (by omega)) (by rw [n_cl (by omega)]; omega), n_cl (by omega)]
  rfl
theorem hb_190 {k : Nat} {v : Int32} (h : k < 32) : gv_wI (gH u x o z) (some 190) (Int32.ofNat k) v = some (gH u ((gup x.1 k (((x.1 k).1, (x.1 k).2.1, (x.1 k).2.2.1, (x.1 k).2.2.2.1, (x.1 k).2.2.2.2.1, v, (x.1 k).2.2.2.2.2.2.1, (x.1 k).2.2.2.2.2.2.2) : gP), x.2.1, x.2.2.1, x.2.2.2.1, x.2.2.2.2.1, x.2.2.2.2.2.1, x.2.2.2.2.2.2.1, x.2.2.2.2.2.2.2.1, x.2.2.2.2.2.2.2.2.1, x.2.2.2.2.2.2.2.2.2.1, x.2.2.2.2.2.2.2.2.2.2.1, x.2.2.2.2.2.2.2.2.2.2.2.1, x.2.2.2.2.2.2.2.2.2.2.2.2.1, x.2.2.2.2.2.2.2.2.2.2.2.2.2.1, x.2.2.2.2.2.2.2.2.2.2.2.2.2.2.1, x.2.2.2.2.2.2.2.2.2.2.2.2.2.2.2) : gX) o z) := by
  unfold gH
  rw [gb_190 (n_nn (by omega)) (by rw [n_cl (by omega)]; omega), n_cl (by omega), gf_w190]
  exact gh_I rfl (gr_st (by rfl)).symm
theorem ha_191 {k : Nat} (h : k < 32) : gv_lZ (gH u x o z) (some 191) (Int32.ofNat k) = some (x.1 k).2.2.2.2.2.2.1 := by
  unfold gH
  rw [ga_191 (n_nn (by omega)) (by rw [n_cl (by omega)]; omega), n_cl (by omega)]
  rfl
theorem hb_191 {k : Nat} {v : Int32} (h : k < 32) : gv_wZ (gH u x o z) (some 191) (Int32.ofNat k) v = some (gH u ((gup x.1 k (((x.1 k).1, (x.1 k).2.1, (x.1 k).2.2.1, (x.1 k).2.2.2.1, (x.1 k).2.2.2.2.1, (x.1 k).2.2.2.2.2.1, (v &&& 1), (x.1 k).2.2.2.2.2.2.2) : gP), x.2.1, x.2.2.1, x.2.2.2.1, x.2.2.2.2.1, x.2.2.2.2.2.1, x.2.2.2.2.2.2.1, x.2.2.2.2.2.2.2.1, x.2.2.2.2.2.2.2.2.1, x.2.2.2.2.2.2.2.2.2.1, x.2.2.2.2.2.2.2.2.2.2.1, x.2.2.2.2.2.2.2.2.2.2.2.1, x.2.2.2.2.2.2.2.2.2.2.2.2.1, x.2.2.2.2.2.2.2.2.2.2.2.2.2.1, x.2.2.2.2.2.2.2.2.2.2.2.2.2.2.1, x.2.2.2.2.2.2.2.2.2.2.2.2.2.2.2) : gX) o z) := by
  unfold gH
  rw [gb_191 (n_nn (by omega)) (by rw [n_cl (by omega)]; omega), n_cl (by omega), gf_w191]
  exact gh_I rfl (gr_st (by rfl)).symm
theorem ha_192 {k : Nat} (h : k < 32) : gv_lJ (gH u x o z) (some 192) (Int32.ofNat k) = some (x.1 k).2.2.2.2.2.2.2 := by
  unfold gH
  rw [ga_192 (n_nn (by omega)) (by rw [n_cl (by omega)]; omega), n_cl (by omega)]
  rfl
theorem hb_192 {k : Nat} {v : Int64} (h : k < 32) : gv_wJ (gH u x o z) (some 192) (Int32.ofNat k) v = some (gH u ((gup x.1 k (((x.1 k).1, (x.1 k).2.1, (x.1 k).2.2.1, (x.1 k).2.2.2.1, (x.1 k).2.2.2.2.1, (x.1 k).2.2.2.2.2.1, (x.1 k).2.2.2.2.2.2.1, v) : gP), x.2.1, x.2.2.1, x.2.2.2.1, x.2.2.2.2.1, x.2.2.2.2.2.1, x.2.2.2.2.2.2.1, x.2.2.2.2.2.2.2.1, x.2.2.2.2.2.2.2.2.1, x.2.2.2.2.2.2.2.2.2.1, x.2.2.2.2.2.2.2.2.2.2.1, x.2.2.2.2.2.2.2.2.2.2.2.1, x.2.2.2.2.2.2.2.2.2.2.2.2.1, x.2.2.2.2.2.2.2.2.2.2.2.2.2.1, x.2.2.2.2.2.2.2.2.2.2.2.2.2.2.1, x.2.2.2.2.2.2.2.2.2.2.2.2.2.2.2) : gX) o z) := by
  unfold gH
  rw [gb_192 (n_nn (by omega)) (by rw [n_cl (by omega)]; omega), n_cl (by omega), gf_ws, gf_wi]
theorem ha_193 {k i : Nat} (h : k < 32) (hi : i < 8) : gv_lI (gH u x o z) (some 193) (Int32.ofNat (8 * k + i)) = some ((x.1 k).2.1 i) := by
  unfold gH
  rw [ga_193 (n_nn (by omega)) (by rw [n_cl (by omega)]; omega), n_cl (by omega)]
  show some ((x.1 ((8 * k + i) / 8)).2.1 ((8 * k + i) % 8)) = _
  rw [show (8 * k + i) / 8 = k by omega, show (8 * k + i) % 8 = i by omega]
theorem hb_193 {k i : Nat} {v : Int32} (h : k < 32) (hi : i < 8) : gv_wI (gH u x o z) (some 193) (Int32.ofNat (8 * k + i)) v = some (gH u ((gup x.1 k (((x.1 k).1, gup (x.1 k).2.1 i v, (x.1 k).2.2.1, (x.1 k).2.2.2.1, (x.1 k).2.2.2.2.1, (x.1 k).2.2.2.2.2.1, (x.1 k).2.2.2.2.2.2.1, (x.1 k).2.2.2.2.2.2.2) : gP), x.2.1, x.2.2.1, x.2.2.2.1, x.2.2.2.2.1, x.2.2.2.2.2.1, x.2.2.2.2.2.2.1, x.2.2.2.2.2.2.2.1, x.2.2.2.2.2.2.2.2.1, x.2.2.2.2.2.2.2.2.2.1, x.2.2.2.2.2.2.2.2.2.2.1, x.2.2.2.2.2.2.2.2.2.2.2.1, x.2.2.2.2.2.2.2.2.2.2.2.2.1, x.2.2.2.2.2.2.2.2.2.2.2.2.2.1, x.2.2.2.2.2.2.2.2.2.2.2.2.2.2.1, x.2.2.2.2.2.2.2.2.2.2.2.2.2.2.2) : gX) o z) := by
  unfold gH
  rw [gb_193 (n_nn (by omega)) (by rw [n_cl (by omega)]; omega), n_cl (by omega), gf_w193 hi]
  exact gh_I rfl (gr_st (by rfl)).symm
theorem ha_194 {k i : Nat} (h : k < 32) (hi : i < 8) : gv_lI (gH u x o z) (some 194) (Int32.ofNat (8 * k + i)) = some ((x.1 k).1 i) := by
  unfold gH
  rw [ga_194 (n_nn (by omega)) (by rw [n_cl (by omega)]; omega), n_cl (by omega)]
  show some ((x.1 ((8 * k + i) / 8)).1 ((8 * k + i) % 8)) = _
  rw [show (8 * k + i) / 8 = k by omega, show (8 * k + i) % 8 = i by omega]
theorem hb_194 {k i : Nat} {v : Int32} (h : k < 32) (hi : i < 8) : gv_wI (gH u x o z) (some 194) (Int32.ofNat (8 * k + i)) v = some (gH u ((gup x.1 k ((gup (x.1 k).1 i v, (x.1 k).2.1, (x.1 k).2.2.1, (x.1 k).2.2.2.1, (x.1 k).2.2.2.2.1, (x.1 k).2.2.2.2.2.1, (x.1 k).2.2.2.2.2.2.1, (x.1 k).2.2.2.2.2.2.2) : gP), x.2.1, x.2.2.1, x.2.2.2.1, x.2.2.2.2.1, x.2.2.2.2.2.1, x.2.2.2.2.2.2.1, x.2.2.2.2.2.2.2.1, x.2.2.2.2.2.2.2.2.1, x.2.2.2.2.2.2.2.2.2.1, x.2.2.2.2.2.2.2.2.2.2.1, x.2.2.2.2.2.2.2.2.2.2.2.1, x.2.2.2.2.2.2.2.2.2.2.2.2.1, x.2.2.2.2.2.2.2.2.2.2.2.2.2.1, x.2.2.2.2.2.2.2.2.2.2.2.2.2.2.1, x.2.2.2.2.2.2.2.2.2.2.2.2.2.2.2) : gX) o z) := by
  unfold gH
  rw [gb_194 (n_nn (by omega)) (by rw [n_cl (by omega)]; omega), n_cl (by omega), gf_w194 hi]
  exact gh_I rfl (gr_st (by rfl)).symm
theorem ha_195 {k i : Nat} (h : k < 32) (hi : i < 8) : gv_lI (gH u x o z) (some 195) (Int32.ofNat (8 * k + i)) = some ((x.1 k).2.2.1 i) := by
  unfold gH
  rw [ga_195 (n_nn (by omega)) (by rw [n_cl (by omega)]; omega), n_cl (by omega)]
  show some ((x.1 ((8 * k + i) / 8)).2.2.1 ((8 * k + i) % 8)) = _
  rw [show (8 * k + i) / 8 = k by omega, show (8 * k + i) % 8 = i by omega]
theorem hb_195 {k i : Nat} {v : Int32} (h : k < 32) (hi : i < 8) : gv_wI (gH u x o z) (some 195) (Int32.ofNat (8 * k + i)) v = some (gH u ((gup x.1 k (((x.1 k).1, (x.1 k).2.1, gup (x.1 k).2.2.1 i v, (x.1 k).2.2.2.1, (x.1 k).2.2.2.2.1, (x.1 k).2.2.2.2.2.1, (x.1 k).2.2.2.2.2.2.1, (x.1 k).2.2.2.2.2.2.2) : gP), x.2.1, x.2.2.1, x.2.2.2.1, x.2.2.2.2.1, x.2.2.2.2.2.1, x.2.2.2.2.2.2.1, x.2.2.2.2.2.2.2.1, x.2.2.2.2.2.2.2.2.1, x.2.2.2.2.2.2.2.2.2.1, x.2.2.2.2.2.2.2.2.2.2.1, x.2.2.2.2.2.2.2.2.2.2.2.1, x.2.2.2.2.2.2.2.2.2.2.2.2.1, x.2.2.2.2.2.2.2.2.2.2.2.2.2.1, x.2.2.2.2.2.2.2.2.2.2.2.2.2.2.1, x.2.2.2.2.2.2.2.2.2.2.2.2.2.2.2) : gX) o z) := by
  unfold gH
  rw [gb_195 (n_nn (by omega)) (by rw [n_cl (by omega)]; omega), n_cl (by omega), gf_w195 hi]
  exact gh_I rfl (gr_st (by rfl)).symm
theorem ha_196 {k i : Nat} (h : k < 32) (hi : i < 8) : gv_lI (gH u x o z) (some 196) (Int32.ofNat (8 * k + i)) = some ((x.1 k).2.2.2.1 i) := by
  unfold gH
  rw [ga_196 (n_nn (by omega)) (by rw [n_cl (by omega)]; omega), n_cl (by omega)]
  show some ((x.1 ((8 * k + i) / 8)).2.2.2.1 ((8 * k + i) % 8)) = _
  rw [show (8 * k + i) / 8 = k by omega, show (8 * k + i) % 8 = i by omega]
theorem hb_196 {k i : Nat} {v : Int32} (h : k < 32) (hi : i < 8) : gv_wI (gH u x o z) (some 196) (Int32.ofNat (8 * k + i)) v = some (gH u ((gup x.1 k (((x.1 k).1, (x.1 k).2.1, (x.1 k).2.2.1, gup (x.1 k).2.2.2.1 i v, (x.1 k).2.2.2.2.1, (x.1 k).2.2.2.2.2.1, (x.1 k).2.2.2.2.2.2.1, (x.1 k).2.2.2.2.2.2.2) : gP), x.2.1, x.2.2.1, x.2.2.2.1, x.2.2.2.2.1, x.2.2.2.2.2.1, x.2.2.2.2.2.2.1, x.2.2.2.2.2.2.2.1, x.2.2.2.2.2.2.2.2.1, x.2.2.2.2.2.2.2.2.2.1, x.2.2.2.2.2.2.2.2.2.2.1, x.2.2.2.2.2.2.2.2.2.2.2.1, x.2.2.2.2.2.2.2.2.2.2.2.2.1, x.2.2.2.2.2.2.2.2.2.2.2.2.2.1, x.2.2.2.2.2.2.2.2.2.2.2.2.2.2.1, x.2.2.2.2.2.2.2.2.2.2.2.2.2.2.2) : gX) o z) := by
  unfold gH
  rw [gb_196 (n_nn (by omega)) (by rw [n_cl (by omega)]; omega), n_cl (by omega), gf_w196 hi]
  exact gh_I rfl (gr_st (by rfl)).symm
theorem ha_197 {i : Nat} (h : i < 4) : gv_lI (gH u x o z) (some 197) (Int32.ofNat i) = some (x.2.2.1 i) := by
  unfold gH
  rw [ga_197 (n_nn (by omega)) (by rw [n_cl (by omega)]; omega), n_cl (by omega)]
  rfl
theorem hb_197 {i : Nat} {v : Int32} (h : i < 4) : gv_wI (gH u x o z) (some 197) (Int32.ofNat i) v = some (gH u ((x.1, x.2.1, gup x.2.2.1 i v, x.2.2.2.1, x.2.2.2.2.1, x.2.2.2.2.2.1, x.2.2.2.2.2.2.1, x.2.2.2.2.2.2.2.1, x.2.2.2.2.2.2.2.2.1, x.2.2.2.2.2.2.2.2.2.1, x.2.2.2.2.2.2.2.2.2.2.1, x.2.2.2.2.2.2.2.2.2.2.2.1, x.2.2.2.2.2.2.2.2.2.2.2.2.1, x.2.2.2.2.2.2.2.2.2.2.2.2.2.1, x.2.2.2.2.2.2.2.2.2.2.2.2.2.2.1, x.2.2.2.2.2.2.2.2.2.2.2.2.2.2.2) : gX) o z) := by
  unfold gH
  rw [gb_197 (n_nn (by omega)) (by rw [n_cl (by omega)]; omega), n_cl (by omega), gf_w197]
  rfl
theorem ha_198 {i : Nat} (h : i < 4) : gv_lI (gH u x o z) (some 198) (Int32.ofNat i) = some (x.2.2.2.1 i) := by
  unfold gH
  rw [ga_198 (n_nn (by omega)) (by rw [n_cl (by omega)]; omega), n_cl (by omega)]
  rfl
theorem hb_198 {i : Nat} {v : Int32} (h : i < 4) : gv_wI (gH u x o z) (some 198) (Int32.ofNat i) v = some (gH u ((x.1, x.2.1, x.2.2.1, gup x.2.2.2.1 i v, x.2.2.2.2.1, x.2.2.2.2.2.1, x.2.2.2.2.2.2.1, x.2.2.2.2.2.2.2.1, x.2.2.2.2.2.2.2.2.1, x.2.2.2.2.2.2.2.2.2.1, x.2.2.2.2.2.2.2.2.2.2.1, x.2.2.2.2.2.2.2.2.2.2.2.1, x.2.2.2.2.2.2.2.2.2.2.2.2.1, x.2.2.2.2.2.2.2.2.2.2.2.2.2.1, x.2.2.2.2.2.2.2.2.2.2.2.2.2.2.1, x.2.2.2.2.2.2.2.2.2.2.2.2.2.2.2) : gX) o z) := by
  unfold gH
  rw [gb_198 (n_nn (by omega)) (by rw [n_cl (by omega)]; omega), n_cl (by omega), gf_w198]
  rfl
theorem ha_199 {i : Nat} (h : i < 32) : gv_lI (gH u x o z) (some 199) (Int32.ofNat i) = some (x.2.2.2.2.1 i) := by
  unfold gH
  rw [ga_199 (n_nn (by omega)) (by rw [n_cl (by omega)]; omega), n_cl (by omega)]
  rfl
theorem hb_199 {i : Nat} {v : Int32} (h : i < 32) : gv_wI (gH u x o z) (some 199) (Int32.ofNat i) v = some (gH u ((x.1, x.2.1, x.2.2.1, x.2.2.2.1, gup x.2.2.2.2.1 i v, x.2.2.2.2.2.1, x.2.2.2.2.2.2.1, x.2.2.2.2.2.2.2.1, x.2.2.2.2.2.2.2.2.1, x.2.2.2.2.2.2.2.2.2.1, x.2.2.2.2.2.2.2.2.2.2.1, x.2.2.2.2.2.2.2.2.2.2.2.1, x.2.2.2.2.2.2.2.2.2.2.2.2.1, x.2.2.2.2.2.2.2.2.2.2.2.2.2.1, x.2.2.2.2.2.2.2.2.2.2.2.2.2.2.1, x.2.2.2.2.2.2.2.2.2.2.2.2.2.2.2) : gX) o z) := by
  unfold gH
  rw [gb_199 (n_nn (by omega)) (by rw [n_cl (by omega)]; omega), n_cl (by omega), gf_w199]
  rfl
theorem ha_200 {i : Nat} (h : i < 300) : gv_lI (gH u x o z) (some 200) (Int32.ofNat i) = some (x.2.2.2.2.2.1 i) := by
  unfold gH
  rw [ga_200 (n_nn (by omega)) (by rw [n_cl (by omega)]; omega), n_cl (by omega)]
  rfl
theorem hb_200 {i : Nat} {v : Int32} (h : i < 300) : gv_wI (gH u x o z) (some 200) (Int32.ofNat i) v = some (gH u ((x.1, x.2.1, x.2.2.1, x.2.2.2.1, x.2.2.2.2.1, gup x.2.2.2.2.2.1 i v, x.2.2.2.2.2.2.1, x.2.2.2.2.2.2.2.1, x.2.2.2.2.2.2.2.2.1, x.2.2.2.2.2.2.2.2.2.1, x.2.2.2.2.2.2.2.2.2.2.1, x.2.2.2.2.2.2.2.2.2.2.2.1, x.2.2.2.2.2.2.2.2.2.2.2.2.1, x.2.2.2.2.2.2.2.2.2.2.2.2.2.1, x.2.2.2.2.2.2.2.2.2.2.2.2.2.2.1, x.2.2.2.2.2.2.2.2.2.2.2.2.2.2.2) : gX) o z) := by
  unfold gH
  rw [gb_200 (n_nn (by omega)) (by rw [n_cl (by omega)]; omega), n_cl (by omega), gf_w200]
  rfl
theorem ha_201 {i : Nat} (h : i < 14) : gv_lI (gH u x o z) (some 201) (Int32.ofNat i) = some (x.2.2.2.2.2.2.1 i) := by
  unfold gH
  rw [ga_201 (n_nn (by omega)) (by rw [n_cl (by omega)]; omega), n_cl (by omega)]
  rfl
theorem hb_201 {i : Nat} {v : Int32} (h : i < 14) : gv_wI (gH u x o z) (some 201) (Int32.ofNat i) v = some (gH u ((x.1, x.2.1, x.2.2.1, x.2.2.2.1, x.2.2.2.2.1, x.2.2.2.2.2.1, gup x.2.2.2.2.2.2.1 i v, x.2.2.2.2.2.2.2.1, x.2.2.2.2.2.2.2.2.1, x.2.2.2.2.2.2.2.2.2.1, x.2.2.2.2.2.2.2.2.2.2.1, x.2.2.2.2.2.2.2.2.2.2.2.1, x.2.2.2.2.2.2.2.2.2.2.2.2.1, x.2.2.2.2.2.2.2.2.2.2.2.2.2.1, x.2.2.2.2.2.2.2.2.2.2.2.2.2.2.1, x.2.2.2.2.2.2.2.2.2.2.2.2.2.2.2) : gX) o z) := by
  unfold gH
  rw [gb_201 (n_nn (by omega)) (by rw [n_cl (by omega)]; omega), n_cl (by omega), gf_w201]
  rfl
theorem ha_202 {i : Nat} (h : i < 14) : gv_lI (gH u x o z) (some 202) (Int32.ofNat i) = some (x.2.2.2.2.2.2.2.1 i) := by
  unfold gH
  rw [ga_202 (n_nn (by omega)) (by rw [n_cl (by omega)]; omega), n_cl (by omega)]
  rfl
theorem hb_202 {i : Nat} {v : Int32} (h : i < 14) : gv_wI (gH u x o z) (some 202) (Int32.ofNat i) v = some (gH u ((x.1, x.2.1, x.2.2.1, x.2.2.2.1, x.2.2.2.2.1, x.2.2.2.2.2.1, x.2.2.2.2.2.2.1, gup x.2.2.2.2.2.2.2.1 i v, x.2.2.2.2.2.2.2.2.1, x.2.2.2.2.2.2.2.2.2.1, x.2.2.2.2.2.2.2.2.2.2.1, x.2.2.2.2.2.2.2.2.2.2.2.1, x.2.2.2.2.2.2.2.2.2.2.2.2.1, x.2.2.2.2.2.2.2.2.2.2.2.2.2.1, x.2.2.2.2.2.2.2.2.2.2.2.2.2.2.1, x.2.2.2.2.2.2.2.2.2.2.2.2.2.2.2) : gX) o z) := by
  unfold gH
  rw [gb_202 (n_nn (by omega)) (by rw [n_cl (by omega)]; omega), n_cl (by omega), gf_w202]
  rfl
theorem ha_203 {i : Nat} (h : i < 14) : gv_lI (gH u x o z) (some 203) (Int32.ofNat i) = some (x.2.2.2.2.2.2.2.2.1 i) := by
  unfold gH
  rw [ga_203 (n_nn (by omega)) (by rw [n_cl (by omega)]; omega), n_cl (by omega)]
  rfl
theorem hb_203 {i : Nat} {v : Int32} (h : i < 14) : gv_wI (gH u x o z) (some 203) (Int32.ofNat i) v = some (gH u ((x.1, x.2.1, x.2.2.1, x.2.2.2.1, x.2.2.2.2.1, x.2.2.2.2.2.1, x.2.2.2.2.2.2.1, x.2.2.2.2.2.2.2.1, gup x.2.2.2.2.2.2.2.2.1 i v, x.2.2.2.2.2.2.2.2.2.1, x.2.2.2.2.2.2.2.2.2.2.1, x.2.2.2.2.2.2.2.2.2.2.2.1, x.2.2.2.2.2.2.2.2.2.2.2.2.1, x.2.2.2.2.2.2.2.2.2.2.2.2.2.1, x.2.2.2.2.2.2.2.2.2.2.2.2.2.2.1, x.2.2.2.2.2.2.2.2.2.2.2.2.2.2.2) : gX) o z) := by
  unfold gH
  rw [gb_203 (n_nn (by omega)) (by rw [n_cl (by omega)]; omega), n_cl (by omega), gf_w203]
  rfl
theorem ha_204 {i : Nat} (h : i < 84) : gv_lI (gH u x o z) (some 204) (Int32.ofNat i) = some (x.2.2.2.2.2.2.2.2.2.1 i) := by
  unfold gH
  rw [ga_204 (n_nn (by omega)) (by rw [n_cl (by omega)]; omega), n_cl (by omega)]
  rfl
theorem hb_204 {i : Nat} {v : Int32} (h : i < 84) : gv_wI (gH u x o z) (some 204) (Int32.ofNat i) v = some (gH u ((x.1, x.2.1, x.2.2.1, x.2.2.2.1, x.2.2.2.2.1, x.2.2.2.2.2.1, x.2.2.2.2.2.2.1, x.2.2.2.2.2.2.2.1, x.2.2.2.2.2.2.2.2.1, gup x.2.2.2.2.2.2.2.2.2.1 i v, x.2.2.2.2.2.2.2.2.2.2.1, x.2.2.2.2.2.2.2.2.2.2.2.1, x.2.2.2.2.2.2.2.2.2.2.2.2.1, x.2.2.2.2.2.2.2.2.2.2.2.2.2.1, x.2.2.2.2.2.2.2.2.2.2.2.2.2.2.1, x.2.2.2.2.2.2.2.2.2.2.2.2.2.2.2) : gX) o z) := by
  unfold gH
  rw [gb_204 (n_nn (by omega)) (by rw [n_cl (by omega)]; omega), n_cl (by omega), gf_w204]
  rfl
theorem ha_205 {i : Nat} (h : i < 14) : gv_lI (gH u x o z) (some 205) (Int32.ofNat i) = some (x.2.2.2.2.2.2.2.2.2.2.1 i) := by
  unfold gH
  rw [ga_205 (n_nn (by omega)) (by rw [n_cl (by omega)]; omega), n_cl (by omega)]
  rfl
theorem hb_205 {i : Nat} {v : Int32} (h : i < 14) : gv_wI (gH u x o z) (some 205) (Int32.ofNat i) v = some (gH u ((x.1, x.2.1, x.2.2.1, x.2.2.2.1, x.2.2.2.2.1, x.2.2.2.2.2.1, x.2.2.2.2.2.2.1, x.2.2.2.2.2.2.2.1, x.2.2.2.2.2.2.2.2.1, x.2.2.2.2.2.2.2.2.2.1, gup x.2.2.2.2.2.2.2.2.2.2.1 i v, x.2.2.2.2.2.2.2.2.2.2.2.1, x.2.2.2.2.2.2.2.2.2.2.2.2.1, x.2.2.2.2.2.2.2.2.2.2.2.2.2.1, x.2.2.2.2.2.2.2.2.2.2.2.2.2.2.1, x.2.2.2.2.2.2.2.2.2.2.2.2.2.2.2) : gX) o z) := by
  unfold gH
  rw [gb_205 (n_nn (by omega)) (by rw [n_cl (by omega)]; omega), n_cl (by omega), gf_w205]
  rfl
theorem ha_206 {i : Nat} (h : i < 14) : gv_lI (gH u x o z) (some 206) (Int32.ofNat i) = some (x.2.2.2.2.2.2.2.2.2.2.2.1 i) := by
  unfold gH
  rw [ga_206 (n_nn (by omega)) (by rw [n_cl (by omega)]; omega), n_cl (by omega)]
  rfl
theorem hb_206 {i : Nat} {v : Int32} (h : i < 14) : gv_wI (gH u x o z) (some 206) (Int32.ofNat i) v = some (gH u ((x.1, x.2.1, x.2.2.1, x.2.2.2.1, x.2.2.2.2.1, x.2.2.2.2.2.1, x.2.2.2.2.2.2.1, x.2.2.2.2.2.2.2.1, x.2.2.2.2.2.2.2.2.1, x.2.2.2.2.2.2.2.2.2.1, x.2.2.2.2.2.2.2.2.2.2.1, gup x.2.2.2.2.2.2.2.2.2.2.2.1 i v, x.2.2.2.2.2.2.2.2.2.2.2.2.1, x.2.2.2.2.2.2.2.2.2.2.2.2.2.1, x.2.2.2.2.2.2.2.2.2.2.2.2.2.2.1, x.2.2.2.2.2.2.2.2.2.2.2.2.2.2.2) : gX) o z) := by
  unfold gH
  rw [gb_206 (n_nn (by omega)) (by rw [n_cl (by omega)]; omega), n_cl (by omega), gf_w206]
  rfl
theorem ha_207 {i : Nat} (h : i < 14) : gv_lI (gH u x o z) (some 207) (Int32.ofNat i) = some (x.2.2.2.2.2.2.2.2.2.2.2.2.1 i) := by
  unfold gH
  rw [ga_207 (n_nn (by omega)) (by rw [n_cl (by omega)]; omega), n_cl (by omega)]
  rfl
theorem hb_207 {i : Nat} {v : Int32} (h : i < 14) : gv_wI (gH u x o z) (some 207) (Int32.ofNat i) v = some (gH u ((x.1, x.2.1, x.2.2.1, x.2.2.2.1, x.2.2.2.2.1, x.2.2.2.2.2.1, x.2.2.2.2.2.2.1, x.2.2.2.2.2.2.2.1, x.2.2.2.2.2.2.2.2.1, x.2.2.2.2.2.2.2.2.2.1, x.2.2.2.2.2.2.2.2.2.2.1, x.2.2.2.2.2.2.2.2.2.2.2.1, gup x.2.2.2.2.2.2.2.2.2.2.2.2.1 i v, x.2.2.2.2.2.2.2.2.2.2.2.2.2.1, x.2.2.2.2.2.2.2.2.2.2.2.2.2.2.1, x.2.2.2.2.2.2.2.2.2.2.2.2.2.2.2) : gX) o z) := by
  unfold gH
  rw [gb_207 (n_nn (by omega)) (by rw [n_cl (by omega)]; omega), n_cl (by omega), gf_w207]
  rfl
theorem ha_208 {i : Nat} (h : i < 300) : gv_lI (gH u x o z) (some 208) (Int32.ofNat i) = some (x.2.2.2.2.2.2.2.2.2.2.2.2.2.1 i) := by
  unfold gH
  rw [ga_208 (n_nn (by omega)) (by rw [n_cl (by omega)]; omega), n_cl (by omega)]
  rfl
theorem hb_208 {i : Nat} {v : Int32} (h : i < 300) : gv_wI (gH u x o z) (some 208) (Int32.ofNat i) v = some (gH u ((x.1, x.2.1, x.2.2.1, x.2.2.2.1, x.2.2.2.2.1, x.2.2.2.2.2.1, x.2.2.2.2.2.2.1, x.2.2.2.2.2.2.2.1, x.2.2.2.2.2.2.2.2.1, x.2.2.2.2.2.2.2.2.2.1, x.2.2.2.2.2.2.2.2.2.2.1, x.2.2.2.2.2.2.2.2.2.2.2.1, x.2.2.2.2.2.2.2.2.2.2.2.2.1, gup x.2.2.2.2.2.2.2.2.2.2.2.2.2.1 i v, x.2.2.2.2.2.2.2.2.2.2.2.2.2.2.1, x.2.2.2.2.2.2.2.2.2.2.2.2.2.2.2) : gX) o z) := by
  unfold gH
  rw [gb_208 (n_nn (by omega)) (by rw [n_cl (by omega)]; omega), n_cl (by omega), gf_w208]
  rfl
theorem ha_209 {i : Nat} (h : i < 32) : gv_lI (gH u x o z) (some 209) (Int32.ofNat i) = some (x.2.2.2.2.2.2.2.2.2.2.2.2.2.2.1 i) := by
  unfold gH
  rw [ga_209 (n_nn (by omega)) (by rw [n_cl (by omega)]; omega), n_cl (by omega)]
  rfl
theorem hb_209 {i : Nat} {v : Int32} (h : i < 32) : gv_wI (gH u x o z) (some 209) (Int32.ofNat i) v = some (gH u ((x.1, x.2.1, x.2.2.1, x.2.2.2.1, x.2.2.2.2.1, x.2.2.2.2.2.1, x.2.2.2.2.2.2.1, x.2.2.2.2.2.2.2.1, x.2.2.2.2.2.2.2.2.1, x.2.2.2.2.2.2.2.2.2.1, x.2.2.2.2.2.2.2.2.2.2.1, x.2.2.2.2.2.2.2.2.2.2.2.1, x.2.2.2.2.2.2.2.2.2.2.2.2.1, x.2.2.2.2.2.2.2.2.2.2.2.2.2.1, gup x.2.2.2.2.2.2.2.2.2.2.2.2.2.2.1 i v, x.2.2.2.2.2.2.2.2.2.2.2.2.2.2.2) : gX) o z) := by
  unfold gH
  rw [gb_209 (n_nn (by omega)) (by rw [n_cl (by omega)]; omega), n_cl (by omega), gf_w209]
  rfl
theorem ha_210 {i : Nat} (h : i < 32) : gv_lI (gH u x o z) (some 210) (Int32.ofNat i) = some (x.2.2.2.2.2.2.2.2.2.2.2.2.2.2.2 i) := by
  unfold gH
  rw [ga_210 (n_nn (by omega)) (by rw [n_cl (by omega)]; omega), n_cl (by omega)]
  rfl
theorem hb_210 {i : Nat} {v : Int32} (h : i < 32) : gv_wI (gH u x o z) (some 210) (Int32.ofNat i) v = some (gH u ((x.1, x.2.1, x.2.2.1, x.2.2.2.1, x.2.2.2.2.1, x.2.2.2.2.2.1, x.2.2.2.2.2.2.1, x.2.2.2.2.2.2.2.1, x.2.2.2.2.2.2.2.2.1, x.2.2.2.2.2.2.2.2.2.1, x.2.2.2.2.2.2.2.2.2.2.1, x.2.2.2.2.2.2.2.2.2.2.2.1, x.2.2.2.2.2.2.2.2.2.2.2.2.1, x.2.2.2.2.2.2.2.2.2.2.2.2.2.1, x.2.2.2.2.2.2.2.2.2.2.2.2.2.2.1, gup x.2.2.2.2.2.2.2.2.2.2.2.2.2.2.2 i v) : gX) o z) := by
  unfold gH
  rw [gb_210 (n_nn (by omega)) (by rw [n_cl (by omega)]; omega), n_cl (by omega), gf_w210]
  rfl
theorem ha_211 {i : Nat} (h : i < 1) : gv_lJ (gH u x o z) (some 211) (Int32.ofNat i) = some (o i) := by
  unfold gH
  rw [ga_211 (n_nn (by omega)) (by rw [n_cl (by omega)]; omega), n_cl (by omega)]
  rfl
theorem hb_211 {i : Nat} {v : Int64} (h : i < 1) : gv_wJ (gH u x o z) (some 211) (Int32.ofNat i) v = some (gH u x (gup o i v) z) := by
  unfold gH
  rw [gb_211 (n_nn (by omega)) (by rw [n_cl (by omega)]; omega), n_cl (by omega), gf_oo]
theorem ho_T {k : Nat} (h : k < 32) : gv_is (gH u x o z) (some (3 + 5 * k)) 2 = some (3 + 5 * k) := go_T h
theorem hT {k : Nat} (h : k < 32) : gv_lT (gH u x o z) (some 2) (Int32.ofNat k) = some (some (3 + 5 * k)) := by
  unfold gH
  rw [gT (n_nn (by omega)) (by rw [n_cl (by omega)]; exact h), n_cl (by omega)]
theorem hrT_0 {k : Nat} (h : k < 32) : gv_gR (gH u x o z) (some (3 + 5 * k)) 2 0 = some (some (3 + 5 * k + 1)) := grT_0 h
theorem hrT_1 {k : Nat} (h : k < 32) : gv_gR (gH u x o z) (some (3 + 5 * k)) 2 1 = some (some (3 + 5 * k + 2)) := grT_1 h
theorem hrT_2 {k : Nat} (h : k < 32) : gv_gR (gH u x o z) (some (3 + 5 * k)) 2 2 = some (some (3 + 5 * k + 3)) := grT_2 h
theorem hrT_3 {k : Nat} (h : k < 32) : gv_gR (gH u x o z) (some (3 + 5 * k)) 2 3 = some (some (3 + 5 * k + 4)) := grT_3 h
theorem hiT_4 {k : Nat} (h : k < 32) : gv_gI (gH u x o z) (some (3 + 5 * k)) 2 4 = some ((u.1 k).2.2.2.2.1 4) := by
  unfold gH
  rw [giT_4 h, show 3 + 5 * k = 3 + 5 * k + 0 by omega, gf_tI h (by omega)]
  rfl
theorem hpT_4 {k : Nat} {v : Int32} (h : k < 32) : gv_pV (gH u x o z) (some (3 + 5 * k)) 2 4 (.int v) = some (gH ((gup u.1 k (((u.1 k).1, (u.1 k).2.1, (u.1 k).2.2.1, (u.1 k).2.2.2.1, gup (u.1 k).2.2.2.2.1 4 v, (u.1 k).2.2.2.2.2) : gQ), u.2.1, u.2.2.1, u.2.2.2.1, u.2.2.2.2.1, u.2.2.2.2.2.1, u.2.2.2.2.2.2.1, u.2.2.2.2.2.2.2.1, u.2.2.2.2.2.2.2.2.1, u.2.2.2.2.2.2.2.2.2.1, u.2.2.2.2.2.2.2.2.2.2.1, u.2.2.2.2.2.2.2.2.2.2.2.1, u.2.2.2.2.2.2.2.2.2.2.2.2.1, u.2.2.2.2.2.2.2.2.2.2.2.2.2.1, u.2.2.2.2.2.2.2.2.2.2.2.2.2.2) : gU) x o z) := by
  unfold gH
  rw [gpT_4 h]
  refine gh_I ?_ ?_
  · refine gf_tw (r := 0) h (by omega) rfl ?_
    intro s hs _
    unfold gf_T
    rw [if_neg hs, if_neg hs]
  · exact (gf_tv (by rfl)).symm
theorem hiT_5 {k : Nat} (h : k < 32) : gv_gI (gH u x o z) (some (3 + 5 * k)) 2 5 = some ((u.1 k).2.2.2.2.1 5) := by
  unfold gH
  rw [giT_5 h, show 3 + 5 * k = 3 + 5 * k + 0 by omega, gf_tI h (by omega)]
  rfl
theorem hpT_5 {k : Nat} {v : Int32} (h : k < 32) : gv_pV (gH u x o z) (some (3 + 5 * k)) 2 5 (.int v) = some (gH ((gup u.1 k (((u.1 k).1, (u.1 k).2.1, (u.1 k).2.2.1, (u.1 k).2.2.2.1, gup (u.1 k).2.2.2.2.1 5 v, (u.1 k).2.2.2.2.2) : gQ), u.2.1, u.2.2.1, u.2.2.2.1, u.2.2.2.2.1, u.2.2.2.2.2.1, u.2.2.2.2.2.2.1, u.2.2.2.2.2.2.2.1, u.2.2.2.2.2.2.2.2.1, u.2.2.2.2.2.2.2.2.2.1, u.2.2.2.2.2.2.2.2.2.2.1, u.2.2.2.2.2.2.2.2.2.2.2.1, u.2.2.2.2.2.2.2.2.2.2.2.2.1, u.2.2.2.2.2.2.2.2.2.2.2.2.2.1, u.2.2.2.2.2.2.2.2.2.2.2.2.2.2) : gU) x o z) := by
  unfold gH
  rw [gpT_5 h]
  refine gh_I ?_ ?_
  · refine gf_tw (r := 0) h (by omega) rfl ?_
    intro s hs _
    unfold gf_T
    rw [if_neg hs, if_neg hs]
  · exact (gf_tv (by rfl)).symm
theorem hiT_6 {k : Nat} (h : k < 32) : gv_gI (gH u x o z) (some (3 + 5 * k)) 2 6 = some ((u.1 k).2.2.2.2.1 6) := by
  unfold gH
  rw [giT_6 h, show 3 + 5 * k = 3 + 5 * k + 0 by omega, gf_tI h (by omega)]
  rfl
theorem hpT_6 {k : Nat} {v : Int32} (h : k < 32) : gv_pV (gH u x o z) (some (3 + 5 * k)) 2 6 (.int v) = some (gH ((gup u.1 k (((u.1 k).1, (u.1 k).2.1, (u.1 k).2.2.1, (u.1 k).2.2.2.1, gup (u.1 k).2.2.2.2.1 6 v, (u.1 k).2.2.2.2.2) : gQ), u.2.1, u.2.2.1, u.2.2.2.1, u.2.2.2.2.1, u.2.2.2.2.2.1, u.2.2.2.2.2.2.1, u.2.2.2.2.2.2.2.1, u.2.2.2.2.2.2.2.2.1, u.2.2.2.2.2.2.2.2.2.1, u.2.2.2.2.2.2.2.2.2.2.1, u.2.2.2.2.2.2.2.2.2.2.2.1, u.2.2.2.2.2.2.2.2.2.2.2.2.1, u.2.2.2.2.2.2.2.2.2.2.2.2.2.1, u.2.2.2.2.2.2.2.2.2.2.2.2.2.2) : gU) x o z) := by
  unfold gH
  rw [gpT_6 h]
  refine gh_I ?_ ?_
  · refine gf_tw (r := 0) h (by omega) rfl ?_
    intro s hs _
    unfold gf_T
    rw [if_neg hs, if_neg hs]
  · exact (gf_tv (by rfl)).symm
theorem hiT_7 {k : Nat} (h : k < 32) : gv_gI (gH u x o z) (some (3 + 5 * k)) 2 7 = some ((u.1 k).2.2.2.2.1 7) := by
  unfold gH
  rw [giT_7 h, show 3 + 5 * k = 3 + 5 * k + 0 by omega, gf_tI h (by omega)]
  rfl
theorem hpT_7 {k : Nat} {v : Int32} (h : k < 32) : gv_pV (gH u x o z) (some (3 + 5 * k)) 2 7 (.int v) = some (gH ((gup u.1 k (((u.1 k).1, (u.1 k).2.1, (u.1 k).2.2.1, (u.1 k).2.2.2.1, gup (u.1 k).2.2.2.2.1 7 v, (u.1 k).2.2.2.2.2) : gQ), u.2.1, u.2.2.1, u.2.2.2.1, u.2.2.2.2.1, u.2.2.2.2.2.1, u.2.2.2.2.2.2.1, u.2.2.2.2.2.2.2.1, u.2.2.2.2.2.2.2.2.1, u.2.2.2.2.2.2.2.2.2.1, u.2.2.2.2.2.2.2.2.2.2.1, u.2.2.2.2.2.2.2.2.2.2.2.1, u.2.2.2.2.2.2.2.2.2.2.2.2.1, u.2.2.2.2.2.2.2.2.2.2.2.2.2.1, u.2.2.2.2.2.2.2.2.2.2.2.2.2.2) : gU) x o z) := by
  unfold gH
  rw [gpT_7 h]
  refine gh_I ?_ ?_
  · refine gf_tw (r := 0) h (by omega) rfl ?_
    intro s hs _
    unfold gf_T
    rw [if_neg hs, if_neg hs]
  · exact (gf_tv (by rfl)).symm
theorem hiT_8 {k : Nat} (h : k < 32) : gv_gI (gH u x o z) (some (3 + 5 * k)) 2 8 = some ((u.1 k).2.2.2.2.1 8) := by
  unfold gH
  rw [giT_8 h, show 3 + 5 * k = 3 + 5 * k + 0 by omega, gf_tI h (by omega)]
  rfl
theorem hpT_8 {k : Nat} {v : Int32} (h : k < 32) : gv_pV (gH u x o z) (some (3 + 5 * k)) 2 8 (.int v) = some (gH ((gup u.1 k (((u.1 k).1, (u.1 k).2.1, (u.1 k).2.2.1, (u.1 k).2.2.2.1, gup (u.1 k).2.2.2.2.1 8 v, (u.1 k).2.2.2.2.2) : gQ), u.2.1, u.2.2.1, u.2.2.2.1, u.2.2.2.2.1, u.2.2.2.2.2.1, u.2.2.2.2.2.2.1, u.2.2.2.2.2.2.2.1, u.2.2.2.2.2.2.2.2.1, u.2.2.2.2.2.2.2.2.2.1, u.2.2.2.2.2.2.2.2.2.2.1, u.2.2.2.2.2.2.2.2.2.2.2.1, u.2.2.2.2.2.2.2.2.2.2.2.2.1, u.2.2.2.2.2.2.2.2.2.2.2.2.2.1, u.2.2.2.2.2.2.2.2.2.2.2.2.2.2) : gU) x o z) := by
  unfold gH
  rw [gpT_8 h]
  refine gh_I ?_ ?_
  · refine gf_tw (r := 0) h (by omega) rfl ?_
    intro s hs _
    unfold gf_T
    rw [if_neg hs, if_neg hs]
  · exact (gf_tv (by rfl)).symm
theorem hiT_9 {k : Nat} (h : k < 32) : gv_gI (gH u x o z) (some (3 + 5 * k)) 2 9 = some ((u.1 k).2.2.2.2.1 9) := by
  unfold gH
  rw [giT_9 h, show 3 + 5 * k = 3 + 5 * k + 0 by omega, gf_tI h (by omega)]
  rfl
theorem hpT_9 {k : Nat} {v : Int32} (h : k < 32) : gv_pV (gH u x o z) (some (3 + 5 * k)) 2 9 (.int v) = some (gH ((gup u.1 k (((u.1 k).1, (u.1 k).2.1, (u.1 k).2.2.1, (u.1 k).2.2.2.1, gup (u.1 k).2.2.2.2.1 9 v, (u.1 k).2.2.2.2.2) : gQ), u.2.1, u.2.2.1, u.2.2.2.1, u.2.2.2.2.1, u.2.2.2.2.2.1, u.2.2.2.2.2.2.1, u.2.2.2.2.2.2.2.1, u.2.2.2.2.2.2.2.2.1, u.2.2.2.2.2.2.2.2.2.1, u.2.2.2.2.2.2.2.2.2.2.1, u.2.2.2.2.2.2.2.2.2.2.2.1, u.2.2.2.2.2.2.2.2.2.2.2.2.1, u.2.2.2.2.2.2.2.2.2.2.2.2.2.1, u.2.2.2.2.2.2.2.2.2.2.2.2.2.2) : gU) x o z) := by
  unfold gH
  rw [gpT_9 h]
  refine gh_I ?_ ?_
  · refine gf_tw (r := 0) h (by omega) rfl ?_
    intro s hs _
    unfold gf_T
    rw [if_neg hs, if_neg hs]
  · exact (gf_tv (by rfl)).symm
theorem hjT_10 {k : Nat} (h : k < 32) : gv_gJ (gH u x o z) (some (3 + 5 * k)) 2 10 = some ((u.1 k).2.2.2.2.2 10) := by
  unfold gH
  rw [gjT_10 h, gf_tJ h]
theorem hqT_10 {k : Nat} {v : Int64} (h : k < 32) : gv_pV (gH u x o z) (some (3 + 5 * k)) 2 10 (.long v) = some (gH ((gup u.1 k (((u.1 k).1, (u.1 k).2.1, (u.1 k).2.2.1, (u.1 k).2.2.2.1, (u.1 k).2.2.2.2.1, gup (u.1 k).2.2.2.2.2 10 v) : gQ), u.2.1, u.2.2.1, u.2.2.2.1, u.2.2.2.2.1, u.2.2.2.2.2.1, u.2.2.2.2.2.2.1, u.2.2.2.2.2.2.2.1, u.2.2.2.2.2.2.2.2.1, u.2.2.2.2.2.2.2.2.2.1, u.2.2.2.2.2.2.2.2.2.2.1, u.2.2.2.2.2.2.2.2.2.2.2.1, u.2.2.2.2.2.2.2.2.2.2.2.2.1, u.2.2.2.2.2.2.2.2.2.2.2.2.2.1, u.2.2.2.2.2.2.2.2.2.2.2.2.2.2) : gU) x o z) := by
  unfold gH
  rw [gqT_10 h, gf_tj h]
  exact gh_I gf_ti.symm rfl
theorem haT_1 {k i : Nat} (h : k < 32) (hi : i < 8) : gv_lI (gH u x o z) (some (3 + 5 * k + 1)) (Int32.ofNat i) = some ((u.1 k).1 i) := by
  unfold gH
  rw [gaT h (by omega) (by omega) (n_nn (by omega)) (by rw [n_cl (by omega)]; exact hi), n_cl (by omega), gf_tI h (by omega)]
  rfl
theorem hbT_1 {k i : Nat} {v : Int32} (h : k < 32) (hi : i < 8) : gv_wI (gH u x o z) (some (3 + 5 * k + 1)) (Int32.ofNat i) v = some (gH ((gup u.1 k ((gup (u.1 k).1 i v, (u.1 k).2.1, (u.1 k).2.2.1, (u.1 k).2.2.2.1, (u.1 k).2.2.2.2.1, (u.1 k).2.2.2.2.2) : gQ), u.2.1, u.2.2.1, u.2.2.2.1, u.2.2.2.2.1, u.2.2.2.2.2.1, u.2.2.2.2.2.2.1, u.2.2.2.2.2.2.2.1, u.2.2.2.2.2.2.2.2.1, u.2.2.2.2.2.2.2.2.2.1, u.2.2.2.2.2.2.2.2.2.2.1, u.2.2.2.2.2.2.2.2.2.2.2.1, u.2.2.2.2.2.2.2.2.2.2.2.2.1, u.2.2.2.2.2.2.2.2.2.2.2.2.2.1, u.2.2.2.2.2.2.2.2.2.2.2.2.2.2) : gU) x o z) := by
  unfold gH
  rw [gbT h (by omega) (by omega) (n_nn (by omega)) (by rw [n_cl (by omega)]; exact hi), n_cl (by omega)]
  refine gh_I ?_ ?_
  · refine gf_tw (r := 1) h (by omega) rfl ?_
    intro s hs _
    unfold gf_T
    rw [if_neg hs, if_neg hs]
  · exact (gf_tv (by rfl)).symm
theorem haT_2 {k i : Nat} (h : k < 32) (hi : i < 8) : gv_lI (gH u x o z) (some (3 + 5 * k + 2)) (Int32.ofNat i) = some ((u.1 k).2.1 i) := by
  unfold gH
  rw [gaT h (by omega) (by omega) (n_nn (by omega)) (by rw [n_cl (by omega)]; exact hi), n_cl (by omega), gf_tI h (by omega)]
  rfl
theorem hbT_2 {k i : Nat} {v : Int32} (h : k < 32) (hi : i < 8) : gv_wI (gH u x o z) (some (3 + 5 * k + 2)) (Int32.ofNat i) v = some (gH ((gup u.1 k (((u.1 k).1, gup (u.1 k).2.1 i v, (u.1 k).2.2.1, (u.1 k).2.2.2.1, (u.1 k).2.2.2.2.1, (u.1 k).2.2.2.2.2) : gQ), u.2.1, u.2.2.1, u.2.2.2.1, u.2.2.2.2.1, u.2.2.2.2.2.1, u.2.2.2.2.2.2.1, u.2.2.2.2.2.2.2.1, u.2.2.2.2.2.2.2.2.1, u.2.2.2.2.2.2.2.2.2.1, u.2.2.2.2.2.2.2.2.2.2.1, u.2.2.2.2.2.2.2.2.2.2.2.1, u.2.2.2.2.2.2.2.2.2.2.2.2.1, u.2.2.2.2.2.2.2.2.2.2.2.2.2.1, u.2.2.2.2.2.2.2.2.2.2.2.2.2.2) : gU) x o z) := by
  unfold gH
  rw [gbT h (by omega) (by omega) (n_nn (by omega)) (by rw [n_cl (by omega)]; exact hi), n_cl (by omega)]
  refine gh_I ?_ ?_
  · refine gf_tw (r := 2) h (by omega) rfl ?_
    intro s hs _
    unfold gf_T
    rw [if_neg hs, if_neg hs]
  · exact (gf_tv (by rfl)).symm
theorem haT_3 {k i : Nat} (h : k < 32) (hi : i < 8) : gv_lI (gH u x o z) (some (3 + 5 * k + 3)) (Int32.ofNat i) = some ((u.1 k).2.2.1 i) := by
  unfold gH
  rw [gaT h (by omega) (by omega) (n_nn (by omega)) (by rw [n_cl (by omega)]; exact hi), n_cl (by omega), gf_tI h (by omega)]
  rfl
theorem hbT_3 {k i : Nat} {v : Int32} (h : k < 32) (hi : i < 8) : gv_wI (gH u x o z) (some (3 + 5 * k + 3)) (Int32.ofNat i) v = some (gH ((gup u.1 k (((u.1 k).1, (u.1 k).2.1, gup (u.1 k).2.2.1 i v, (u.1 k).2.2.2.1, (u.1 k).2.2.2.2.1, (u.1 k).2.2.2.2.2) : gQ), u.2.1, u.2.2.1, u.2.2.2.1, u.2.2.2.2.1, u.2.2.2.2.2.1, u.2.2.2.2.2.2.1, u.2.2.2.2.2.2.2.1, u.2.2.2.2.2.2.2.2.1, u.2.2.2.2.2.2.2.2.2.1, u.2.2.2.2.2.2.2.2.2.2.1, u.2.2.2.2.2.2.2.2.2.2.2.1, u.2.2.2.2.2.2.2.2.2.2.2.2.1, u.2.2.2.2.2.2.2.2.2.2.2.2.2.1, u.2.2.2.2.2.2.2.2.2.2.2.2.2.2) : gU) x o z) := by
  unfold gH
  rw [gbT h (by omega) (by omega) (n_nn (by omega)) (by rw [n_cl (by omega)]; exact hi), n_cl (by omega)]
  refine gh_I ?_ ?_
  · refine gf_tw (r := 3) h (by omega) rfl ?_
    intro s hs _
    unfold gf_T
    rw [if_neg hs, if_neg hs]
  · exact (gf_tv (by rfl)).symm
theorem haT_4 {k i : Nat} (h : k < 32) (hi : i < 8) : gv_lI (gH u x o z) (some (3 + 5 * k + 4)) (Int32.ofNat i) = some ((u.1 k).2.2.2.1 i) := by
  unfold gH
  rw [gaT h (by omega) (by omega) (n_nn (by omega)) (by rw [n_cl (by omega)]; exact hi), n_cl (by omega), gf_tI h (by omega)]
  rfl
theorem hbT_4 {k i : Nat} {v : Int32} (h : k < 32) (hi : i < 8) : gv_wI (gH u x o z) (some (3 + 5 * k + 4)) (Int32.ofNat i) v = some (gH ((gup u.1 k (((u.1 k).1, (u.1 k).2.1, (u.1 k).2.2.1, gup (u.1 k).2.2.2.1 i v, (u.1 k).2.2.2.2.1, (u.1 k).2.2.2.2.2) : gQ), u.2.1, u.2.2.1, u.2.2.2.1, u.2.2.2.2.1, u.2.2.2.2.2.1, u.2.2.2.2.2.2.1, u.2.2.2.2.2.2.2.1, u.2.2.2.2.2.2.2.2.1, u.2.2.2.2.2.2.2.2.2.1, u.2.2.2.2.2.2.2.2.2.2.1, u.2.2.2.2.2.2.2.2.2.2.2.1, u.2.2.2.2.2.2.2.2.2.2.2.2.1, u.2.2.2.2.2.2.2.2.2.2.2.2.2.1, u.2.2.2.2.2.2.2.2.2.2.2.2.2.2) : gU) x o z) := by
  unfold gH
  rw [gbT h (by omega) (by omega) (n_nn (by omega)) (by rw [n_cl (by omega)]; exact hi), n_cl (by omega)]
  refine gh_I ?_ ?_
  · refine gf_tw (r := 4) h (by omega) rfl ?_
    intro s hs _
    unfold gf_T
    rw [if_neg hs, if_neg hs]
  · exact (gf_tv (by rfl)).symm
theorem hl : (gH u x o z).length = 212 + z.length := gm_len
theorem hthr (e : gx_C) : gH u x o z ++ [e] = gH u x o (z ++ [e]) := gm_thr e
theorem hexc {e : Nat} : (gH u x o (z ++ [(e, [])]))[212 + z.length]? = some (e, []) := gm_exc
end H
end
section
/-! what ties the class's record to the reference's -/
/-- byte i of a long -/
def gt_w (w : Int64) (i : Nat) : Int32 := (Int64.toInt32 ((Int64.toUInt64 w >>> ((Int32.toInt64 ((8 : Int32) * Int32.ofNat i)).toUInt64 &&& Int64.toUInt64 63)).toInt64)) &&& (255 : Int32)
theorem k_byteOf {w : Int64} {i : Nat} : cG_byteOf w (Int32.ofNat i) = some (gt_w w i) := rfl
def gcap (s : Nat) : Nat := if s = 0 then 6 else if s = 2 then 4 else if s = 3 then 5 else if s ≤ 5 then 8 else 0
/-- a kind and a number that may stand in an object of sort s, where there are n objects -/
def gV (n s : Nat) (k v : Int32) : Prop := (k = -1 ∧ s = 1 ∧ v = 0) ∨ (k = 8 ∧ s = 0) ∨ ∃ j, j < 8 ∧ k = Int32.ofNat j ∧ (j = 6 → ∃ b, b < n ∧ v = Int32.ofNat b)
abbrev gO  (n s c : Nat) (q : gQ) (p : gP) : Prop := (s < 8) ∧ (q.2.2.2.2.1 4 = Int32.ofNat s) ∧ (p.2.2.2.2.1 = Int32.ofNat s) ∧ (q.2.2.2.2.1 5 = Int32.ofNat c) ∧ (c ≤ gcap s) ∧ (p.2.2.2.2.2.2.1 = q.2.2.2.2.1 6) ∧ (q.2.2.2.2.1 6 = 0 ∨ (q.2.2.2.2.1 6 = 1 ∧ s = 4)) ∧ (q.2.2.2.2.1 6 = 0 → p.2.2.2.2.2.1 = Int32.ofNat c) ∧ (¬ q.2.2.2.2.1 6 = 0 → p.2.2.2.2.2.1 = 0) ∧ (s = 0 ∨ s = 2 → ∀ i, i < c → p.2.1 i = q.2.1 i) ∧ (s = 2 → ∀ i, i < c → p.1 i = q.1 i) ∧ (s = 0 → ∀ i, i < c → q.1 i = 4) ∧ (s ≤ 3 → ∀ i, i < c → p.2.2.1 i = q.2.2.1 i ∧ p.2.2.2.1 i = q.2.2.2.1 i) ∧ (s ≤ 3 → ∀ i, i < c → gV n s (q.2.2.1 i) (q.2.2.2.1 i)) ∧ (s = 2 → ∀ i, i < c → gV n s (q.1 i) (q.2.1 i)) ∧ (s = 0 → ∀ i j, i < j → j < c → ¬ q.2.1 j < 0 → ¬ q.2.1 i < 0 ∧ q.2.1 i < q.2.1 j) ∧ (s = 4 → ∀ i, i < c → p.2.2.2.1 i = gt_w (q.2.2.2.2.2 10) i) ∧ (s = 5 → p.2.2.2.1 0 = q.2.2.2.2.1 7 ∧ p.2.2.2.1 1 = q.2.2.2.2.1 8 ∧ p.2.2.2.1 2 = q.2.2.2.2.1 9 ∧ p.2.2.2.1 3 = q.2.2.2.2.1 5 ∧ (∃ b, b < n ∧ q.2.2.2.2.1 7 = Int32.ofNat b) ∧ (∃ b, b ≤ 4 ∧ q.2.2.2.2.1 8 = Int32.ofNat b) ∧ ∃ b, b ≤ 8 ∧ q.2.2.2.2.1 9 = Int32.ofNat b) ∧ (s = 6 → p.2.2.2.2.2.2.2 = q.2.2.2.2.2 10)
theorem gO.s8 {n s c : Nat} {q : gQ} {p : gP} (h : gO n s c q p) : s < 8 := h.1
theorem gO.es {n s c : Nat} {q : gQ} {p : gP} (h : gO n s c q p) : q.2.2.2.2.1 4 = Int32.ofNat s := h.2.1
theorem gO.et {n s c : Nat} {q : gQ} {p : gP} (h : gO n s c q p) : p.2.2.2.2.1 = Int32.ofNat s := h.2.2.1
theorem gO.ec {n s c : Nat} {q : gQ} {p : gP} (h : gO n s c q p) : q.2.2.2.2.1 5 = Int32.ofNat c := h.2.2.2.1
theorem gO.c8 {n s c : Nat} {q : gQ} {p : gP} (h : gO n s c q p) : c ≤ gcap s := h.2.2.2.2.1
theorem gO.ed {n s c : Nat} {q : gQ} {p : gP} (h : gO n s c q p) : p.2.2.2.2.2.2.1 = q.2.2.2.2.1 6 := h.2.2.2.2.2.1
theorem gO.d4 {n s c : Nat} {q : gQ} {p : gP} (h : gO n s c q p) : q.2.2.2.2.1 6 = 0 ∨ (q.2.2.2.2.1 6 = 1 ∧ s = 4) := h.2.2.2.2.2.2.1
theorem gO.ep {n s c : Nat} {q : gQ} {p : gP} (h : gO n s c q p) : q.2.2.2.2.1 6 = 0 → p.2.2.2.2.2.1 = Int32.ofNat c := h.2.2.2.2.2.2.2.1
theorem gO.e0 {n s c : Nat} {q : gQ} {p : gP} (h : gO n s c q p) : ¬ q.2.2.2.2.1 6 = 0 → p.2.2.2.2.2.1 = 0 := h.2.2.2.2.2.2.2.2.1
theorem gO.kE {n s c : Nat} {q : gQ} {p : gP} (h : gO n s c q p) : s = 0 ∨ s = 2 → ∀ i, i < c → p.2.1 i = q.2.1 i := h.2.2.2.2.2.2.2.2.2.1
theorem gO.kK {n s c : Nat} {q : gQ} {p : gP} (h : gO n s c q p) : s = 2 → ∀ i, i < c → p.1 i = q.1 i := h.2.2.2.2.2.2.2.2.2.2.1
theorem gO.k4 {n s c : Nat} {q : gQ} {p : gP} (h : gO n s c q p) : s = 0 → ∀ i, i < c → q.1 i = 4 := h.2.2.2.2.2.2.2.2.2.2.2.1
theorem gO.vs {n s c : Nat} {q : gQ} {p : gP} (h : gO n s c q p) : s ≤ 3 → ∀ i, i < c → p.2.2.1 i = q.2.2.1 i ∧ p.2.2.2.1 i = q.2.2.2.1 i := h.2.2.2.2.2.2.2.2.2.2.2.2.1
theorem gO.vv {n s c : Nat} {q : gQ} {p : gP} (h : gO n s c q p) : s ≤ 3 → ∀ i, i < c → gV n s (q.2.2.1 i) (q.2.2.2.1 i) := h.2.2.2.2.2.2.2.2.2.2.2.2.2.1
theorem gO.kv {n s c : Nat} {q : gQ} {p : gP} (h : gO n s c q p) : s = 2 → ∀ i, i < c → gV n s (q.1 i) (q.2.1 i) := h.2.2.2.2.2.2.2.2.2.2.2.2.2.2.1
theorem gO.so {n s c : Nat} {q : gQ} {p : gP} (h : gO n s c q p) : s = 0 → ∀ i j, i < j → j < c → ¬ q.2.1 j < 0 → ¬ q.2.1 i < 0 ∧ q.2.1 i < q.2.1 j := h.2.2.2.2.2.2.2.2.2.2.2.2.2.2.2.1
theorem gO.bb {n s c : Nat} {q : gQ} {p : gP} (h : gO n s c q p) : s = 4 → ∀ i, i < c → p.2.2.2.1 i = gt_w (q.2.2.2.2.2 10) i := h.2.2.2.2.2.2.2.2.2.2.2.2.2.2.2.2.1
theorem gO.vw {n s c : Nat} {q : gQ} {p : gP} (h : gO n s c q p) : s = 5 → p.2.2.2.1 0 = q.2.2.2.2.1 7 ∧ p.2.2.2.1 1 = q.2.2.2.2.1 8 ∧ p.2.2.2.1 2 = q.2.2.2.2.1 9 ∧ p.2.2.2.1 3 = q.2.2.2.2.1 5 ∧ (∃ b, b < n ∧ q.2.2.2.2.1 7 = Int32.ofNat b) ∧ (∃ b, b ≤ 4 ∧ q.2.2.2.2.1 8 = Int32.ofNat b) ∧ ∃ b, b ≤ 8 ∧ q.2.2.2.2.1 9 = Int32.ofNat b := h.2.2.2.2.2.2.2.2.2.2.2.2.2.2.2.2.2.1
theorem gO.sT {n s c : Nat} {q : gQ} {p : gP} (h : gO n s c q p) : s = 6 → p.2.2.2.2.2.2.2 = q.2.2.2.2.2 10 := h.2.2.2.2.2.2.2.2.2.2.2.2.2.2.2.2.2.2
abbrev gTi  (n m p q : Nat) (u : gU) (x : gX) : Prop := (n ≤ 32) ∧ (u.2.2.1 1 = Int32.ofNat n) ∧ (x.2.1 1 = Int32.ofNat n) ∧ (∀ k, k < n → ∃ s c, gO n s c (u.1 k) (x.1 k)) ∧ (m ≤ 300) ∧ (u.2.2.2.1 1 = Int32.ofNat m) ∧ (x.2.1 15 = Int32.ofNat m) ∧ (∀ i, i < m → x.2.2.2.2.2.1 i = u.2.2.2.2.1 i) ∧ (∀ i, i < m → ∃ b, b < 256 ∧ u.2.2.2.2.1 i = Int32.ofNat b) ∧ (p ≤ 4) ∧ (u.2.2.2.2.2.1 1 = Int32.ofNat p) ∧ (x.2.1 10 = Int32.ofNat p) ∧ (∀ i, i < p → x.2.2.1 i = u.2.2.2.2.2.2.1 i) ∧ (∀ i, i < p → ∃ k, k < n ∧ u.2.2.2.2.2.2.1 i = Int32.ofNat k) ∧ (q ≤ 4) ∧ (u.2.2.2.2.2.1 4 = Int32.ofNat q) ∧ (x.2.1 12 = Int32.ofNat q) ∧ (∀ i, i < q → ∃ l, l ≤ 8 ∧ u.2.2.2.2.2.2.2.1 i = Int32.ofNat l ∧ x.2.2.2.1 i = Int32.ofNat l ∧ ∀ j, j < l → x.2.2.2.2.1 (8 * i + j) = gt_w (u.2.2.2.2.2.2.2.2.2.2.2.2.2.2 i) j) ∧ (u.2.1 5 = x.2.1 17)
theorem gTi.hn {n m p q : Nat} {u : gU} {x : gX} (h : gTi n m p q u x) : n ≤ 32 := h.1
theorem gTi.un {n m p q : Nat} {u : gU} {x : gX} (h : gTi n m p q u x) : u.2.2.1 1 = Int32.ofNat n := h.2.1
theorem gTi.xn {n m p q : Nat} {u : gU} {x : gX} (h : gTi n m p q u x) : x.2.1 1 = Int32.ofNat n := h.2.2.1
theorem gTi.ob {n m p q : Nat} {u : gU} {x : gX} (h : gTi n m p q u x) : ∀ k, k < n → ∃ s c, gO n s c (u.1 k) (x.1 k) := h.2.2.2.1
theorem gTi.hm {n m p q : Nat} {u : gU} {x : gX} (h : gTi n m p q u x) : m ≤ 300 := h.2.2.2.2.1
theorem gTi.um {n m p q : Nat} {u : gU} {x : gX} (h : gTi n m p q u x) : u.2.2.2.1 1 = Int32.ofNat m := h.2.2.2.2.2.1
theorem gTi.xm {n m p q : Nat} {u : gU} {x : gX} (h : gTi n m p q u x) : x.2.1 15 = Int32.ofNat m := h.2.2.2.2.2.2.1
theorem gTi.bs {n m p q : Nat} {u : gU} {x : gX} (h : gTi n m p q u x) : ∀ i, i < m → x.2.2.2.2.2.1 i = u.2.2.2.2.1 i := h.2.2.2.2.2.2.2.1
theorem gTi.b8 {n m p q : Nat} {u : gU} {x : gX} (h : gTi n m p q u x) : ∀ i, i < m → ∃ b, b < 256 ∧ u.2.2.2.2.1 i = Int32.ofNat b := h.2.2.2.2.2.2.2.2.1
theorem gTi.hp {n m p q : Nat} {u : gU} {x : gX} (h : gTi n m p q u x) : p ≤ 4 := h.2.2.2.2.2.2.2.2.2.1
theorem gTi.up {n m p q : Nat} {u : gU} {x : gX} (h : gTi n m p q u x) : u.2.2.2.2.2.1 1 = Int32.ofNat p := h.2.2.2.2.2.2.2.2.2.2.1
theorem gTi.xp {n m p q : Nat} {u : gU} {x : gX} (h : gTi n m p q u x) : x.2.1 10 = Int32.ofNat p := h.2.2.2.2.2.2.2.2.2.2.2.1
theorem gTi.pa {n m p q : Nat} {u : gU} {x : gX} (h : gTi n m p q u x) : ∀ i, i < p → x.2.2.1 i = u.2.2.2.2.2.2.1 i := h.2.2.2.2.2.2.2.2.2.2.2.2.1
theorem gTi.pb {n m p q : Nat} {u : gU} {x : gX} (h : gTi n m p q u x) : ∀ i, i < p → ∃ k, k < n ∧ u.2.2.2.2.2.2.1 i = Int32.ofNat k := h.2.2.2.2.2.2.2.2.2.2.2.2.2.1
theorem gTi.hq {n m p q : Nat} {u : gU} {x : gX} (h : gTi n m p q u x) : q ≤ 4 := h.2.2.2.2.2.2.2.2.2.2.2.2.2.2.1
theorem gTi.uq {n m p q : Nat} {u : gU} {x : gX} (h : gTi n m p q u x) : u.2.2.2.2.2.1 4 = Int32.ofNat q := h.2.2.2.2.2.2.2.2.2.2.2.2.2.2.2.1
theorem gTi.xq {n m p q : Nat} {u : gU} {x : gX} (h : gTi n m p q u x) : x.2.1 12 = Int32.ofNat q := h.2.2.2.2.2.2.2.2.2.2.2.2.2.2.2.2.1
theorem gTi.ho {n m p q : Nat} {u : gU} {x : gX} (h : gTi n m p q u x) : ∀ i, i < q → ∃ l, l ≤ 8 ∧ u.2.2.2.2.2.2.2.1 i = Int32.ofNat l ∧ x.2.2.2.1 i = Int32.ofNat l ∧ ∀ j, j < l → x.2.2.2.2.1 (8 * i + j) = gt_w (u.2.2.2.2.2.2.2.2.2.2.2.2.2.2 i) j := h.2.2.2.2.2.2.2.2.2.2.2.2.2.2.2.2.2.1
theorem gTi.fo {n m p q : Nat} {u : gU} {x : gX} (h : gTi n m p q u x) : u.2.1 5 = x.2.1 17 := h.2.2.2.2.2.2.2.2.2.2.2.2.2.2.2.2.2.2
theorem gV_mono {n n2 s : Nat} {k v : Int32} (hn : n ≤ n2) (h : gV n s k v) : gV n2 s k v := by
  rcases h with h | h | ⟨j, h1, h2, h3⟩
  · exact Or.inl h
  · exact Or.inr (Or.inl h)
  · refine Or.inr (Or.inr ⟨j, h1, h2, fun h4 => ?_⟩)
    obtain ⟨b, h5, h6⟩ := h3 h4
    exact ⟨b, by omega, h6⟩
theorem gO_mono {n n2 s c : Nat} {q : gQ} {p : gP} (hn : n ≤ n2) (h : gO n s c q p) : gO n2 s c q p := by
  refine ⟨h.s8, h.es, h.et, h.ec, h.c8, h.ed, h.d4, h.ep, h.e0, h.kE, h.kK, h.k4, h.vs, fun a i b => gV_mono hn (h.vv a i b), fun a i b => gV_mono hn (h.kv a i b), h.so, h.bb, fun a => ?_, h.sT⟩
  obtain ⟨h1, h2, h3, h4, ⟨b, h5, h6⟩, h7⟩ := h.vw a
  exact ⟨h1, h2, h3, h4, ⟨b, by omega, h6⟩, h7⟩
theorem gob_up {n k0 : Nat} {C : Nat → gQ} {R : Nat → gP} {q : gQ} {p : gP} (h : ∀ k, k < n → ∃ s c, gO n s c (C k) (R k)) (h2 : ∃ s c, gO n s c q p) : ∀ k, k < n → ∃ s c, gO n s c (gup C k0 q k) (gup R k0 p k) := by
  intro k hk
  by_cases c : k = k0
  · subst c; rw [gup_eq, gup_eq]; exact h2
  · rw [gup_ne c, gup_ne c]; exact h k hk
theorem gob_new {n : Nat} {C : Nat → gQ} {R : Nat → gP} {q : gQ} {p : gP} (h : ∀ k, k < n → ∃ s c, gO n s c (C k) (R k)) (h2 : ∃ s c, gO (n + 1) s c q p) : ∀ k, k < n + 1 → ∃ s c, gO (n + 1) s c (gup C n q k) (gup R n p k) := by
  intro k hk
  by_cases c : k = n
  · subst c; rw [gup_eq, gup_eq]; exact h2
  · rw [gup_ne c, gup_ne c]
    obtain ⟨s, c, h3⟩ := h k (by omega)
    exact ⟨s, c, gO_mono (by omega) h3⟩
/-- a number is an object, or it is none -/
theorem g_ob (v : Int32) (n : Nat) (hn : n < 2 ^ 31) : (v < 0 ∨ ¬ v < Int32.ofNat n) ∨ ∃ k, k < n ∧ v = Int32.ofNat k := by
  by_cases h0 : v < 0
  · exact Or.inl (Or.inl h0)
  · by_cases h1 : v < Int32.ofNat n
    · exact Or.inr (n_of h0 h1 hn)
    · exact Or.inl (Or.inr h1)
section H
variable {u : gU} {x : gX} {o : Nat → Int64} {z : gx_H}
theorem k_tin {n k : Nat} (hu : u.2.2.1 1 = Int32.ofNat n) (hn : n ≤ 32) (hk : k < n) : cS_thingAt (some 1) (Int32.ofNat k) (gH u x o z) = some (some (3 + 5 * k)) := by
  unfold cS_thingAt
  rw [if_neg (n_nn (by omega)), hi_1_1, Option.bind_some, hu, if_pos (n_ltl (by omega) (by omega) hk), hr_1_0, Option.bind_some, hT (by omega)]
  rfl
theorem k_tout {n : Nat} {v : Int32} (hu : u.2.2.1 1 = Int32.ofNat n) (h : v < 0 ∨ ¬ v < Int32.ofNat n) : cS_thingAt (some 1) v (gH u x o z) = some none := by
  unfold cS_thingAt
  by_cases h0 : v < 0
  · rw [if_pos h0]
  · rw [if_neg h0, hi_1_1, Option.bind_some, hu, if_neg (by rcases h with h | h; exact absurd h h0; exact h)]
theorem r_oin {n k : Nat} (hx : x.2.1 1 = Int32.ofNat n) (hn : n ≤ 32) (hk : k < n) : mM_isObject (some 188) (Int32.ofNat k) (gH u x o z) = some 1 := by
  unfold mM_isObject
  rw [if_neg (n_nn (by omega)), hi_188_1, Option.bind_some, hx, if_pos (n_ltl (by omega) (by omega) hk)]
theorem r_oout {n : Nat} {v : Int32} (hx : x.2.1 1 = Int32.ofNat n) (h : v < 0 ∨ ¬ v < Int32.ofNat n) : mM_isObject (some 188) v (gH u x o z) = some 0 := by
  unfold mM_isObject
  by_cases h0 : v < 0
  · rw [if_pos h0]
  · rw [if_neg h0, hi_188_1, Option.bind_some, hx, if_neg (by rcases h with h | h; exact absurd h h0; exact h)]
theorem r_isin {n k : Nat} {t : Int32} (hx : x.2.1 1 = Int32.ofNat n) (hn : n ≤ 32) (hk : k < n) : mM_is (some 188) (Int32.ofNat k) t (gH u x o z) = some (if (x.1 k).2.2.2.2.1 = t then 1 else 0) := by
  unfold mM_is
  rw [ho_188, Option.bind_some, r_oin hx hn hk, Option.bind_some, if_neg (by decide), hr_188_2, Option.bind_some, ha_189 (by omega), Option.bind_some]
  split <;> rfl
theorem r_isout {n : Nat} {v t : Int32} (hx : x.2.1 1 = Int32.ofNat n) (h : v < 0 ∨ ¬ v < Int32.ofNat n) : mM_is (some 188) v t (gH u x o z) = some 0 := by
  unfold mM_is
  rw [ho_188, Option.bind_some, r_oout hx h, Option.bind_some, if_pos rfl]
theorem r_ref {a b : Int32} : mM_refused (some 188) a b (gH u x o z) = some (if a = 0 ∧ b = 0 then 0 else 1, gH u ((x.1, gup x.2.1 0 (if a = 0 then if b = 0 then 0 else 2 else 1), x.2.2.1, x.2.2.2.1, x.2.2.2.2.1, x.2.2.2.2.2.1, x.2.2.2.2.2.2.1, x.2.2.2.2.2.2.2.1, x.2.2.2.2.2.2.2.2.1, x.2.2.2.2.2.2.2.2.2.1, x.2.2.2.2.2.2.2.2.2.2.1, x.2.2.2.2.2.2.2.2.2.2.2.1, x.2.2.2.2.2.2.2.2.2.2.2.2.1, x.2.2.2.2.2.2.2.2.2.2.2.2.2.1, x.2.2.2.2.2.2.2.2.2.2.2.2.2.2.1, x.2.2.2.2.2.2.2.2.2.2.2.2.2.2.2) : gX) o z) := by
  unfold mM_refused
  by_cases ha : a = 0 <;> by_cases hb : b = 0 <;> simp [ha, hb, mM_refused_18, hp_188_0, hi_188_0, gup]
end H
end
section
/-! calls that look, or count: both sides -/
def gTT (u : gU) (x : gX) : Prop := ∃ n m p q, gTi n m p q u x
theorem gTT_0 {u : gU} {x : gX} {v : Int32} (h : gTT u x) : gTT u ((x.1, gup x.2.1 0 v, x.2.2.1, x.2.2.2.1, x.2.2.2.2.1, x.2.2.2.2.2.1, x.2.2.2.2.2.2.1, x.2.2.2.2.2.2.2.1, x.2.2.2.2.2.2.2.2.1, x.2.2.2.2.2.2.2.2.2.1, x.2.2.2.2.2.2.2.2.2.2.1, x.2.2.2.2.2.2.2.2.2.2.2.1, x.2.2.2.2.2.2.2.2.2.2.2.2.1, x.2.2.2.2.2.2.2.2.2.2.2.2.2.1, x.2.2.2.2.2.2.2.2.2.2.2.2.2.2.1, x.2.2.2.2.2.2.2.2.2.2.2.2.2.2.2) : gX) := by
  obtain ⟨n, m, p, q, T⟩ := h
  exact ⟨n, m, p, q, T.hn, T.un, T.xn, T.ob, T.hm, T.um, T.xm, T.bs, T.b8, T.hp, T.up, T.xp, T.pa, T.pb, T.hq, T.uq, T.xq, T.ho, T.fo⟩
section H
variable {u : gU} {x : gX} {o : Nat → Int64} {z : gx_H}
theorem k_objects : cG_objects (some 0) (gH u x o z) = some (u.2.2.1 1) := by simp [cG_objects, ho_0, hr_0_0, hr_0_1, hr_0_2, hr_0_3, hr_0_4, ho_1, hr_1_0, ho_163, hr_163_0, ho_165, hr_165_0, hr_165_2, hr_165_3, ho_169, hr_169_0, hr_169_1, hr_169_3, ho_170, hr_170_0, ho_187, ho_188, hr_188_2, hr_188_3, hr_188_4, hr_188_5, hr_188_6, hr_188_7, hr_188_8, hr_188_9, hr_188_11, hr_188_13, hr_188_14, hr_188_16, hr_188_19, hr_188_20, hr_188_21, hr_188_22, hr_188_23, hr_188_24, hr_188_25, hr_188_28, hr_188_30, hr_188_34, hi_0_5, hp_0_5, hi_1_1, hp_1_1, hi_163_1, hp_163_1, hi_165_1, hp_165_1, hi_165_4, hp_165_4, hi_169_2, hp_169_2, hi_169_4, hp_169_4, hi_170_1, hp_170_1, hi_187_0, hp_187_0, hi_187_1, hp_187_1, hi_187_2, hp_187_2, hi_187_3, hp_187_3, hi_187_4, hp_187_4, hi_187_5, hp_187_5, hi_187_6, hp_187_6, hi_188_0, hp_188_0, hi_188_1, hp_188_1, hi_188_10, hp_188_10, hi_188_12, hp_188_12, hi_188_15, hp_188_15, hi_188_17, hp_188_17, hi_188_18, hp_188_18, hi_188_26, hp_188_26, hi_188_27, hp_188_27, hi_188_29, hp_188_29, hi_188_31, hp_188_31, hi_188_32, hp_188_32, hi_188_33, hp_188_33, hi_188_35, hp_188_35, hi_188_36, hp_188_36]
theorem k_holders : cG_holders (some 0) (gH u x o z) = some (u.2.2.2.2.2.1 4) := by simp [cG_holders, ho_0, hr_0_0, hr_0_1, hr_0_2, hr_0_3, hr_0_4, ho_1, hr_1_0, ho_163, hr_163_0, ho_165, hr_165_0, hr_165_2, hr_165_3, ho_169, hr_169_0, hr_169_1, hr_169_3, ho_170, hr_170_0, ho_187, ho_188, hr_188_2, hr_188_3, hr_188_4, hr_188_5, hr_188_6, hr_188_7, hr_188_8, hr_188_9, hr_188_11, hr_188_13, hr_188_14, hr_188_16, hr_188_19, hr_188_20, hr_188_21, hr_188_22, hr_188_23, hr_188_24, hr_188_25, hr_188_28, hr_188_30, hr_188_34, hi_0_5, hp_0_5, hi_1_1, hp_1_1, hi_163_1, hp_163_1, hi_165_1, hp_165_1, hi_165_4, hp_165_4, hi_169_2, hp_169_2, hi_169_4, hp_169_4, hi_170_1, hp_170_1, hi_187_0, hp_187_0, hi_187_1, hp_187_1, hi_187_2, hp_187_2, hi_187_3, hp_187_3, hi_187_4, hp_187_4, hi_187_5, hp_187_5, hi_187_6, hp_187_6, hi_188_0, hp_188_0, hi_188_1, hp_188_1, hi_188_10, hp_188_10, hi_188_12, hp_188_12, hi_188_15, hp_188_15, hi_188_17, hp_188_17, hi_188_18, hp_188_18, hi_188_26, hp_188_26, hi_188_27, hp_188_27, hi_188_29, hp_188_29, hi_188_31, hp_188_31, hi_188_32, hp_188_32, hi_188_33, hp_188_33, hi_188_35, hp_188_35, hi_188_36, hp_188_36]
theorem k_found : cG_found (some 0) (gH u x o z) = some (u.2.1 5) := by simp [cG_found, ho_0, hr_0_0, hr_0_1, hr_0_2, hr_0_3, hr_0_4, ho_1, hr_1_0, ho_163, hr_163_0, ho_165, hr_165_0, hr_165_2, hr_165_3, ho_169, hr_169_0, hr_169_1, hr_169_3, ho_170, hr_170_0, ho_187, ho_188, hr_188_2, hr_188_3, hr_188_4, hr_188_5, hr_188_6, hr_188_7, hr_188_8, hr_188_9, hr_188_11, hr_188_13, hr_188_14, hr_188_16, hr_188_19, hr_188_20, hr_188_21, hr_188_22, hr_188_23, hr_188_24, hr_188_25, hr_188_28, hr_188_30, hr_188_34, hi_0_5, hp_0_5, hi_1_1, hp_1_1, hi_163_1, hp_163_1, hi_165_1, hp_165_1, hi_165_4, hp_165_4, hi_169_2, hp_169_2, hi_169_4, hp_169_4, hi_170_1, hp_170_1, hi_187_0, hp_187_0, hi_187_1, hp_187_1, hi_187_2, hp_187_2, hi_187_3, hp_187_3, hi_187_4, hp_187_4, hi_187_5, hp_187_5, hi_187_6, hp_187_6, hi_188_0, hp_188_0, hi_188_1, hp_188_1, hi_188_10, hp_188_10, hi_188_12, hp_188_12, hi_188_15, hp_188_15, hi_188_17, hp_188_17, hi_188_18, hp_188_18, hi_188_26, hp_188_26, hi_188_27, hp_188_27, hi_188_29, hp_188_29, hi_188_31, hp_188_31, hi_188_32, hp_188_32, hi_188_33, hp_188_33, hi_188_35, hp_188_35, hi_188_36, hp_188_36]
theorem k_wipe : cG_wipe (some 0) (gH u x o z) = some (u.2.2.2.1 1, gH ((u.1, u.2.1, u.2.2.1, gup u.2.2.2.1 1 0, u.2.2.2.2.1, u.2.2.2.2.2.1, u.2.2.2.2.2.2.1, u.2.2.2.2.2.2.2.1, u.2.2.2.2.2.2.2.2.1, u.2.2.2.2.2.2.2.2.2.1, u.2.2.2.2.2.2.2.2.2.2.1, u.2.2.2.2.2.2.2.2.2.2.2.1, u.2.2.2.2.2.2.2.2.2.2.2.2.1, u.2.2.2.2.2.2.2.2.2.2.2.2.2.1, u.2.2.2.2.2.2.2.2.2.2.2.2.2.2) : gU) x o z) := by simp [cG_wipe, ho_0, hr_0_0, hr_0_1, hr_0_2, hr_0_3, hr_0_4, ho_1, hr_1_0, ho_163, hr_163_0, ho_165, hr_165_0, hr_165_2, hr_165_3, ho_169, hr_169_0, hr_169_1, hr_169_3, ho_170, hr_170_0, ho_187, ho_188, hr_188_2, hr_188_3, hr_188_4, hr_188_5, hr_188_6, hr_188_7, hr_188_8, hr_188_9, hr_188_11, hr_188_13, hr_188_14, hr_188_16, hr_188_19, hr_188_20, hr_188_21, hr_188_22, hr_188_23, hr_188_24, hr_188_25, hr_188_28, hr_188_30, hr_188_34, hi_0_5, hp_0_5, hi_1_1, hp_1_1, hi_163_1, hp_163_1, hi_165_1, hp_165_1, hi_165_4, hp_165_4, hi_169_2, hp_169_2, hi_169_4, hp_169_4, hi_170_1, hp_170_1, hi_187_0, hp_187_0, hi_187_1, hp_187_1, hi_187_2, hp_187_2, hi_187_3, hp_187_3, hi_187_4, hp_187_4, hi_187_5, hp_187_5, hi_187_6, hp_187_6, hi_188_0, hp_188_0, hi_188_1, hp_188_1, hi_188_10, hp_188_10, hi_188_12, hp_188_12, hi_188_15, hp_188_15, hi_188_17, hp_188_17, hi_188_18, hp_188_18, hi_188_26, hp_188_26, hi_188_27, hp_188_27, hi_188_29, hp_188_29, hi_188_31, hp_188_31, hi_188_32, hp_188_32, hi_188_33, hp_188_33, hi_188_35, hp_188_35, hi_188_36, hp_188_36]
theorem k_clear : cG_clear (some 0) (gH u x o z) = some (u.2.2.1 1, gH ((u.1, u.2.1, gup u.2.2.1 1 0, u.2.2.2.1, u.2.2.2.2.1, gup (gup u.2.2.2.2.2.1 1 0) 4 0, u.2.2.2.2.2.2.1, u.2.2.2.2.2.2.2.1, u.2.2.2.2.2.2.2.2.1, u.2.2.2.2.2.2.2.2.2.1, u.2.2.2.2.2.2.2.2.2.2.1, u.2.2.2.2.2.2.2.2.2.2.2.1, u.2.2.2.2.2.2.2.2.2.2.2.2.1, u.2.2.2.2.2.2.2.2.2.2.2.2.2.1, u.2.2.2.2.2.2.2.2.2.2.2.2.2.2) : gU) x o z) := by simp [cG_clear, ho_0, hr_0_0, hr_0_1, hr_0_2, hr_0_3, hr_0_4, ho_1, hr_1_0, ho_163, hr_163_0, ho_165, hr_165_0, hr_165_2, hr_165_3, ho_169, hr_169_0, hr_169_1, hr_169_3, ho_170, hr_170_0, ho_187, ho_188, hr_188_2, hr_188_3, hr_188_4, hr_188_5, hr_188_6, hr_188_7, hr_188_8, hr_188_9, hr_188_11, hr_188_13, hr_188_14, hr_188_16, hr_188_19, hr_188_20, hr_188_21, hr_188_22, hr_188_23, hr_188_24, hr_188_25, hr_188_28, hr_188_30, hr_188_34, hi_0_5, hp_0_5, hi_1_1, hp_1_1, hi_163_1, hp_163_1, hi_165_1, hp_165_1, hi_165_4, hp_165_4, hi_169_2, hp_169_2, hi_169_4, hp_169_4, hi_170_1, hp_170_1, hi_187_0, hp_187_0, hi_187_1, hp_187_1, hi_187_2, hp_187_2, hi_187_3, hp_187_3, hi_187_4, hp_187_4, hi_187_5, hp_187_5, hi_187_6, hp_187_6, hi_188_0, hp_188_0, hi_188_1, hp_188_1, hi_188_10, hp_188_10, hi_188_12, hp_188_12, hi_188_15, hp_188_15, hi_188_17, hp_188_17, hi_188_18, hp_188_18, hi_188_26, hp_188_26, hi_188_27, hp_188_27, hi_188_29, hp_188_29, hi_188_31, hp_188_31, hi_188_32, hp_188_32, hi_188_33, hp_188_33, hi_188_35, hp_188_35, hi_188_36, hp_188_36]
theorem r_objects : mM_objects (some 188) (gH u x o z) = some (x.2.1 1, gH u ((x.1, gup x.2.1 0 0, x.2.2.1, x.2.2.2.1, x.2.2.2.2.1, x.2.2.2.2.2.1, x.2.2.2.2.2.2.1, x.2.2.2.2.2.2.2.1, x.2.2.2.2.2.2.2.2.1, x.2.2.2.2.2.2.2.2.2.1, x.2.2.2.2.2.2.2.2.2.2.1, x.2.2.2.2.2.2.2.2.2.2.2.1, x.2.2.2.2.2.2.2.2.2.2.2.2.1, x.2.2.2.2.2.2.2.2.2.2.2.2.2.1, x.2.2.2.2.2.2.2.2.2.2.2.2.2.2.1, x.2.2.2.2.2.2.2.2.2.2.2.2.2.2.2) : gX) o z) := by simp [mM_objects, ho_0, hr_0_0, hr_0_1, hr_0_2, hr_0_3, hr_0_4, ho_1, hr_1_0, ho_163, hr_163_0, ho_165, hr_165_0, hr_165_2, hr_165_3, ho_169, hr_169_0, hr_169_1, hr_169_3, ho_170, hr_170_0, ho_187, ho_188, hr_188_2, hr_188_3, hr_188_4, hr_188_5, hr_188_6, hr_188_7, hr_188_8, hr_188_9, hr_188_11, hr_188_13, hr_188_14, hr_188_16, hr_188_19, hr_188_20, hr_188_21, hr_188_22, hr_188_23, hr_188_24, hr_188_25, hr_188_28, hr_188_30, hr_188_34, hi_0_5, hp_0_5, hi_1_1, hp_1_1, hi_163_1, hp_163_1, hi_165_1, hp_165_1, hi_165_4, hp_165_4, hi_169_2, hp_169_2, hi_169_4, hp_169_4, hi_170_1, hp_170_1, hi_187_0, hp_187_0, hi_187_1, hp_187_1, hi_187_2, hp_187_2, hi_187_3, hp_187_3, hi_187_4, hp_187_4, hi_187_5, hp_187_5, hi_187_6, hp_187_6, hi_188_0, hp_188_0, hi_188_1, hp_188_1, hi_188_10, hp_188_10, hi_188_12, hp_188_12, hi_188_15, hp_188_15, hi_188_17, hp_188_17, hi_188_18, hp_188_18, hi_188_26, hp_188_26, hi_188_27, hp_188_27, hi_188_29, hp_188_29, hi_188_31, hp_188_31, hi_188_32, hp_188_32, hi_188_33, hp_188_33, hi_188_35, hp_188_35, hi_188_36, hp_188_36, gup_ap]
theorem r_holders : mM_holders (some 188) (gH u x o z) = some (x.2.1 12, gH u ((x.1, gup x.2.1 0 0, x.2.2.1, x.2.2.2.1, x.2.2.2.2.1, x.2.2.2.2.2.1, x.2.2.2.2.2.2.1, x.2.2.2.2.2.2.2.1, x.2.2.2.2.2.2.2.2.1, x.2.2.2.2.2.2.2.2.2.1, x.2.2.2.2.2.2.2.2.2.2.1, x.2.2.2.2.2.2.2.2.2.2.2.1, x.2.2.2.2.2.2.2.2.2.2.2.2.1, x.2.2.2.2.2.2.2.2.2.2.2.2.2.1, x.2.2.2.2.2.2.2.2.2.2.2.2.2.2.1, x.2.2.2.2.2.2.2.2.2.2.2.2.2.2.2) : gX) o z) := by simp [mM_holders, ho_0, hr_0_0, hr_0_1, hr_0_2, hr_0_3, hr_0_4, ho_1, hr_1_0, ho_163, hr_163_0, ho_165, hr_165_0, hr_165_2, hr_165_3, ho_169, hr_169_0, hr_169_1, hr_169_3, ho_170, hr_170_0, ho_187, ho_188, hr_188_2, hr_188_3, hr_188_4, hr_188_5, hr_188_6, hr_188_7, hr_188_8, hr_188_9, hr_188_11, hr_188_13, hr_188_14, hr_188_16, hr_188_19, hr_188_20, hr_188_21, hr_188_22, hr_188_23, hr_188_24, hr_188_25, hr_188_28, hr_188_30, hr_188_34, hi_0_5, hp_0_5, hi_1_1, hp_1_1, hi_163_1, hp_163_1, hi_165_1, hp_165_1, hi_165_4, hp_165_4, hi_169_2, hp_169_2, hi_169_4, hp_169_4, hi_170_1, hp_170_1, hi_187_0, hp_187_0, hi_187_1, hp_187_1, hi_187_2, hp_187_2, hi_187_3, hp_187_3, hi_187_4, hp_187_4, hi_187_5, hp_187_5, hi_187_6, hp_187_6, hi_188_0, hp_188_0, hi_188_1, hp_188_1, hi_188_10, hp_188_10, hi_188_12, hp_188_12, hi_188_15, hp_188_15, hi_188_17, hp_188_17, hi_188_18, hp_188_18, hi_188_26, hp_188_26, hi_188_27, hp_188_27, hi_188_29, hp_188_29, hi_188_31, hp_188_31, hi_188_32, hp_188_32, hi_188_33, hp_188_33, hi_188_35, hp_188_35, hi_188_36, hp_188_36, gup_ap]
theorem r_found : mM_found (some 188) (gH u x o z) = some (x.2.1 17, gH u ((x.1, gup x.2.1 0 0, x.2.2.1, x.2.2.2.1, x.2.2.2.2.1, x.2.2.2.2.2.1, x.2.2.2.2.2.2.1, x.2.2.2.2.2.2.2.1, x.2.2.2.2.2.2.2.2.1, x.2.2.2.2.2.2.2.2.2.1, x.2.2.2.2.2.2.2.2.2.2.1, x.2.2.2.2.2.2.2.2.2.2.2.1, x.2.2.2.2.2.2.2.2.2.2.2.2.1, x.2.2.2.2.2.2.2.2.2.2.2.2.2.1, x.2.2.2.2.2.2.2.2.2.2.2.2.2.2.1, x.2.2.2.2.2.2.2.2.2.2.2.2.2.2.2) : gX) o z) := by simp [mM_found, ho_0, hr_0_0, hr_0_1, hr_0_2, hr_0_3, hr_0_4, ho_1, hr_1_0, ho_163, hr_163_0, ho_165, hr_165_0, hr_165_2, hr_165_3, ho_169, hr_169_0, hr_169_1, hr_169_3, ho_170, hr_170_0, ho_187, ho_188, hr_188_2, hr_188_3, hr_188_4, hr_188_5, hr_188_6, hr_188_7, hr_188_8, hr_188_9, hr_188_11, hr_188_13, hr_188_14, hr_188_16, hr_188_19, hr_188_20, hr_188_21, hr_188_22, hr_188_23, hr_188_24, hr_188_25, hr_188_28, hr_188_30, hr_188_34, hi_0_5, hp_0_5, hi_1_1, hp_1_1, hi_163_1, hp_163_1, hi_165_1, hp_165_1, hi_165_4, hp_165_4, hi_169_2, hp_169_2, hi_169_4, hp_169_4, hi_170_1, hp_170_1, hi_187_0, hp_187_0, hi_187_1, hp_187_1, hi_187_2, hp_187_2, hi_187_3, hp_187_3, hi_187_4, hp_187_4, hi_187_5, hp_187_5, hi_187_6, hp_187_6, hi_188_0, hp_188_0, hi_188_1, hp_188_1, hi_188_10, hp_188_10, hi_188_12, hp_188_12, hi_188_15, hp_188_15, hi_188_17, hp_188_17, hi_188_18, hp_188_18, hi_188_26, hp_188_26, hi_188_27, hp_188_27, hi_188_29, hp_188_29, hi_188_31, hp_188_31, hi_188_32, hp_188_32, hi_188_33, hp_188_33, hi_188_35, hp_188_35, hi_188_36, hp_188_36, gup_ap]
theorem r_wipe : mM_wipe (some 188) (gH u x o z) = some (x.2.1 15, gH u ((x.1, gup (gup x.2.1 0 0) 15 0, x.2.2.1, x.2.2.2.1, x.2.2.2.2.1, x.2.2.2.2.2.1, x.2.2.2.2.2.2.1, x.2.2.2.2.2.2.2.1, x.2.2.2.2.2.2.2.2.1, x.2.2.2.2.2.2.2.2.2.1, x.2.2.2.2.2.2.2.2.2.2.1, x.2.2.2.2.2.2.2.2.2.2.2.1, x.2.2.2.2.2.2.2.2.2.2.2.2.1, x.2.2.2.2.2.2.2.2.2.2.2.2.2.1, x.2.2.2.2.2.2.2.2.2.2.2.2.2.2.1, x.2.2.2.2.2.2.2.2.2.2.2.2.2.2.2) : gX) o z) := by simp [mM_wipe, ho_0, hr_0_0, hr_0_1, hr_0_2, hr_0_3, hr_0_4, ho_1, hr_1_0, ho_163, hr_163_0, ho_165, hr_165_0, hr_165_2, hr_165_3, ho_169, hr_169_0, hr_169_1, hr_169_3, ho_170, hr_170_0, ho_187, ho_188, hr_188_2, hr_188_3, hr_188_4, hr_188_5, hr_188_6, hr_188_7, hr_188_8, hr_188_9, hr_188_11, hr_188_13, hr_188_14, hr_188_16, hr_188_19, hr_188_20, hr_188_21, hr_188_22, hr_188_23, hr_188_24, hr_188_25, hr_188_28, hr_188_30, hr_188_34, hi_0_5, hp_0_5, hi_1_1, hp_1_1, hi_163_1, hp_163_1, hi_165_1, hp_165_1, hi_165_4, hp_165_4, hi_169_2, hp_169_2, hi_169_4, hp_169_4, hi_170_1, hp_170_1, hi_187_0, hp_187_0, hi_187_1, hp_187_1, hi_187_2, hp_187_2, hi_187_3, hp_187_3, hi_187_4, hp_187_4, hi_187_5, hp_187_5, hi_187_6, hp_187_6, hi_188_0, hp_188_0, hi_188_1, hp_188_1, hi_188_10, hp_188_10, hi_188_12, hp_188_12, hi_188_15, hp_188_15, hi_188_17, hp_188_17, hi_188_18, hp_188_18, hi_188_26, hp_188_26, hi_188_27, hp_188_27, hi_188_29, hp_188_29, hi_188_31, hp_188_31, hi_188_32, hp_188_32, hi_188_33, hp_188_33, hi_188_35, hp_188_35, hi_188_36, hp_188_36, gup_ap]
theorem r_clear : mM_clear (some 188) (gH u x o z) = some (x.2.1 1, gH u ((x.1, gup (gup (gup (gup x.2.1 0 0) 1 0) 12 0) 10 0, x.2.2.1, x.2.2.2.1, x.2.2.2.2.1, x.2.2.2.2.2.1, x.2.2.2.2.2.2.1, x.2.2.2.2.2.2.2.1, x.2.2.2.2.2.2.2.2.1, x.2.2.2.2.2.2.2.2.2.1, x.2.2.2.2.2.2.2.2.2.2.1, x.2.2.2.2.2.2.2.2.2.2.2.1, x.2.2.2.2.2.2.2.2.2.2.2.2.1, x.2.2.2.2.2.2.2.2.2.2.2.2.2.1, x.2.2.2.2.2.2.2.2.2.2.2.2.2.2.1, x.2.2.2.2.2.2.2.2.2.2.2.2.2.2.2) : gX) o z) := by simp [mM_clear, ho_0, hr_0_0, hr_0_1, hr_0_2, hr_0_3, hr_0_4, ho_1, hr_1_0, ho_163, hr_163_0, ho_165, hr_165_0, hr_165_2, hr_165_3, ho_169, hr_169_0, hr_169_1, hr_169_3, ho_170, hr_170_0, ho_187, ho_188, hr_188_2, hr_188_3, hr_188_4, hr_188_5, hr_188_6, hr_188_7, hr_188_8, hr_188_9, hr_188_11, hr_188_13, hr_188_14, hr_188_16, hr_188_19, hr_188_20, hr_188_21, hr_188_22, hr_188_23, hr_188_24, hr_188_25, hr_188_28, hr_188_30, hr_188_34, hi_0_5, hp_0_5, hi_1_1, hp_1_1, hi_163_1, hp_163_1, hi_165_1, hp_165_1, hi_165_4, hp_165_4, hi_169_2, hp_169_2, hi_169_4, hp_169_4, hi_170_1, hp_170_1, hi_187_0, hp_187_0, hi_187_1, hp_187_1, hi_187_2, hp_187_2, hi_187_3, hp_187_3, hi_187_4, hp_187_4, hi_187_5, hp_187_5, hi_187_6, hp_187_6, hi_188_0, hp_188_0, hi_188_1, hp_188_1, hi_188_10, hp_188_10, hi_188_12, hp_188_12, hi_188_15, hp_188_15, hi_188_17, hp_188_17, hi_188_18, hp_188_18, hi_188_26, hp_188_26, hi_188_27, hp_188_27, hi_188_29, hp_188_29, hi_188_31, hp_188_31, hi_188_32, hp_188_32, hi_188_33, hp_188_33, hi_188_35, hp_188_35, hi_188_36, hp_188_36, gup_ap]
theorem t_objects (h : gTT u x) : ∃ r x', cG_objects (some 0) (gH u x o z) = some r ∧ mM_objects (some 188) (gH u x o z) = some (r, gH u x' o z) ∧ x'.2.1 0 = 0 ∧ gTT u x' := by
  obtain ⟨n, m, p, q, T⟩ := h
  refine ⟨_, ((x.1, gup x.2.1 0 0, x.2.2.1, x.2.2.2.1, x.2.2.2.2.1, x.2.2.2.2.2.1, x.2.2.2.2.2.2.1, x.2.2.2.2.2.2.2.1, x.2.2.2.2.2.2.2.2.1, x.2.2.2.2.2.2.2.2.2.1, x.2.2.2.2.2.2.2.2.2.2.1, x.2.2.2.2.2.2.2.2.2.2.2.1, x.2.2.2.2.2.2.2.2.2.2.2.2.1, x.2.2.2.2.2.2.2.2.2.2.2.2.2.1, x.2.2.2.2.2.2.2.2.2.2.2.2.2.2.1, x.2.2.2.2.2.2.2.2.2.2.2.2.2.2.2) : gX), k_objects, ?_, rfl, gTT_0 ⟨n, m, p, q, T⟩⟩
  rw [r_objects, T.xn, T.un]
theorem t_holders (h : gTT u x) : ∃ r x', cG_holders (some 0) (gH u x o z) = some r ∧ mM_holders (some 188) (gH u x o z) = some (r, gH u x' o z) ∧ x'.2.1 0 = 0 ∧ gTT u x' := by
  obtain ⟨n, m, p, q, T⟩ := h
  refine ⟨_, ((x.1, gup x.2.1 0 0, x.2.2.1, x.2.2.2.1, x.2.2.2.2.1, x.2.2.2.2.2.1, x.2.2.2.2.2.2.1, x.2.2.2.2.2.2.2.1, x.2.2.2.2.2.2.2.2.1, x.2.2.2.2.2.2.2.2.2.1, x.2.2.2.2.2.2.2.2.2.2.1, x.2.2.2.2.2.2.2.2.2.2.2.1, x.2.2.2.2.2.2.2.2.2.2.2.2.1, x.2.2.2.2.2.2.2.2.2.2.2.2.2.1, x.2.2.2.2.2.2.2.2.2.2.2.2.2.2.1, x.2.2.2.2.2.2.2.2.2.2.2.2.2.2.2) : gX), k_holders, ?_, rfl, gTT_0 ⟨n, m, p, q, T⟩⟩
  rw [r_holders, T.xq, T.uq]
theorem t_found (h : gTT u x) : ∃ r x', cG_found (some 0) (gH u x o z) = some r ∧ mM_found (some 188) (gH u x o z) = some (r, gH u x' o z) ∧ x'.2.1 0 = 0 ∧ gTT u x' := by
  obtain ⟨n, m, p, q, T⟩ := h
  refine ⟨_, ((x.1, gup x.2.1 0 0, x.2.2.1, x.2.2.2.1, x.2.2.2.2.1, x.2.2.2.2.2.1, x.2.2.2.2.2.2.1, x.2.2.2.2.2.2.2.1, x.2.2.2.2.2.2.2.2.1, x.2.2.2.2.2.2.2.2.2.1, x.2.2.2.2.2.2.2.2.2.2.1, x.2.2.2.2.2.2.2.2.2.2.2.1, x.2.2.2.2.2.2.2.2.2.2.2.2.1, x.2.2.2.2.2.2.2.2.2.2.2.2.2.1, x.2.2.2.2.2.2.2.2.2.2.2.2.2.2.1, x.2.2.2.2.2.2.2.2.2.2.2.2.2.2.2) : gX), k_found, ?_, rfl, gTT_0 ⟨n, m, p, q, T⟩⟩
  rw [r_found, T.fo]
theorem t_wipe (h : gTT u x) : ∃ r u' x', cG_wipe (some 0) (gH u x o z) = some (r, gH u' x o z) ∧ mM_wipe (some 188) (gH u' x o z) = some (r, gH u' x' o z) ∧ x'.2.1 0 = 0 ∧ gTT u' x' := by
  obtain ⟨n, m, p, q, T⟩ := h
  refine ⟨_, _, _, k_wipe, by rw [r_wipe, T.xm, T.um], rfl, n, 0, p, q, ?_⟩
  exact ⟨T.hn, T.un, T.xn, T.ob, by omega, rfl, rfl, fun i hi => by omega, fun i hi => by omega, T.hp, T.up, T.xp, T.pa, T.pb, T.hq, T.uq, T.xq, T.ho, T.fo⟩
theorem t_clear (h : gTT u x) : ∃ r u' x', cG_clear (some 0) (gH u x o z) = some (r, gH u' x o z) ∧ mM_clear (some 188) (gH u' x o z) = some (r, gH u' x' o z) ∧ x'.2.1 0 = 0 ∧ gTT u' x' := by
  obtain ⟨n, m, p, q, T⟩ := h
  refine ⟨_, _, _, k_clear, by rw [r_clear, T.xn, T.un], rfl, 0, m, 0, 0, ?_⟩
  exact ⟨by omega, rfl, rfl, fun k hk => by omega, T.hm, T.um, T.xm, T.bs, T.b8, by omega, rfl, rfl, fun i hi => by omega, fun i hi => by omega, by omega, rfl, rfl, fun i hi => by omega, T.fo⟩
theorem t_type {v : Int32} (h : gTT u x) : ∃ r x', cG_type (some 0) v (gH u x o z) = some r ∧ mM_type (some 188) v (gH u x o z) = some (r, gH u x' o z) ∧ x'.2.1 0 = 0 ∧ gTT u x' := by
  obtain ⟨n, m, p, q, T⟩ := h
  have hn := T.hn
  have x1 : gup x.2.1 0 0 1 = Int32.ofNat n := T.xn
  rcases g_ob v n (by omega) with c | ⟨k, hk, rfl⟩
  · refine ⟨-1, ((x.1, gup x.2.1 0 0, x.2.2.1, x.2.2.2.1, x.2.2.2.2.1, x.2.2.2.2.2.1, x.2.2.2.2.2.2.1, x.2.2.2.2.2.2.2.1, x.2.2.2.2.2.2.2.2.1, x.2.2.2.2.2.2.2.2.2.1, x.2.2.2.2.2.2.2.2.2.2.1, x.2.2.2.2.2.2.2.2.2.2.2.1, x.2.2.2.2.2.2.2.2.2.2.2.2.1, x.2.2.2.2.2.2.2.2.2.2.2.2.2.1, x.2.2.2.2.2.2.2.2.2.2.2.2.2.2.1, x.2.2.2.2.2.2.2.2.2.2.2.2.2.2.2) : gX), ?_, ?_, rfl, gTT_0 ⟨n, m, p, q, T⟩⟩
    · unfold cG_type; simp [hr_0_0, ho_1, k_tout T.un c]
    · unfold mM_type; simp [hp_188_0, ho_188, r_oout (x := ((x.1, gup x.2.1 0 0, x.2.2.1, x.2.2.2.1, x.2.2.2.2.1, x.2.2.2.2.2.1, x.2.2.2.2.2.2.1, x.2.2.2.2.2.2.2.1, x.2.2.2.2.2.2.2.2.1, x.2.2.2.2.2.2.2.2.2.1, x.2.2.2.2.2.2.2.2.2.2.1, x.2.2.2.2.2.2.2.2.2.2.2.1, x.2.2.2.2.2.2.2.2.2.2.2.2.1, x.2.2.2.2.2.2.2.2.2.2.2.2.2.1, x.2.2.2.2.2.2.2.2.2.2.2.2.2.2.1, x.2.2.2.2.2.2.2.2.2.2.2.2.2.2.2) : gX)) x1 c]
  · obtain ⟨s, c, O⟩ := T.ob k hk
    have hk2 : k < 32 := by omega
    refine ⟨Int32.ofNat s, ((x.1, gup x.2.1 0 0, x.2.2.1, x.2.2.2.1, x.2.2.2.2.1, x.2.2.2.2.2.1, x.2.2.2.2.2.2.1, x.2.2.2.2.2.2.2.1, x.2.2.2.2.2.2.2.2.1, x.2.2.2.2.2.2.2.2.2.1, x.2.2.2.2.2.2.2.2.2.2.1, x.2.2.2.2.2.2.2.2.2.2.2.1, x.2.2.2.2.2.2.2.2.2.2.2.2.1, x.2.2.2.2.2.2.2.2.2.2.2.2.2.1, x.2.2.2.2.2.2.2.2.2.2.2.2.2.2.1, x.2.2.2.2.2.2.2.2.2.2.2.2.2.2.2) : gX), ?_, ?_, rfl, gTT_0 ⟨n, m, p, q, T⟩⟩
    · unfold cG_type; simp [hr_0_0, ho_1, k_tin T.un hn hk, reduceCtorEq, if_false, hiT_4 hk2, O.es]
    · unfold mM_type; simp [hp_188_0, ho_188, r_oin (x := ((x.1, gup x.2.1 0 0, x.2.2.1, x.2.2.2.1, x.2.2.2.2.1, x.2.2.2.2.2.1, x.2.2.2.2.2.2.1, x.2.2.2.2.2.2.2.1, x.2.2.2.2.2.2.2.2.1, x.2.2.2.2.2.2.2.2.2.1, x.2.2.2.2.2.2.2.2.2.2.1, x.2.2.2.2.2.2.2.2.2.2.2.1, x.2.2.2.2.2.2.2.2.2.2.2.2.1, x.2.2.2.2.2.2.2.2.2.2.2.2.2.1, x.2.2.2.2.2.2.2.2.2.2.2.2.2.2.1, x.2.2.2.2.2.2.2.2.2.2.2.2.2.2.2) : gX)) x1 hn hk, hr_188_2, ha_189 hk2, O.et]
theorem n_s6 : ∀ s : Nat, s < 8 → ((Int32.ofNat s < 6) ↔ s < 6) ∧ ((Int32.ofNat s = 6) ↔ s = 6) ∧ ((Int32.ofNat s = 7) ↔ s = 7) ∧ ((Int32.ofNat s = 0) ↔ s = 0) ∧ ((Int32.ofNat s = 1) ↔ s = 1) ∧ ((Int32.ofNat s = 2) ↔ s = 2) ∧ ((Int32.ofNat s = 3) ↔ s = 3) ∧ ((Int32.ofNat s = 4) ↔ s = 4) ∧ ((Int32.ofNat s = 5) ↔ s = 5) := by decide
theorem t_size {v : Int32} (h : gTT u x) : ∃ r x', cG_size (some 0) v (gH u x o z) = some r ∧ mM_size (some 188) v (gH u x o z) = some (r, gH u x' o z) ∧ x'.2.1 0 = 0 ∧ gTT u x' := by
  obtain ⟨n, m, p, q, T⟩ := h
  have hn := T.hn
  have x1 : gup x.2.1 0 0 1 = Int32.ofNat n := T.xn
  rcases g_ob v n (by omega) with c | ⟨k, hk, rfl⟩
  · refine ⟨-1, ((x.1, gup x.2.1 0 0, x.2.2.1, x.2.2.2.1, x.2.2.2.2.1, x.2.2.2.2.2.1, x.2.2.2.2.2.2.1, x.2.2.2.2.2.2.2.1, x.2.2.2.2.2.2.2.2.1, x.2.2.2.2.2.2.2.2.2.1, x.2.2.2.2.2.2.2.2.2.2.1, x.2.2.2.2.2.2.2.2.2.2.2.1, x.2.2.2.2.2.2.2.2.2.2.2.2.1, x.2.2.2.2.2.2.2.2.2.2.2.2.2.1, x.2.2.2.2.2.2.2.2.2.2.2.2.2.2.1, x.2.2.2.2.2.2.2.2.2.2.2.2.2.2.2) : gX), ?_, ?_, rfl, gTT_0 ⟨n, m, p, q, T⟩⟩
    · unfold cG_size; simp [hr_0_0, ho_1, k_tout T.un c]
    · unfold mM_size; simp [hp_188_0, ho_188, r_oout (x := ((x.1, gup x.2.1 0 0, x.2.2.1, x.2.2.2.1, x.2.2.2.2.1, x.2.2.2.2.2.1, x.2.2.2.2.2.2.1, x.2.2.2.2.2.2.2.1, x.2.2.2.2.2.2.2.2.1, x.2.2.2.2.2.2.2.2.2.1, x.2.2.2.2.2.2.2.2.2.2.1, x.2.2.2.2.2.2.2.2.2.2.2.1, x.2.2.2.2.2.2.2.2.2.2.2.2.1, x.2.2.2.2.2.2.2.2.2.2.2.2.2.1, x.2.2.2.2.2.2.2.2.2.2.2.2.2.2.1, x.2.2.2.2.2.2.2.2.2.2.2.2.2.2.2) : gX)) x1 c, mM_size_37, mM_size_38]
  · obtain ⟨s, c, O⟩ := T.ob k hk
    have hk2 : k < 32 := by omega
    obtain ⟨e6, e66, e7, _⟩ := n_s6 s O.s8
    refine ⟨if s < 6 ∧ (u.1 k).2.2.2.2.1 6 = 0 then Int32.ofNat c else -1, ((x.1, gup x.2.1 0 0, x.2.2.1, x.2.2.2.1, x.2.2.2.2.1, x.2.2.2.2.2.1, x.2.2.2.2.2.2.1, x.2.2.2.2.2.2.2.1, x.2.2.2.2.2.2.2.2.1, x.2.2.2.2.2.2.2.2.2.1, x.2.2.2.2.2.2.2.2.2.2.1, x.2.2.2.2.2.2.2.2.2.2.2.1, x.2.2.2.2.2.2.2.2.2.2.2.2.1, x.2.2.2.2.2.2.2.2.2.2.2.2.2.1, x.2.2.2.2.2.2.2.2.2.2.2.2.2.2.1, x.2.2.2.2.2.2.2.2.2.2.2.2.2.2.2) : gX), ?_, ?_, rfl, gTT_0 ⟨n, m, p, q, T⟩⟩
    · unfold cG_size
      have h8 := O.s8
      by_cases c1 : s = 6
      · simp [hr_0_0, ho_1, k_tin T.un hn hk, reduceCtorEq, if_false, hiT_4 hk2, O.es, c1]
      · by_cases c2 : s = 7
        · simp [hr_0_0, ho_1, k_tin T.un hn hk, reduceCtorEq, if_false, hiT_4 hk2, O.es, c2]
        · have c3 : s < 6 := by omega
          by_cases c4 : (u.1 k).2.2.2.2.1 6 = 0 <;> simp [hr_0_0, ho_1, k_tin T.un hn hk, reduceCtorEq, if_false, hiT_4 hk2, hiT_5 hk2, hiT_6 hk2, O.es, O.ec, e66, e7, c1, c2, c3, c4]
    · unfold mM_size
      by_cases c3 : s < 6
      · by_cases c4 : (u.1 k).2.2.2.2.1 6 = 0
        · simp [hp_188_0, ho_188, r_oin (x := ((x.1, gup x.2.1 0 0, x.2.2.1, x.2.2.2.1, x.2.2.2.2.1, x.2.2.2.2.2.1, x.2.2.2.2.2.2.1, x.2.2.2.2.2.2.2.1, x.2.2.2.2.2.2.2.2.1, x.2.2.2.2.2.2.2.2.2.1, x.2.2.2.2.2.2.2.2.2.2.1, x.2.2.2.2.2.2.2.2.2.2.2.1, x.2.2.2.2.2.2.2.2.2.2.2.2.1, x.2.2.2.2.2.2.2.2.2.2.2.2.2.1, x.2.2.2.2.2.2.2.2.2.2.2.2.2.2.1, x.2.2.2.2.2.2.2.2.2.2.2.2.2.2.2) : gX)) x1 hn hk, hr_188_2, hr_188_3, hr_188_4, ha_189 hk2, ha_190 hk2, ha_191 hk2, O.et, O.ed, O.ep c4, e6, c3, c4, mM_size_37, mM_size_38]
        · simp [hp_188_0, ho_188, r_oin (x := ((x.1, gup x.2.1 0 0, x.2.2.1, x.2.2.2.1, x.2.2.2.2.1, x.2.2.2.2.2.1, x.2.2.2.2.2.2.1, x.2.2.2.2.2.2.2.1, x.2.2.2.2.2.2.2.2.1, x.2.2.2.2.2.2.2.2.2.1, x.2.2.2.2.2.2.2.2.2.2.1, x.2.2.2.2.2.2.2.2.2.2.2.1, x.2.2.2.2.2.2.2.2.2.2.2.2.1, x.2.2.2.2.2.2.2.2.2.2.2.2.2.1, x.2.2.2.2.2.2.2.2.2.2.2.2.2.2.1, x.2.2.2.2.2.2.2.2.2.2.2.2.2.2.2) : gX)) x1 hn hk, hr_188_2, hr_188_3, hr_188_4, ha_189 hk2, ha_190 hk2, ha_191 hk2, O.et, O.ed, e6, c3, c4, mM_size_37, mM_size_38]
      · simp [hp_188_0, ho_188, r_oin (x := ((x.1, gup x.2.1 0 0, x.2.2.1, x.2.2.2.1, x.2.2.2.2.1, x.2.2.2.2.2.1, x.2.2.2.2.2.2.1, x.2.2.2.2.2.2.2.1, x.2.2.2.2.2.2.2.2.1, x.2.2.2.2.2.2.2.2.2.1, x.2.2.2.2.2.2.2.2.2.2.1, x.2.2.2.2.2.2.2.2.2.2.2.1, x.2.2.2.2.2.2.2.2.2.2.2.2.1, x.2.2.2.2.2.2.2.2.2.2.2.2.2.1, x.2.2.2.2.2.2.2.2.2.2.2.2.2.2.1, x.2.2.2.2.2.2.2.2.2.2.2.2.2.2.2) : gX)) x1 hn hk, hr_188_2, ha_189 hk2, O.et, e6, c3, mM_size_37, mM_size_38]
theorem t_byteAt {v : Int32} (h : gTT u x) : ∃ r x', cG_byteAt (some 0) v (gH u x o z) = some r ∧ mM_byteAt (some 188) v (gH u x o z) = some (r, gH u x' o z) ∧ x'.2.1 0 = 0 ∧ gTT u x' := by
  obtain ⟨n, m, p, q, T⟩ := h
  have hm := T.hm
  have x1 : gup x.2.1 0 0 15 = Int32.ofNat m := T.xm
  by_cases c0 : v < 0
  · refine ⟨-1, ((x.1, gup x.2.1 0 0, x.2.2.1, x.2.2.2.1, x.2.2.2.2.1, x.2.2.2.2.2.1, x.2.2.2.2.2.2.1, x.2.2.2.2.2.2.2.1, x.2.2.2.2.2.2.2.2.1, x.2.2.2.2.2.2.2.2.2.1, x.2.2.2.2.2.2.2.2.2.2.1, x.2.2.2.2.2.2.2.2.2.2.2.1, x.2.2.2.2.2.2.2.2.2.2.2.2.1, x.2.2.2.2.2.2.2.2.2.2.2.2.2.1, x.2.2.2.2.2.2.2.2.2.2.2.2.2.2.1, x.2.2.2.2.2.2.2.2.2.2.2.2.2.2.2) : gX), ?_, ?_, rfl, gTT_0 ⟨n, m, p, q, T⟩⟩
    · unfold cG_byteAt; simp [c0]
    · unfold mM_byteAt; simp [hp_188_0, c0]
  · by_cases c1 : v < Int32.ofNat m
    · obtain ⟨i, hi, rfl⟩ := n_of c0 c1 (by omega)
      have hi2 : i < 300 := by omega
      refine ⟨u.2.2.2.2.1 i, ((x.1, gup x.2.1 0 0, x.2.2.1, x.2.2.2.1, x.2.2.2.2.1, x.2.2.2.2.2.1, x.2.2.2.2.2.2.1, x.2.2.2.2.2.2.2.1, x.2.2.2.2.2.2.2.2.1, x.2.2.2.2.2.2.2.2.2.1, x.2.2.2.2.2.2.2.2.2.2.1, x.2.2.2.2.2.2.2.2.2.2.2.1, x.2.2.2.2.2.2.2.2.2.2.2.2.1, x.2.2.2.2.2.2.2.2.2.2.2.2.2.1, x.2.2.2.2.2.2.2.2.2.2.2.2.2.2.1, x.2.2.2.2.2.2.2.2.2.2.2.2.2.2.2) : gX), ?_, ?_, rfl, gTT_0 ⟨n, m, p, q, T⟩⟩
      · unfold cG_byteAt; simp [c0, c1, hr_0_1, hi_163_1, hr_163_0, T.um, ha_164 hi2]
      · unfold mM_byteAt; simp [hp_188_0, hi_188_15, c0, x1, c1, hr_188_16, ha_200 hi2, T.bs i hi]
    · refine ⟨-1, ((x.1, gup x.2.1 0 0, x.2.2.1, x.2.2.2.1, x.2.2.2.2.1, x.2.2.2.2.2.1, x.2.2.2.2.2.2.1, x.2.2.2.2.2.2.2.1, x.2.2.2.2.2.2.2.2.1, x.2.2.2.2.2.2.2.2.2.1, x.2.2.2.2.2.2.2.2.2.2.1, x.2.2.2.2.2.2.2.2.2.2.2.1, x.2.2.2.2.2.2.2.2.2.2.2.2.1, x.2.2.2.2.2.2.2.2.2.2.2.2.2.1, x.2.2.2.2.2.2.2.2.2.2.2.2.2.2.1, x.2.2.2.2.2.2.2.2.2.2.2.2.2.2.2) : gX), ?_, ?_, rfl, gTT_0 ⟨n, m, p, q, T⟩⟩
      · unfold cG_byteAt; simp [c0, hr_0_1, hi_163_1, T.um, c1]
      · unfold mM_byteAt; simp [hp_188_0, c0, hi_188_15, x1, c1]
theorem n_255 (v : Int32) : ∃ b, b < 256 ∧ v &&& 255 = Int32.ofNat b := by
  refine ⟨(v.toBitVec &&& 255#32).toNat, ?_, ?_⟩
  · rw [BitVec.toNat_and]
    have : v.toBitVec.toNat &&& (255#32).toNat ≤ 255 := Nat.and_le_right
    omega
  · apply Int32.toBitVec_inj.mp
    rw [Int32.toBitVec_and, Int32.toBitVec_ofNat', BitVec.ofNat_toNat, BitVec.setWidth_eq]
    rfl
theorem t_spoil {v w : Int32} (h : gTT u x) : ∃ r u' x', cG_spoil (some 0) v w (gH u x o z) = some (r, gH u' x o z) ∧ mM_spoil (some 188) v w (gH u' x o z) = some (r, gH u' x' o z) ∧ x'.2.1 0 = 0 ∧ gTT u' x' := by
  obtain ⟨n, m, p, q, T⟩ := h
  have hm := T.hm
  have x1 : gup x.2.1 0 0 15 = Int32.ofNat m := T.xm
  by_cases c0 : v < 0
  · refine ⟨0, u, ((x.1, gup x.2.1 0 0, x.2.2.1, x.2.2.2.1, x.2.2.2.2.1, x.2.2.2.2.2.1, x.2.2.2.2.2.2.1, x.2.2.2.2.2.2.2.1, x.2.2.2.2.2.2.2.2.1, x.2.2.2.2.2.2.2.2.2.1, x.2.2.2.2.2.2.2.2.2.2.1, x.2.2.2.2.2.2.2.2.2.2.2.1, x.2.2.2.2.2.2.2.2.2.2.2.2.1, x.2.2.2.2.2.2.2.2.2.2.2.2.2.1, x.2.2.2.2.2.2.2.2.2.2.2.2.2.2.1, x.2.2.2.2.2.2.2.2.2.2.2.2.2.2.2) : gX), ?_, ?_, rfl, gTT_0 ⟨n, m, p, q, T⟩⟩
    · unfold cG_spoil; simp [c0]
    · unfold mM_spoil; simp [hp_188_0, c0]
  · by_cases c1 : v < Int32.ofNat m
    · obtain ⟨i, hi, rfl⟩ := n_of c0 c1 (by omega)
      have hi2 : i < 300 := by omega
      refine ⟨1, ((u.1, u.2.1, u.2.2.1, u.2.2.2.1, gup u.2.2.2.2.1 i (w &&& 255), u.2.2.2.2.2.1, u.2.2.2.2.2.2.1, u.2.2.2.2.2.2.2.1, u.2.2.2.2.2.2.2.2.1, u.2.2.2.2.2.2.2.2.2.1, u.2.2.2.2.2.2.2.2.2.2.1, u.2.2.2.2.2.2.2.2.2.2.2.1, u.2.2.2.2.2.2.2.2.2.2.2.2.1, u.2.2.2.2.2.2.2.2.2.2.2.2.2.1, u.2.2.2.2.2.2.2.2.2.2.2.2.2.2) : gU), ((x.1, gup x.2.1 0 0, x.2.2.1, x.2.2.2.1, x.2.2.2.2.1, gup x.2.2.2.2.2.1 i (w &&& 255), x.2.2.2.2.2.2.1, x.2.2.2.2.2.2.2.1, x.2.2.2.2.2.2.2.2.1, x.2.2.2.2.2.2.2.2.2.1, x.2.2.2.2.2.2.2.2.2.2.1, x.2.2.2.2.2.2.2.2.2.2.2.1, x.2.2.2.2.2.2.2.2.2.2.2.2.1, x.2.2.2.2.2.2.2.2.2.2.2.2.2.1, x.2.2.2.2.2.2.2.2.2.2.2.2.2.2.1, x.2.2.2.2.2.2.2.2.2.2.2.2.2.2.2) : gX), ?_, ?_, rfl, n, m, p, q, ?_⟩
      · unfold cG_spoil; simp [c0, c1, hr_0_1, hi_163_1, hr_163_0, T.um, hb_164 hi2]
      · unfold mM_spoil; simp [hp_188_0, hi_188_15, c0, x1, c1, hr_188_16, hb_200 hi2]
      · refine ⟨T.hn, T.un, T.xn, T.ob, T.hm, T.um, T.xm, ?_, ?_, T.hp, T.up, T.xp, T.pa, T.pb, T.hq, T.uq, T.xq, T.ho, T.fo⟩
        · intro j hj
          show gup x.2.2.2.2.2.1 i (w &&& 255) j = gup u.2.2.2.2.1 i (w &&& 255) j
          rw [gup_ap, gup_ap, T.bs j hj]
        · intro j hj
          show ∃ b, b < 256 ∧ gup u.2.2.2.2.1 i (w &&& 255) j = _
          rw [gup_ap]
          split
          · exact n_255 w
          · exact T.b8 j hj
    · refine ⟨0, u, ((x.1, gup x.2.1 0 0, x.2.2.1, x.2.2.2.1, x.2.2.2.2.1, x.2.2.2.2.2.1, x.2.2.2.2.2.2.1, x.2.2.2.2.2.2.2.1, x.2.2.2.2.2.2.2.2.1, x.2.2.2.2.2.2.2.2.2.1, x.2.2.2.2.2.2.2.2.2.2.1, x.2.2.2.2.2.2.2.2.2.2.2.1, x.2.2.2.2.2.2.2.2.2.2.2.2.1, x.2.2.2.2.2.2.2.2.2.2.2.2.2.1, x.2.2.2.2.2.2.2.2.2.2.2.2.2.2.1, x.2.2.2.2.2.2.2.2.2.2.2.2.2.2.2) : gX), ?_, ?_, rfl, gTT_0 ⟨n, m, p, q, T⟩⟩
      · unfold cG_spoil; simp [c0, hr_0_1, hi_163_1, T.um, c1]
      · unfold mM_spoil; simp [hp_188_0, c0, hi_188_15, x1, c1]
end H
end
section
/-! calls that make an object, pass, detach, feed -/
theorem gt_bv255 : ∀ i : Nat, i < 32 → (255#32).getLsbD i = decide (i < 8) := by decide
theorem gt_bx (v : BitVec 64) (s i : Nat) (hs : s ≤ 56) (hi : i < 32) : ((BitVec.signExtend 32 (v.sshiftRight s)).getLsbD i && (255#32).getLsbD i) = ((BitVec.signExtend 32 (v >>> s)).getLsbD i && (255#32).getLsbD i) := by
  rw [gt_bv255 i hi, BitVec.getLsbD_signExtend, BitVec.getLsbD_signExtend, BitVec.getLsbD_sshiftRight, BitVec.getLsbD_ushiftRight]
  have h3 : i < 64 := by omega
  by_cases h : i < 8
  · have h2 : s + i < 64 := by omega
    have h4 : ¬ 64 ≤ i := by omega
    simp [h, hi, h2, h3, h4]
  · simp [h]
/-- byte i of a long, as the reference takes it -/
theorem gt_r {w : Int64} {i : Nat} (hi : i < 8) : Int64.toInt32 ((w >>> (Int32.toInt64 ((8 : Int32) * Int32.ofNat i) &&& 63)) &&& (255 : Int64)) = gt_w w i := by
  unfold gt_w
  rw [Int64.toInt32_and]
  apply Int32.toBitVec_inj.mp
  apply BitVec.eq_of_getLsbD_eq
  intro j hj
  rw [Int32.toBitVec_and, Int32.toBitVec_and, BitVec.getLsbD_and, BitVec.getLsbD_and]
  rcases (by omega : i = 0 ∨ i = 1 ∨ i = 2 ∨ i = 3 ∨ i = 4 ∨ i = 5 ∨ i = 6 ∨ i = 7) with rfl | rfl | rfl | rfl | rfl | rfl | rfl | rfl
  · have e1 : ((Int32.toInt64 ((8 : Int32) * Int32.ofNat 0)).toUInt64 &&& Int64.toUInt64 63) = 0 := by decide
    have e2 : (Int32.toInt64 ((8 : Int32) * Int32.ofNat 0) &&& 63) = 0 := by decide
    rw [e1, e2]
    simpa using gt_bx w.toBitVec 0 j (by decide) hj
  · have e1 : ((Int32.toInt64 ((8 : Int32) * Int32.ofNat 1)).toUInt64 &&& Int64.toUInt64 63) = 8 := by decide
    have e2 : (Int32.toInt64 ((8 : Int32) * Int32.ofNat 1) &&& 63) = 8 := by decide
    rw [e1, e2]
    simpa using gt_bx w.toBitVec 8 j (by decide) hj
  · have e1 : ((Int32.toInt64 ((8 : Int32) * Int32.ofNat 2)).toUInt64 &&& Int64.toUInt64 63) = 16 := by decide
    have e2 : (Int32.toInt64 ((8 : Int32) * Int32.ofNat 2) &&& 63) = 16 := by decide
    rw [e1, e2]
    simpa using gt_bx w.toBitVec 16 j (by decide) hj
  · have e1 : ((Int32.toInt64 ((8 : Int32) * Int32.ofNat 3)).toUInt64 &&& Int64.toUInt64 63) = 24 := by decide
    have e2 : (Int32.toInt64 ((8 : Int32) * Int32.ofNat 3) &&& 63) = 24 := by decide
    rw [e1, e2]
    simpa using gt_bx w.toBitVec 24 j (by decide) hj
  · have e1 : ((Int32.toInt64 ((8 : Int32) * Int32.ofNat 4)).toUInt64 &&& Int64.toUInt64 63) = 32 := by decide
    have e2 : (Int32.toInt64 ((8 : Int32) * Int32.ofNat 4) &&& 63) = 32 := by decide
    rw [e1, e2]
    simpa using gt_bx w.toBitVec 32 j (by decide) hj
  · have e1 : ((Int32.toInt64 ((8 : Int32) * Int32.ofNat 5)).toUInt64 &&& Int64.toUInt64 63) = 40 := by decide
    have e2 : (Int32.toInt64 ((8 : Int32) * Int32.ofNat 5) &&& 63) = 40 := by decide
    rw [e1, e2]
    simpa using gt_bx w.toBitVec 40 j (by decide) hj
  · have e1 : ((Int32.toInt64 ((8 : Int32) * Int32.ofNat 6)).toUInt64 &&& Int64.toUInt64 63) = 48 := by decide
    have e2 : (Int32.toInt64 ((8 : Int32) * Int32.ofNat 6) &&& 63) = 48 := by decide
    rw [e1, e2]
    simpa using gt_bx w.toBitVec 48 j (by decide) hj
  · have e1 : ((Int32.toInt64 ((8 : Int32) * Int32.ofNat 7)).toUInt64 &&& Int64.toUInt64 63) = 56 := by decide
    have e2 : (Int32.toInt64 ((8 : Int32) * Int32.ofNat 7) &&& 63) = 56 := by decide
    rw [e1, e2]
    simpa using gt_bx w.toBitVec 56 j (by decide) hj
theorem gt_w8 (w : Int64) (i : Nat) : ∃ b, b < 256 ∧ gt_w w i = Int32.ofNat b := n_255 _
section H
variable {u : gU} {x : gX} {o : Nat → Int64} {z : gx_H}
theorem hb0 {v : Int64} : gv_wJ (gH u x o z) (some 211) 0 v = some (gH u x (gup o 0 v) z) := hb_211 (i := 0) (by omega)
theorem ha0 : gv_lJ (gH u x o z) (some 211) 0 = some (o 0) := ha_211 (i := 0) (by omega)
/-- a thing that has begun -/
def gq_new (q : gQ) (s : Int32) : gQ := ((q.1, q.2.1, q.2.2.1, q.2.2.2.1, gup (gup (gup q.2.2.2.2.1 4 s) 5 0) 6 0, gup q.2.2.2.2.2 10 0) : gQ)
def gp_new (p : gP) (s : Int32) : gP := ((p.1, p.2.1, p.2.2.1, p.2.2.2.1, s, 0, 0, 0) : gP)
theorem k_begin {n : Nat} {s : Int32} (hu : u.2.2.1 1 = Int32.ofNat n) (hn : n < 32) : cS_begin (some 1) s (gH u x o z) = some (Int32.ofNat n, gH ((gup u.1 n (gq_new (u.1 n) s), u.2.1, gup u.2.2.1 1 (Int32.ofNat (n + 1)), u.2.2.2.1, u.2.2.2.2.1, u.2.2.2.2.2.1, u.2.2.2.2.2.2.1, u.2.2.2.2.2.2.2.1, u.2.2.2.2.2.2.2.2.1, u.2.2.2.2.2.2.2.2.2.1, u.2.2.2.2.2.2.2.2.2.2.1, u.2.2.2.2.2.2.2.2.2.2.2.1, u.2.2.2.2.2.2.2.2.2.2.2.2.1, u.2.2.2.2.2.2.2.2.2.2.2.2.2.1, u.2.2.2.2.2.2.2.2.2.2.2.2.2.2) : gU) x o z) := by
  unfold cS_begin
  have hl : Int32.ofNat n < 32 := n_ltl (m := 32) (by omega) (by omega) hn
  simp only [hi_1_1, Option.bind_some, hu, if_pos hl, hr_1_0, hT hn, ho_T hn, cT_begin, hpT_4 hn, hpT_5 hn, hpT_6 hn, hqT_10 hn, gup_eq, gup_gup, hp_1_1, n_succ, n_pred] <;> rfl
theorem k_beginF {s : Int32} (hu : u.2.2.1 1 = Int32.ofNat 32) : cS_begin (some 1) s (gH u x o z) = some (-1, gH u x o z) := by
  unfold cS_begin
  simp only [hi_1_1, Option.bind_some, hu, if_neg (show ¬ Int32.ofNat 32 < 32 by decide)]
theorem k_bor {n : Nat} {s : Int32} (hu : u.2.2.1 1 = Int32.ofNat n) (hn : n < 32) : cG_beginOrRefuse (some 0) s (gH u x o z) = some (.returned (some (.int (Int32.ofNat n))), gH ((gup u.1 n (gq_new (u.1 n) s), u.2.1, gup u.2.2.1 1 (Int32.ofNat (n + 1)), u.2.2.2.1, u.2.2.2.2.1, u.2.2.2.2.2.1, u.2.2.2.2.2.2.1, u.2.2.2.2.2.2.2.1, u.2.2.2.2.2.2.2.2.1, u.2.2.2.2.2.2.2.2.2.1, u.2.2.2.2.2.2.2.2.2.2.1, u.2.2.2.2.2.2.2.2.2.2.2.1, u.2.2.2.2.2.2.2.2.2.2.2.2.1, u.2.2.2.2.2.2.2.2.2.2.2.2.2.1, u.2.2.2.2.2.2.2.2.2.2.2.2.2.2) : gU) x o z) := by
  unfold cG_beginOrRefuse
  simp only [hr_0_0, Option.bind_some, ho_1, k_begin hu hn, if_neg (n_ne1 (n := n) (by omega))]
theorem k_borF {s : Int32} (hu : u.2.2.1 1 = Int32.ofNat 32) : cG_beginOrRefuse (some 0) s (gH u x o z) = some (.threw (212 + z.length), gH u x o (z ++ [(9, [])])) := by
  unfold cG_beginOrRefuse
  simp only [hr_0_0, Option.bind_some, ho_1, k_beginF hu, if_true, hl, hthr]
theorem r_fresh {n : Nat} {s : Int32} (hx : x.2.1 1 = Int32.ofNat n) (hn : n < 32) : mM_fresh (some 188) s (gH u x o z) = some (Int32.ofNat n, gH u ((gup x.1 n (gp_new (x.1 n) s), gup x.2.1 1 (Int32.ofNat (n + 1)), x.2.2.1, x.2.2.2.1, x.2.2.2.2.1, x.2.2.2.2.2.1, x.2.2.2.2.2.2.1, x.2.2.2.2.2.2.2.1, x.2.2.2.2.2.2.2.2.1, x.2.2.2.2.2.2.2.2.2.1, x.2.2.2.2.2.2.2.2.2.2.1, x.2.2.2.2.2.2.2.2.2.2.2.1, x.2.2.2.2.2.2.2.2.2.2.2.2.1, x.2.2.2.2.2.2.2.2.2.2.2.2.2.1, x.2.2.2.2.2.2.2.2.2.2.2.2.2.2.1, x.2.2.2.2.2.2.2.2.2.2.2.2.2.2.2) : gX) o z) := by
  unfold mM_fresh mM_begin
  simp only [hi_188_1, Option.bind_some, hx, ho_188, hr_188_2, hr_188_3, hr_188_4, hr_188_5, hb_189 hn, hb_190 hn, hb_191 hn, hb_192 hn, gup_eq, gup_gup, hp_188_1, n_succ, n_pred, show (0 : Int32) &&& 1 = 0 from rfl] <;> rfl
theorem gO_new {n s : Nat} {q : gQ} {p : gP} (h8 : s < 8) (h5 : ¬ s = 5) : gO n s 0 (gq_new q (Int32.ofNat s)) (gp_new p (Int32.ofNat s)) :=
  ⟨h8, rfl, rfl, rfl, by omega, rfl, Or.inl rfl, fun _ => rfl, fun h => absurd rfl h, fun _ i hi => by omega, fun _ i hi => by omega, fun _ i hi => by omega, fun _ i hi => by omega, fun _ i hi => by omega, fun _ i hi => by omega, fun _ i j _ hi => by omega, fun _ i hi => by omega, fun h => absurd h h5, fun _ => rfl⟩
/-- a new object on both sides -/
theorem gT_new {n m p q : Nat} {q' : gQ} {p' : gP} (T : gTi n m p q u x) (hn : n < 32) (h : ∃ s c, gO (n + 1) s c q' p') : gTi (n + 1) m p q ((gup u.1 n q', u.2.1, gup u.2.2.1 1 (Int32.ofNat (n + 1)), u.2.2.2.1, u.2.2.2.2.1, u.2.2.2.2.2.1, u.2.2.2.2.2.2.1, u.2.2.2.2.2.2.2.1, u.2.2.2.2.2.2.2.2.1, u.2.2.2.2.2.2.2.2.2.1, u.2.2.2.2.2.2.2.2.2.2.1, u.2.2.2.2.2.2.2.2.2.2.2.1, u.2.2.2.2.2.2.2.2.2.2.2.2.1, u.2.2.2.2.2.2.2.2.2.2.2.2.2.1, u.2.2.2.2.2.2.2.2.2.2.2.2.2.2) : gU) ((gup x.1 n p', gup (gup x.2.1 0 0) 1 (Int32.ofNat (n + 1)), x.2.2.1, x.2.2.2.1, x.2.2.2.2.1, x.2.2.2.2.2.1, x.2.2.2.2.2.2.1, x.2.2.2.2.2.2.2.1, x.2.2.2.2.2.2.2.2.1, x.2.2.2.2.2.2.2.2.2.1, x.2.2.2.2.2.2.2.2.2.2.1, x.2.2.2.2.2.2.2.2.2.2.2.1, x.2.2.2.2.2.2.2.2.2.2.2.2.1, x.2.2.2.2.2.2.2.2.2.2.2.2.2.1, x.2.2.2.2.2.2.2.2.2.2.2.2.2.2.1, x.2.2.2.2.2.2.2.2.2.2.2.2.2.2.2) : gX) :=
  ⟨by omega, rfl, rfl, gob_new T.ob h, T.hm, T.um, T.xm, T.bs, T.b8, T.hp, T.up, T.xp, T.pa, fun i hi => by
    obtain ⟨k, h1, h2⟩ := T.pb i hi
    exact ⟨k, by omega, h2⟩, T.hq, T.uq, T.xq, T.ho, T.fo⟩
theorem k_mk1 {t : Int32} {h : gx_H} (g : (¬ t < 0 ∧ ¬ 3 < t) ∨ t = 7) : cG_make (some 0) t h = cG_make_25 (some 0) t h := by
  unfold cG_make cG_make_9
  rcases g with ⟨g1, g2⟩ | g
  · rw [if_neg g1, if_neg g2]
  · subst g; rfl
theorem k_mk0 {t : Int32} {h : gx_H} (g : ¬ ((¬ t < 0 ∧ ¬ 3 < t) ∨ t = 7)) : cG_make (some 0) t h = some (.threw h.length, h ++ [(8, [])]) := by
  unfold cG_make cG_make_9
  have g7 : ¬ t = 7 := fun q => g (Or.inr q)
  by_cases g1 : t < 0
  · rw [if_pos g1, if_neg g7]
  · by_cases g2 : 3 < t
    · rw [if_neg g1, if_pos g2, if_neg g7]
    · exact absurd (Or.inl ⟨g1, g2⟩) g
theorem r_mk1 {t : Int32} {h : gx_H} (g : (¬ t < 0 ∧ ¬ 3 < t) ∨ t = 7) : mM_make (some 188) t h = mM_make_31 (some 188) t (some 188) 0 h := by
  unfold mM_make mM_make_9 mM_make_15 mM_make_20
  rcases g with ⟨g1, g2⟩ | g
  · rw [if_neg g1, if_neg g2, if_neg (by decide)]
  · subst g; rfl
theorem r_mk0 {t : Int32} {h : gx_H} (g : ¬ ((¬ t < 0 ∧ ¬ 3 < t) ∨ t = 7)) : mM_make (some 188) t h = mM_make_31 (some 188) t (some 188) 1 h := by
  unfold mM_make mM_make_9 mM_make_15 mM_make_20
  have g7 : ¬ t = 7 := fun q => g (Or.inr q)
  by_cases g1 : t < 0
  · rw [if_pos g1, if_neg g7]; rfl
  · by_cases g2 : 3 < t
    · rw [if_neg g1, if_pos g2, if_neg g7]; rfl
    · exact absurd (Or.inl ⟨g1, g2⟩) g
theorem n_32 {n : Nat} (h : n < 32) : ¬ Int32.ofNat n = 32 := fun q => by
  have := (n_eq (m := 32) (by omega) (by omega)).mp q
  omega
/-- what a call that may throw answers, and that both sides go on tied -/
def gAns (u : gU) (x : gX) (o : Nat → Int64) (z : gx_H) (L : gx_H → Option (Int32 × gx_H)) (M : gx_H → Option (Int32 × gx_H)) : Prop := ∃ e u' o' z' r x', L (gH u x o z) = some (e, gH u' x o' z') ∧ M (gH u' x o' z') = some (r, gH u' x' o' z') ∧ x'.2.1 0 = e ∧ (e = 0 → o' 0 = Int32.toInt64 r) ∧ gTT u' x' ∧ z'.length ≤ z.length + 1
theorem t_make {t : Int32} (h : gTT u x) : gAns u x o z (lw_make (some 0) t (some 211)) (mM_make (some 188) t) := by
  obtain ⟨n, m, p, q, T⟩ := h
  by_cases g : (¬ t < 0 ∧ ¬ 3 < t) ∨ t = 7
  · by_cases hn : n < 32
    · have hs : ∃ s, s < 8 ∧ ¬ s = 5 ∧ t = Int32.ofNat s := by
        rcases g with ⟨g1, g2⟩ | g
        · obtain ⟨s, h1, h2⟩ := n_le (m := 3) g1 g2 (by omega)
          exact ⟨s, by omega, by omega, h2⟩
        · exact ⟨7, by omega, by omega, g⟩
      obtain ⟨s, s1, s2, rfl⟩ := hs
      refine ⟨0, _, gup o 0 (Int32.toInt64 (Int32.ofNat n)), z, Int32.ofNat n, _, ?_, ?_, ?_, ?_, ⟨n + 1, m, p, q, gT_new T hn ⟨s, 0, gO_new (q := u.1 n) (p := x.1 n) s1 s2⟩⟩, by omega⟩
      · simp only [lw_make, ho_0, Option.bind_some, k_mk1 g, cG_make_25, k_bor T.un hn, hb0]
      · simp only [r_mk1 g, mM_make_31, hi_188_1, Option.bind_some, T.xn, if_neg (n_32 hn), mM_make_45, ho_188, r_ref]
        simp only [true_and, if_true, r_fresh (x := ((x.1, gup x.2.1 0 0, x.2.2.1, x.2.2.2.1, x.2.2.2.2.1, x.2.2.2.2.2.1, x.2.2.2.2.2.2.1, x.2.2.2.2.2.2.2.1, x.2.2.2.2.2.2.2.2.1, x.2.2.2.2.2.2.2.2.2.1, x.2.2.2.2.2.2.2.2.2.2.1, x.2.2.2.2.2.2.2.2.2.2.2.1, x.2.2.2.2.2.2.2.2.2.2.2.2.1, x.2.2.2.2.2.2.2.2.2.2.2.2.2.1, x.2.2.2.2.2.2.2.2.2.2.2.2.2.2.1, x.2.2.2.2.2.2.2.2.2.2.2.2.2.2.2) : gX)) (n := n) T.xn hn, Option.bind_some]
      · rfl
      · intro _; rfl
    · obtain rfl : n = 32 := by have := T.hn; omega
      refine ⟨2, u, o, z ++ [(9, [])], 0, ((x.1, gup x.2.1 0 2, x.2.2.1, x.2.2.2.1, x.2.2.2.2.1, x.2.2.2.2.2.1, x.2.2.2.2.2.2.1, x.2.2.2.2.2.2.2.1, x.2.2.2.2.2.2.2.2.1, x.2.2.2.2.2.2.2.2.2.1, x.2.2.2.2.2.2.2.2.2.2.1, x.2.2.2.2.2.2.2.2.2.2.2.1, x.2.2.2.2.2.2.2.2.2.2.2.2.1, x.2.2.2.2.2.2.2.2.2.2.2.2.2.1, x.2.2.2.2.2.2.2.2.2.2.2.2.2.2.1, x.2.2.2.2.2.2.2.2.2.2.2.2.2.2.2) : gX), ?_, ?_, rfl, fun q => absurd q (by decide), gTT_0 ⟨_, m, p, q, T⟩, by simp⟩
      · simp only [lw_make, ho_0, Option.bind_some, k_mk1 g, cG_make_25, k_borF T.un, hexc] <;> rfl
      · simp only [r_mk1 g, mM_make_31, hi_188_1, Option.bind_some, T.xn, show Int32.ofNat 32 = 32 from rfl, if_true, mM_make_45, ho_188, r_ref] <;> rfl
  · refine ⟨1, u, o, z ++ [(8, [])], 0, ((x.1, gup x.2.1 0 1, x.2.2.1, x.2.2.2.1, x.2.2.2.2.1, x.2.2.2.2.2.1, x.2.2.2.2.2.2.1, x.2.2.2.2.2.2.2.1, x.2.2.2.2.2.2.2.2.1, x.2.2.2.2.2.2.2.2.2.1, x.2.2.2.2.2.2.2.2.2.2.1, x.2.2.2.2.2.2.2.2.2.2.2.1, x.2.2.2.2.2.2.2.2.2.2.2.2.1, x.2.2.2.2.2.2.2.2.2.2.2.2.2.1, x.2.2.2.2.2.2.2.2.2.2.2.2.2.2.1, x.2.2.2.2.2.2.2.2.2.2.2.2.2.2.2) : gX), ?_, ?_, rfl, fun q => absurd q (by decide), gTT_0 ⟨n, m, p, q, T⟩, by simp⟩
    · simp only [lw_make, ho_0, Option.bind_some, k_mk0 g, hl, hthr, hexc] <;> rfl
    · simp only [r_mk0 g, mM_make_31, hi_188_1, Option.bind_some, T.xn]
      by_cases c : Int32.ofNat n = 32
      · simp only [if_pos c, mM_make_45, ho_188, Option.bind_some, r_ref] <;> rfl
      · simp only [if_neg c, mM_make_45, ho_188, Option.bind_some, r_ref] <;> rfl
end H
end
section
/-! stamp, buffer, pass, detach, feed -/
theorem gup_self {α : Type} {f : Nat → α} {k : Nat} : gup f k (f k) = f := by
  funext j; unfold gup; split
  · rename_i h; rw [h]
  · rfl
theorem gup_same {α : Type} {f : Nat → α} {k : Nat} {v : α} (h : f k = v) : gup f k v = f := by rw [← h, gup_self]
section H
variable {u : gU} {x : gX} {o : Nat → Int64} {z : gx_H}
theorem t_stamp {w : Int64} (h : gTT u x) : gAns u x o z (lw_stamp (some 0) w (some 211)) (mM_stamp (some 188) w) := by
  obtain ⟨n, m, p, q, T⟩ := h
  by_cases hn : n < 32
  · have O : gO (n + 1) 6 0 (((gq_new (u.1 n) 6).1, (gq_new (u.1 n) 6).2.1, (gq_new (u.1 n) 6).2.2.1, (gq_new (u.1 n) 6).2.2.2.1, (gq_new (u.1 n) 6).2.2.2.2.1, gup (gq_new (u.1 n) 6).2.2.2.2.2 10 w) : gQ) (((gp_new (x.1 n) 6).1, (gp_new (x.1 n) 6).2.1, (gp_new (x.1 n) 6).2.2.1, (gp_new (x.1 n) 6).2.2.2.1, (gp_new (x.1 n) 6).2.2.2.2.1, (gp_new (x.1 n) 6).2.2.2.2.2.1, (gp_new (x.1 n) 6).2.2.2.2.2.2.1, w) : gP) := ⟨(gO_new (n := n + 1) (s := 6) (q := u.1 n) (p := x.1 n) (by omega) (by omega)).s8, (gO_new (n := n + 1) (s := 6) (q := u.1 n) (p := x.1 n) (by omega) (by omega)).es, (gO_new (n := n + 1) (s := 6) (q := u.1 n) (p := x.1 n) (by omega) (by omega)).et, (gO_new (n := n + 1) (s := 6) (q := u.1 n) (p := x.1 n) (by omega) (by omega)).ec, (gO_new (n := n + 1) (s := 6) (q := u.1 n) (p := x.1 n) (by omega) (by omega)).c8, (gO_new (n := n + 1) (s := 6) (q := u.1 n) (p := x.1 n) (by omega) (by omega)).ed, (gO_new (n := n + 1) (s := 6) (q := u.1 n) (p := x.1 n) (by omega) (by omega)).d4, (gO_new (n := n + 1) (s := 6) (q := u.1 n) (p := x.1 n) (by omega) (by omega)).ep, (gO_new (n := n + 1) (s := 6) (q := u.1 n) (p := x.1 n) (by omega) (by omega)).e0, (gO_new (n := n + 1) (s := 6) (q := u.1 n) (p := x.1 n) (by omega) (by omega)).kE, (gO_new (n := n + 1) (s := 6) (q := u.1 n) (p := x.1 n) (by omega) (by omega)).kK, (gO_new (n := n + 1) (s := 6) (q := u.1 n) (p := x.1 n) (by omega) (by omega)).k4, (gO_new (n := n + 1) (s := 6) (q := u.1 n) (p := x.1 n) (by omega) (by omega)).vs, (gO_new (n := n + 1) (s := 6) (q := u.1 n) (p := x.1 n) (by omega) (by omega)).vv, (gO_new (n := n + 1) (s := 6) (q := u.1 n) (p := x.1 n) (by omega) (by omega)).kv, (gO_new (n := n + 1) (s := 6) (q := u.1 n) (p := x.1 n) (by omega) (by omega)).so, fun h => by omega, (gO_new (n := n + 1) (s := 6) (q := u.1 n) (p := x.1 n) (by omega) (by omega)).vw, fun _ => rfl⟩
    refine ⟨0, _, gup o 0 (Int32.toInt64 (Int32.ofNat n)), z, Int32.ofNat n, _, ?_, ?_, ?_, ?_, ⟨n + 1, m, p, q, gT_new T hn ⟨6, 0, O⟩⟩, by omega⟩
    · simp only [lw_stamp, ho_0, Option.bind_some, cG_stamp, k_bor T.un hn, hr_0_0, hr_1_0, hT hn, hqT_10 hn, gup_eq, gup_gup, hb0]
    · simp only [mM_stamp, mM_stamp_15, hi_188_1, Option.bind_some, T.xn, if_neg (n_32 hn), ho_188, r_ref]
      simp only [true_and, and_self, if_true, r_fresh (x := ((x.1, gup x.2.1 0 0, x.2.2.1, x.2.2.2.1, x.2.2.2.2.1, x.2.2.2.2.2.1, x.2.2.2.2.2.2.1, x.2.2.2.2.2.2.2.1, x.2.2.2.2.2.2.2.2.1, x.2.2.2.2.2.2.2.2.2.1, x.2.2.2.2.2.2.2.2.2.2.1, x.2.2.2.2.2.2.2.2.2.2.2.1, x.2.2.2.2.2.2.2.2.2.2.2.2.1, x.2.2.2.2.2.2.2.2.2.2.2.2.2.1, x.2.2.2.2.2.2.2.2.2.2.2.2.2.2.1, x.2.2.2.2.2.2.2.2.2.2.2.2.2.2.2) : gX)) (n := n) T.xn hn, Option.bind_some, hr_188_5, hb_192 hn, gup_eq, gup_gup]
    · rfl
    · intro _; rfl
  · obtain rfl : n = 32 := by have := T.hn; omega
    refine ⟨1, u, o, z ++ [(9, [])], 0, ((x.1, gup x.2.1 0 1, x.2.2.1, x.2.2.2.1, x.2.2.2.2.1, x.2.2.2.2.2.1, x.2.2.2.2.2.2.1, x.2.2.2.2.2.2.2.1, x.2.2.2.2.2.2.2.2.1, x.2.2.2.2.2.2.2.2.2.1, x.2.2.2.2.2.2.2.2.2.2.1, x.2.2.2.2.2.2.2.2.2.2.2.1, x.2.2.2.2.2.2.2.2.2.2.2.2.1, x.2.2.2.2.2.2.2.2.2.2.2.2.2.1, x.2.2.2.2.2.2.2.2.2.2.2.2.2.2.1, x.2.2.2.2.2.2.2.2.2.2.2.2.2.2.2) : gX), ?_, ?_, rfl, fun q => absurd q (by decide), gTT_0 ⟨_, m, p, q, T⟩, by simp⟩
    · simp only [lw_stamp, ho_0, Option.bind_some, cG_stamp, k_borF T.un, hexc] <;> rfl
    · simp only [mM_stamp, mM_stamp_15, hi_188_1, Option.bind_some, T.xn, show Int32.ofNat 32 = 32 from rfl, if_true, ho_188, r_ref] <;> rfl
theorem r_bufLoop {w : Int64} {c k : Nat} (hc : c ≤ 8) (hk : k < 32) : ∀ (m i f : Nat) (x : gX), i + m = c → ∃ b, mM_buffer_56 (f + m + 1) (some 188) w (Int32.ofNat c) (Int32.ofNat k) (Int32.ofNat i) (gH u x o z) = some (Int32.ofNat k, gH u ((gup x.1 k (((x.1 k).1, (x.1 k).2.1, (x.1 k).2.2.1, b, (x.1 k).2.2.2.2.1, (x.1 k).2.2.2.2.2.1, (x.1 k).2.2.2.2.2.2.1, (x.1 k).2.2.2.2.2.2.2) : gP), x.2.1, x.2.2.1, x.2.2.2.1, x.2.2.2.2.1, x.2.2.2.2.2.1, x.2.2.2.2.2.2.1, x.2.2.2.2.2.2.2.1, x.2.2.2.2.2.2.2.2.1, x.2.2.2.2.2.2.2.2.2.1, x.2.2.2.2.2.2.2.2.2.2.1, x.2.2.2.2.2.2.2.2.2.2.2.1, x.2.2.2.2.2.2.2.2.2.2.2.2.1, x.2.2.2.2.2.2.2.2.2.2.2.2.2.1, x.2.2.2.2.2.2.2.2.2.2.2.2.2.2.1, x.2.2.2.2.2.2.2.2.2.2.2.2.2.2.2) : gX) o z) ∧ ∀ j, b j = if i ≤ j ∧ j < c then gt_w w j else (x.1 k).2.2.2.1 j := by
  intro m
  induction m with
  | zero =>
    intro i f x h
    refine ⟨(x.1 k).2.2.2.1, ?_, fun j => by rw [if_neg (by omega)]⟩
    rw [mM_buffer_56, if_neg (n_nltl (by omega) (by omega) (by omega)), show ((((x.1 k).1, (x.1 k).2.1, (x.1 k).2.2.1, (x.1 k).2.2.2.1, (x.1 k).2.2.2.2.1, (x.1 k).2.2.2.2.2.1, (x.1 k).2.2.2.2.2.2.1, (x.1 k).2.2.2.2.2.2.2) : gP) : gP) = x.1 k from rfl, gup_self]
  | succ m ih =>
    intro i f x h
    obtain ⟨b, h1, h2⟩ := ih (i + 1) f ((gup x.1 k (((x.1 k).1, (x.1 k).2.1, (x.1 k).2.2.1, gup (x.1 k).2.2.2.1 i (gt_w w i), (x.1 k).2.2.2.2.1, (x.1 k).2.2.2.2.2.1, (x.1 k).2.2.2.2.2.2.1, (x.1 k).2.2.2.2.2.2.2) : gP), x.2.1, x.2.2.1, x.2.2.2.1, x.2.2.2.2.1, x.2.2.2.2.2.1, x.2.2.2.2.2.2.1, x.2.2.2.2.2.2.2.1, x.2.2.2.2.2.2.2.2.1, x.2.2.2.2.2.2.2.2.2.1, x.2.2.2.2.2.2.2.2.2.2.1, x.2.2.2.2.2.2.2.2.2.2.2.1, x.2.2.2.2.2.2.2.2.2.2.2.2.1, x.2.2.2.2.2.2.2.2.2.2.2.2.2.1, x.2.2.2.2.2.2.2.2.2.2.2.2.2.2.1, x.2.2.2.2.2.2.2.2.2.2.2.2.2.2.2) : gX) (by omega)
    refine ⟨b, ?_, fun j => ?_⟩
    · rw [show f + (m + 1) + 1 = (f + m + 1) + 1 by omega, mM_buffer_56, if_pos (n_ltl (by omega) (by omega) (by omega)), hr_188_9, Option.bind_some, n_8, hb_196 hk (by omega), Option.bind_some, gt_r (by omega), n_succ, h1]
      simp only [gup_eq, gup_gup]
    · rw [h2 j]
      simp only [gup_eq]
      by_cases c1 : j = i
      · subst c1; rw [if_neg (by omega), if_pos (by omega), gup_eq]
      · rw [gup_ne c1]
        by_cases c2 : i + 1 ≤ j ∧ j < c
        · rw [if_pos c2, if_pos (by omega)]
        · rw [if_neg c2, if_neg (by omega)]
theorem t_buffer {w : Int64} {v : Int32} (h : gTT u x) : gAns u x o z (lw_buffer (some 0) w v (some 211)) (mM_buffer (some 188) w v) := by
  obtain ⟨n, m, p, q, T⟩ := h
  by_cases g : ¬ v < 0 ∧ ¬ 8 < v
  · obtain ⟨g1, g2⟩ := g
    by_cases hn : n < 32
    · obtain ⟨c, hc, rfl⟩ := n_le (m := 8) g1 g2 (by omega)
      obtain ⟨b, hb1, hb2⟩ := r_bufLoop (u := ((gup u.1 n (((gq_new (u.1 n) 4).1, (gq_new (u.1 n) 4).2.1, (gq_new (u.1 n) 4).2.2.1, (gq_new (u.1 n) 4).2.2.2.1, gup (gq_new (u.1 n) 4).2.2.2.2.1 5 (Int32.ofNat c), gup (gq_new (u.1 n) 4).2.2.2.2.2 10 w) : gQ), u.2.1, gup u.2.2.1 1 (Int32.ofNat (n + 1)), u.2.2.2.1, u.2.2.2.2.1, u.2.2.2.2.2.1, u.2.2.2.2.2.2.1, u.2.2.2.2.2.2.2.1, u.2.2.2.2.2.2.2.2.1, u.2.2.2.2.2.2.2.2.2.1, u.2.2.2.2.2.2.2.2.2.2.1, u.2.2.2.2.2.2.2.2.2.2.2.1, u.2.2.2.2.2.2.2.2.2.2.2.2.1, u.2.2.2.2.2.2.2.2.2.2.2.2.2.1, u.2.2.2.2.2.2.2.2.2.2.2.2.2.2) : gU)) (o := gup o 0 (Int32.toInt64 (Int32.ofNat n))) (z := z) (w := w) hc hn c 0 (1000000000000000 - c - 1) ((gup x.1 n (((gp_new (x.1 n) 4).1, (gp_new (x.1 n) 4).2.1, (gp_new (x.1 n) 4).2.2.1, (gp_new (x.1 n) 4).2.2.2.1, (gp_new (x.1 n) 4).2.2.2.2.1, Int32.ofNat c, (gp_new (x.1 n) 4).2.2.2.2.2.2.1, (gp_new (x.1 n) 4).2.2.2.2.2.2.2) : gP), gup (gup x.2.1 0 0) 1 (Int32.ofNat (n + 1)), x.2.2.1, x.2.2.2.1, x.2.2.2.2.1, x.2.2.2.2.2.1, x.2.2.2.2.2.2.1, x.2.2.2.2.2.2.2.1, x.2.2.2.2.2.2.2.2.1, x.2.2.2.2.2.2.2.2.2.1, x.2.2.2.2.2.2.2.2.2.2.1, x.2.2.2.2.2.2.2.2.2.2.2.1, x.2.2.2.2.2.2.2.2.2.2.2.2.1, x.2.2.2.2.2.2.2.2.2.2.2.2.2.1, x.2.2.2.2.2.2.2.2.2.2.2.2.2.2.1, x.2.2.2.2.2.2.2.2.2.2.2.2.2.2.2) : gX) (by omega)
      rw [show 1000000000000000 - c - 1 + c + 1 = 1000000000000000 by omega] at hb1
      simp only [gup_eq, gup_gup] at hb1 hb2
      have O : gO (n + 1) 4 c (((gq_new (u.1 n) 4).1, (gq_new (u.1 n) 4).2.1, (gq_new (u.1 n) 4).2.2.1, (gq_new (u.1 n) 4).2.2.2.1, gup (gq_new (u.1 n) 4).2.2.2.2.1 5 (Int32.ofNat c), gup (gq_new (u.1 n) 4).2.2.2.2.2 10 w) : gQ) (((gp_new (x.1 n) 4).1, (gp_new (x.1 n) 4).2.1, (gp_new (x.1 n) 4).2.2.1, b, (gp_new (x.1 n) 4).2.2.2.2.1, Int32.ofNat c, (gp_new (x.1 n) 4).2.2.2.2.2.2.1, (gp_new (x.1 n) 4).2.2.2.2.2.2.2) : gP) :=
        ⟨by omega, rfl, rfl, rfl, hc, rfl, Or.inl rfl, fun _ => rfl, fun h => absurd rfl h, fun a => by omega, fun a => by omega, fun a => by omega, fun a => by omega, fun a => by omega, fun a => by omega, fun a => by omega, fun _ i hi => (hb2 i).trans (if_pos (by omega)), fun a => by omega, fun a => by omega⟩
      refine ⟨0, _, gup o 0 (Int32.toInt64 (Int32.ofNat n)), z, Int32.ofNat n, _, ?_, ?_, ?_, ?_, ⟨n + 1, m, p, q, gT_new T hn ⟨4, c, O⟩⟩, by omega⟩
      · simp only [lw_buffer, ho_0, Option.bind_some, cG_buffer, if_neg g1, if_neg g2, k_bor T.un hn, hr_0_0, hr_1_0, hT hn, ho_T hn, cT_holdBytes, hqT_10 hn, hpT_5 hn, gup_eq, gup_gup, hb0]
      · simp only [mM_buffer, mM_buffer_16, mM_buffer_30, if_neg g1, if_neg g2, hi_188_1, Option.bind_some, T.xn, if_neg (n_32 hn), ho_188, r_ref]
        simp only [true_and, and_self, if_true, r_fresh (x := ((x.1, gup x.2.1 0 0, x.2.2.1, x.2.2.2.1, x.2.2.2.2.1, x.2.2.2.2.2.1, x.2.2.2.2.2.2.1, x.2.2.2.2.2.2.2.1, x.2.2.2.2.2.2.2.2.1, x.2.2.2.2.2.2.2.2.2.1, x.2.2.2.2.2.2.2.2.2.2.1, x.2.2.2.2.2.2.2.2.2.2.2.1, x.2.2.2.2.2.2.2.2.2.2.2.2.1, x.2.2.2.2.2.2.2.2.2.2.2.2.2.1, x.2.2.2.2.2.2.2.2.2.2.2.2.2.2.1, x.2.2.2.2.2.2.2.2.2.2.2.2.2.2.2) : gX)) (n := n) T.xn hn, Option.bind_some, hr_188_3, hb_190 hn, gup_eq, gup_gup]
        exact hb1
      · rfl
      · intro _; rfl
    · obtain rfl : n = 32 := by have := T.hn; omega
      refine ⟨2, u, o, z ++ [(9, [])], 0, ((x.1, gup x.2.1 0 2, x.2.2.1, x.2.2.2.1, x.2.2.2.2.1, x.2.2.2.2.2.1, x.2.2.2.2.2.2.1, x.2.2.2.2.2.2.2.1, x.2.2.2.2.2.2.2.2.1, x.2.2.2.2.2.2.2.2.2.1, x.2.2.2.2.2.2.2.2.2.2.1, x.2.2.2.2.2.2.2.2.2.2.2.1, x.2.2.2.2.2.2.2.2.2.2.2.2.1, x.2.2.2.2.2.2.2.2.2.2.2.2.2.1, x.2.2.2.2.2.2.2.2.2.2.2.2.2.2.1, x.2.2.2.2.2.2.2.2.2.2.2.2.2.2.2) : gX), ?_, ?_, rfl, fun q => absurd q (by decide), gTT_0 ⟨_, m, p, q, T⟩, by simp⟩
      · simp only [lw_buffer, ho_0, Option.bind_some, cG_buffer, if_neg g1, if_neg g2, k_borF T.un, hexc] <;> rfl
      · simp only [mM_buffer, mM_buffer_16, mM_buffer_30, if_neg g1, if_neg g2, hi_188_1, Option.bind_some, T.xn, show Int32.ofNat 32 = 32 from rfl, if_true, ho_188, r_ref] <;> rfl
  · have e1 : ∀ h : gx_H, cG_buffer (some 0) w v h = some (.threw h.length, h ++ [(8, [])]) := by
      intro h
      unfold cG_buffer
      by_cases g1 : v < 0
      · rw [if_pos g1]; rfl
      · rw [if_neg g1, if_pos (Decidable.byContradiction fun g2 => g ⟨g1, g2⟩)]; rfl
    have e2 : ∀ h : gx_H, mM_buffer (some 188) w v h = mM_buffer_16 (some 188) w v (some 188) 1 h := by
      intro h
      unfold mM_buffer
      by_cases g1 : v < 0
      · rw [if_pos g1]; rfl
      · rw [if_neg g1, if_pos (Decidable.byContradiction fun g2 => g ⟨g1, g2⟩)]; rfl
    refine ⟨1, u, o, z ++ [(8, [])], 0, ((x.1, gup x.2.1 0 1, x.2.2.1, x.2.2.2.1, x.2.2.2.2.1, x.2.2.2.2.2.1, x.2.2.2.2.2.2.1, x.2.2.2.2.2.2.2.1, x.2.2.2.2.2.2.2.2.1, x.2.2.2.2.2.2.2.2.2.1, x.2.2.2.2.2.2.2.2.2.2.1, x.2.2.2.2.2.2.2.2.2.2.2.1, x.2.2.2.2.2.2.2.2.2.2.2.2.1, x.2.2.2.2.2.2.2.2.2.2.2.2.2.1, x.2.2.2.2.2.2.2.2.2.2.2.2.2.2.1, x.2.2.2.2.2.2.2.2.2.2.2.2.2.2.2) : gX), ?_, ?_, rfl, fun q => absurd q (by decide), gTT_0 ⟨n, m, p, q, T⟩, by simp⟩
    · simp only [lw_buffer, ho_0, Option.bind_some, e1, hl, hthr, hexc] <;> rfl
    · simp only [e2, mM_buffer_16, hi_188_1, Option.bind_some, T.xn]
      by_cases c : Int32.ofNat n = 32
      · simp only [if_pos c, mM_buffer_30, ho_188, Option.bind_some, r_ref] <;> rfl
      · simp only [if_neg c, mM_buffer_30, ho_188, Option.bind_some, r_ref] <;> rfl
theorem t_pass {v : Int32} (h : gTT u x) : gAns u x o z (lw_pass (some 0) v (some 211)) (mM_pass (some 188) v) := by
  obtain ⟨n, m, p, q, T⟩ := h
  have hn := T.hn
  have hp := T.hp
  rcases g_ob v n (by omega) with c | ⟨k, hk, rfl⟩
  · refine ⟨1, u, o, z ++ [(8, [])], 0, ((x.1, gup x.2.1 0 1, x.2.2.1, x.2.2.2.1, x.2.2.2.2.1, x.2.2.2.2.2.1, x.2.2.2.2.2.2.1, x.2.2.2.2.2.2.2.1, x.2.2.2.2.2.2.2.2.1, x.2.2.2.2.2.2.2.2.2.1, x.2.2.2.2.2.2.2.2.2.2.1, x.2.2.2.2.2.2.2.2.2.2.2.1, x.2.2.2.2.2.2.2.2.2.2.2.2.1, x.2.2.2.2.2.2.2.2.2.2.2.2.2.1, x.2.2.2.2.2.2.2.2.2.2.2.2.2.2.1, x.2.2.2.2.2.2.2.2.2.2.2.2.2.2.2) : gX), ?_, ?_, rfl, fun q => absurd q (by decide), gTT_0 ⟨n, m, p, q, T⟩, by simp⟩
    · simp only [lw_pass, ho_0, Option.bind_some, cG_pass, hr_0_0, ho_1, k_tout T.un c, if_true, hl, hthr, hexc] <;> rfl
    · simp only [mM_pass, ho_188, Option.bind_some, r_oout T.xn c, if_true, mM_pass_14, hi_188_10]
      by_cases c : x.2.1 10 = 4
      · simp only [if_pos c, mM_pass_27, ho_188, Option.bind_some, r_ref] <;> rfl
      · simp only [if_neg c, mM_pass_27, ho_188, Option.bind_some, r_ref] <;> rfl
  · by_cases hp4 : p < 4
    · have e1 : Int32.ofNat p < 4 := n_ltl (m := 4) (by omega) (by omega) hp4
      have e2 : ¬ Int32.ofNat p = 4 := fun q => by have := (n_eq (m := 4) (by omega) (by omega)).mp q; omega
      have x1 : gup x.2.1 0 0 10 = Int32.ofNat p := T.xp
      refine ⟨0, ((u.1, u.2.1, u.2.2.1, u.2.2.2.1, u.2.2.2.2.1, gup u.2.2.2.2.2.1 1 (Int32.ofNat (p + 1)), gup u.2.2.2.2.2.2.1 p (Int32.ofNat k), u.2.2.2.2.2.2.2.1, u.2.2.2.2.2.2.2.2.1, u.2.2.2.2.2.2.2.2.2.1, u.2.2.2.2.2.2.2.2.2.2.1, u.2.2.2.2.2.2.2.2.2.2.2.1, u.2.2.2.2.2.2.2.2.2.2.2.2.1, u.2.2.2.2.2.2.2.2.2.2.2.2.2.1, u.2.2.2.2.2.2.2.2.2.2.2.2.2.2) : gU), gup o 0 (Int32.toInt64 (Int32.ofNat (p + 1))), z, Int32.ofNat (p + 1), ((x.1, gup (gup x.2.1 0 0) 10 (Int32.ofNat (p + 1)), gup x.2.2.1 p (Int32.ofNat k), x.2.2.2.1, x.2.2.2.2.1, x.2.2.2.2.2.1, x.2.2.2.2.2.2.1, x.2.2.2.2.2.2.2.1, x.2.2.2.2.2.2.2.2.1, x.2.2.2.2.2.2.2.2.2.1, x.2.2.2.2.2.2.2.2.2.2.1, x.2.2.2.2.2.2.2.2.2.2.2.1, x.2.2.2.2.2.2.2.2.2.2.2.2.1, x.2.2.2.2.2.2.2.2.2.2.2.2.2.1, x.2.2.2.2.2.2.2.2.2.2.2.2.2.2.1, x.2.2.2.2.2.2.2.2.2.2.2.2.2.2.2) : gX), ?_, ?_, rfl, fun _ => rfl, ⟨n, m, p + 1, q, ?_⟩, by omega⟩
      · simp only [lw_pass, ho_0, Option.bind_some, cG_pass, hr_0_0, ho_1, k_tin T.un hn hk, reduceCtorEq, if_false, hr_0_2, ho_165, cH_appendPassed, hi_165_1, T.up, if_pos e1, hr_165_0, hb_166 hp4, n_succ, hp_165_1, gup_eq, hb0] <;> rfl
      · simp only [mM_pass, ho_188, Option.bind_some, r_oin T.xn hn hk, mM_pass_14, hi_188_10, T.xp, if_neg e2, mM_pass_27, r_ref]
        simp only [true_and, and_self, if_true, Option.bind_some, hr_188_11, hi_188_10, x1, hb_197 hp4, n_succ, hp_188_10, gup_eq] <;> rfl
      · refine ⟨T.hn, T.un, T.xn, T.ob, T.hm, T.um, T.xm, T.bs, T.b8, by omega, rfl, rfl, ?_, ?_, T.hq, T.uq, T.xq, T.ho, T.fo⟩
        · intro i hi
          show gup x.2.2.1 p _ i = gup u.2.2.2.2.2.2.1 p _ i
          by_cases c : i = p
          · subst c; rw [gup_eq, gup_eq]
          · rw [gup_ne c, gup_ne c, T.pa i (by omega)]
        · intro i hi
          show ∃ k, k < n ∧ gup u.2.2.2.2.2.2.1 p _ i = _
          by_cases c : i = p
          · subst c; rw [gup_eq]; exact ⟨k, hk, rfl⟩
          · rw [gup_ne c]; exact T.pb i (by omega)
    · obtain rfl : p = 4 := by omega
      have e3 : ¬ Int32.ofNat 4 < 4 := by decide
      refine ⟨2, u, o, z ++ [(9, [])], 0, ((x.1, gup x.2.1 0 2, x.2.2.1, x.2.2.2.1, x.2.2.2.2.1, x.2.2.2.2.2.1, x.2.2.2.2.2.2.1, x.2.2.2.2.2.2.2.1, x.2.2.2.2.2.2.2.2.1, x.2.2.2.2.2.2.2.2.2.1, x.2.2.2.2.2.2.2.2.2.2.1, x.2.2.2.2.2.2.2.2.2.2.2.1, x.2.2.2.2.2.2.2.2.2.2.2.2.1, x.2.2.2.2.2.2.2.2.2.2.2.2.2.1, x.2.2.2.2.2.2.2.2.2.2.2.2.2.2.1, x.2.2.2.2.2.2.2.2.2.2.2.2.2.2.2) : gX), ?_, ?_, rfl, fun q => absurd q (by decide), gTT_0 ⟨n, m, 4, q, T⟩, by simp⟩
      · simp only [lw_pass, ho_0, Option.bind_some, cG_pass, hr_0_0, ho_1, k_tin T.un hn hk, reduceCtorEq, if_false, hr_0_2, ho_165, cH_appendPassed, hi_165_1, T.up, if_neg e3, if_true, hl, hthr, hexc] <;> rfl
      · simp only [mM_pass, ho_188, Option.bind_some, r_oin T.xn hn hk, mM_pass_14, hi_188_10, T.xp, show Int32.ofNat 4 = 4 from rfl, if_true, mM_pass_27, r_ref] <;> rfl
/-- a buffer that is detached -/
def gq_det (q : gQ) : gQ := ((q.1, q.2.1, q.2.2.1, q.2.2.2.1, gup q.2.2.2.2.1 6 1, q.2.2.2.2.2) : gQ)
def gp_det (p : gP) : gP := ((p.1, p.2.1, p.2.2.1, p.2.2.2.1, p.2.2.2.2.1, 0, 1, p.2.2.2.2.2.2.2) : gP)
theorem gO_det {n c : Nat} {q : gQ} {p : gP} (O : gO n 4 c q p) : gO n 4 c (gq_det q) (gp_det p) :=
  ⟨O.s8, O.es, O.et, O.ec, O.c8, rfl, Or.inr ⟨rfl, rfl⟩, fun h => absurd h (by show ¬ (1 : Int32) = 0; decide), fun _ => rfl, O.kE, O.kK, O.k4, O.vs, O.vv, O.kv, O.so, O.bb, fun a => by omega, O.sT⟩
theorem gT_ob {n m p q k : Nat} {q' : gQ} {p' : gP} (T : gTi n m p q u x) (h : ∃ s c, gO n s c q' p') : gTi n m p q ((gup u.1 k q', u.2.1, u.2.2.1, u.2.2.2.1, u.2.2.2.2.1, u.2.2.2.2.2.1, u.2.2.2.2.2.2.1, u.2.2.2.2.2.2.2.1, u.2.2.2.2.2.2.2.2.1, u.2.2.2.2.2.2.2.2.2.1, u.2.2.2.2.2.2.2.2.2.2.1, u.2.2.2.2.2.2.2.2.2.2.2.1, u.2.2.2.2.2.2.2.2.2.2.2.2.1, u.2.2.2.2.2.2.2.2.2.2.2.2.2.1, u.2.2.2.2.2.2.2.2.2.2.2.2.2.2) : gU) ((gup x.1 k p', x.2.1, x.2.2.1, x.2.2.2.1, x.2.2.2.2.1, x.2.2.2.2.2.1, x.2.2.2.2.2.2.1, x.2.2.2.2.2.2.2.1, x.2.2.2.2.2.2.2.2.1, x.2.2.2.2.2.2.2.2.2.1, x.2.2.2.2.2.2.2.2.2.2.1, x.2.2.2.2.2.2.2.2.2.2.2.1, x.2.2.2.2.2.2.2.2.2.2.2.2.1, x.2.2.2.2.2.2.2.2.2.2.2.2.2.1, x.2.2.2.2.2.2.2.2.2.2.2.2.2.2.1, x.2.2.2.2.2.2.2.2.2.2.2.2.2.2.2) : gX) :=
  ⟨T.hn, T.un, T.xn, gob_up T.ob h, T.hm, T.um, T.xm, T.bs, T.b8, T.hp, T.up, T.xp, T.pa, T.pb, T.hq, T.uq, T.xq, T.ho, T.fo⟩
theorem k_free {n k s c : Nat} (hu : u.2.2.1 1 = Int32.ofNat n) (hn : n ≤ 32) (hk : k < n) (O : gO n s c (u.1 k) (x.1 k)) : cS_isFreeBuffer (some 1) (Int32.ofNat k) (gH u x o z) = some (if s = 4 ∧ (u.1 k).2.2.2.2.1 6 = 0 then 1 else 0) := by
  have hk2 : k < 32 := by omega
  obtain ⟨_, _, _, _, _, _, _, e4, _⟩ := n_s6 s O.s8
  unfold cS_isFreeBuffer
  simp only [ho_1, Option.bind_some, k_tin hu hn hk, hiT_4 hk2, hiT_6 hk2, O.es, e4]
  by_cases c1 : s = 4 <;> by_cases c2 : (u.1 k).2.2.2.2.1 6 = 0 <;> simp [c1, c2]
theorem k_free0 {n : Nat} {v : Int32} (hu : u.2.2.1 1 = Int32.ofNat n) (h : v < 0 ∨ ¬ v < Int32.ofNat n) : cS_isFreeBuffer (some 1) v (gH u x o z) = some 0 := by
  unfold cS_isFreeBuffer
  simp only [ho_1, Option.bind_some, k_tout hu h, if_true]
/-- detaching, on both sides: the number may be none -/
theorem k_det {n m p q : Nat} {v : Int32} (T : gTi n m p q u x) : ∃ r u' R', cS_detachBuffer (some 1) v (gH u x o z) = some (r, gH u' x o z) ∧ (r = 0 ∨ r = 1) ∧ gTi n m p q u' ((R', x.2.1, x.2.2.1, x.2.2.2.1, x.2.2.2.2.1, x.2.2.2.2.2.1, x.2.2.2.2.2.2.1, x.2.2.2.2.2.2.2.1, x.2.2.2.2.2.2.2.2.1, x.2.2.2.2.2.2.2.2.2.1, x.2.2.2.2.2.2.2.2.2.2.1, x.2.2.2.2.2.2.2.2.2.2.2.1, x.2.2.2.2.2.2.2.2.2.2.2.2.1, x.2.2.2.2.2.2.2.2.2.2.2.2.2.1, x.2.2.2.2.2.2.2.2.2.2.2.2.2.2.1, x.2.2.2.2.2.2.2.2.2.2.2.2.2.2.2) : gX) ∧ ((r = 0 ∧ u' = u ∧ R' = x.1 ∧ ∀ y : gX, y.1 = x.1 → y.2.1 1 = x.2.1 1 → ∀ u o z, ∃ t, mM_is (some 188) v 4 (gH u y o z) = some t ∧ (t = 0 ∨ (t = 1 ∧ ∃ k, k < n ∧ v = Int32.ofNat k ∧ (y.1 k).2.2.2.2.2.2.1 = 1))) ∨ (r = 1 ∧ ∃ k, k < n ∧ v = Int32.ofNat k ∧ (x.1 k).2.2.2.2.1 = 4 ∧ (x.1 k).2.2.2.2.2.2.1 = 0 ∧ u' = ((gup u.1 k (gq_det (u.1 k)), u.2.1, u.2.2.1, u.2.2.2.1, u.2.2.2.2.1, u.2.2.2.2.2.1, u.2.2.2.2.2.2.1, u.2.2.2.2.2.2.2.1, u.2.2.2.2.2.2.2.2.1, u.2.2.2.2.2.2.2.2.2.1, u.2.2.2.2.2.2.2.2.2.2.1, u.2.2.2.2.2.2.2.2.2.2.2.1, u.2.2.2.2.2.2.2.2.2.2.2.2.1, u.2.2.2.2.2.2.2.2.2.2.2.2.2.1, u.2.2.2.2.2.2.2.2.2.2.2.2.2.2) : gU) ∧ R' = gup x.1 k (gp_det (x.1 k)))) := by
  have hn := T.hn
  rcases g_ob v n (by omega) with c | ⟨k, hk, rfl⟩
  · refine ⟨0, u, x.1, ?_, Or.inl rfl, T, Or.inl ⟨rfl, rfl, rfl, ?_⟩⟩
    · simp only [cS_detachBuffer, ho_1, Option.bind_some, k_free0 T.un c, if_true]
    · intro y hy hy2 u o z
      exact ⟨0, r_isout (hy2.trans T.xn) c, Or.inl rfl⟩
  · obtain ⟨s, c, O⟩ := T.ob k hk
    have hk2 : k < 32 := by omega
    obtain ⟨_, _, _, _, _, _, _, e4, _⟩ := n_s6 s O.s8
    by_cases c1 : s = 4 ∧ (u.1 k).2.2.2.2.1 6 = 0
    · obtain ⟨rfl, c2⟩ := c1
      refine ⟨1, ((gup u.1 k (gq_det (u.1 k)), u.2.1, u.2.2.1, u.2.2.2.1, u.2.2.2.2.1, u.2.2.2.2.2.1, u.2.2.2.2.2.2.1, u.2.2.2.2.2.2.2.1, u.2.2.2.2.2.2.2.2.1, u.2.2.2.2.2.2.2.2.2.1, u.2.2.2.2.2.2.2.2.2.2.1, u.2.2.2.2.2.2.2.2.2.2.2.1, u.2.2.2.2.2.2.2.2.2.2.2.2.1, u.2.2.2.2.2.2.2.2.2.2.2.2.2.1, u.2.2.2.2.2.2.2.2.2.2.2.2.2.2) : gU), gup x.1 k (gp_det (x.1 k)), ?_, Or.inr rfl, gT_ob T ⟨4, c, gO_det O⟩, Or.inr ⟨rfl, k, hk, rfl, O.et, O.ed.trans c2, rfl, rfl⟩⟩
      simp only [cS_detachBuffer, ho_1, Option.bind_some, k_free T.un hn hk O, c2, and_self, if_true, hr_1_0, hT hk2, hpT_6 hk2] <;> rfl
    · refine ⟨0, u, x.1, ?_, Or.inl rfl, T, Or.inl ⟨rfl, rfl, rfl, ?_⟩⟩
      · simp only [cS_detachBuffer, ho_1, Option.bind_some, k_free T.un hn hk O, if_neg c1, if_true]
      · intro y hy hy2 u2 o z
        refine ⟨_, r_isin (hy2.trans T.xn) hn hk, ?_⟩
        rw [hy, O.et]
        by_cases c3 : s = 4
        · subst c3
          right
          refine ⟨by simp, k, hk, rfl, ?_⟩
          rw [O.ed]
          rcases O.d4 with h | h
          · exact absurd ⟨rfl, h⟩ c1
          · exact h.1
        · left
          rw [if_neg (fun q => c3 (e4.mp q))]
theorem r_detNow {k : Nat} (hk : k < 32) : mM_detachNow (some 188) (Int32.ofNat k) (gH u x o z) = some (gH u ((gup x.1 k (gp_det (x.1 k)), x.2.1, x.2.2.1, x.2.2.2.1, x.2.2.2.2.1, x.2.2.2.2.2.1, x.2.2.2.2.2.2.1, x.2.2.2.2.2.2.2.1, x.2.2.2.2.2.2.2.2.1, x.2.2.2.2.2.2.2.2.2.1, x.2.2.2.2.2.2.2.2.2.2.1, x.2.2.2.2.2.2.2.2.2.2.2.1, x.2.2.2.2.2.2.2.2.2.2.2.2.1, x.2.2.2.2.2.2.2.2.2.2.2.2.2.1, x.2.2.2.2.2.2.2.2.2.2.2.2.2.2.1, x.2.2.2.2.2.2.2.2.2.2.2.2.2.2.2) : gX) o z) := by
  simp only [mM_detachNow, hr_188_4, Option.bind_some, hb_191 hk, hr_188_3, hb_190 hk, gup_eq, gup_gup, show (1 : Int32) &&& 1 = 1 from rfl] <;> rfl
theorem t_detach {v : Int32} (h : gTT u x) : ∃ r u' x', cG_detach (some 0) v (gH u x o z) = some (r, gH u' x o z) ∧ mM_detach (some 188) v (gH u' x o z) = some (r, gH u' x' o z) ∧ x'.2.1 0 = 0 ∧ gTT u' x' := by
  obtain ⟨n, m, p, q, T⟩ := h
  have hn := T.hn
  obtain ⟨r, u', R', h1, h2, h3, h4⟩ := k_det (v := v) (o := o) (z := z) T
  refine ⟨r, u', ((R', gup x.2.1 0 0, x.2.2.1, x.2.2.2.1, x.2.2.2.2.1, x.2.2.2.2.2.1, x.2.2.2.2.2.2.1, x.2.2.2.2.2.2.2.1, x.2.2.2.2.2.2.2.2.1, x.2.2.2.2.2.2.2.2.2.1, x.2.2.2.2.2.2.2.2.2.2.1, x.2.2.2.2.2.2.2.2.2.2.2.1, x.2.2.2.2.2.2.2.2.2.2.2.2.1, x.2.2.2.2.2.2.2.2.2.2.2.2.2.1, x.2.2.2.2.2.2.2.2.2.2.2.2.2.2.1, x.2.2.2.2.2.2.2.2.2.2.2.2.2.2.2) : gX), ?_, ?_, rfl, gTT_0 (x := ((R', x.2.1, x.2.2.1, x.2.2.2.1, x.2.2.2.2.1, x.2.2.2.2.2.1, x.2.2.2.2.2.2.1, x.2.2.2.2.2.2.2.1, x.2.2.2.2.2.2.2.2.1, x.2.2.2.2.2.2.2.2.2.1, x.2.2.2.2.2.2.2.2.2.2.1, x.2.2.2.2.2.2.2.2.2.2.2.1, x.2.2.2.2.2.2.2.2.2.2.2.2.1, x.2.2.2.2.2.2.2.2.2.2.2.2.2.1, x.2.2.2.2.2.2.2.2.2.2.2.2.2.2.1, x.2.2.2.2.2.2.2.2.2.2.2.2.2.2.2) : gX)) ⟨n, m, p, q, h3⟩⟩
  · simp only [cG_detach, hr_0_0, Option.bind_some, ho_1, h1, h2, not_true, if_false]
  · rcases h4 with ⟨rfl, rfl, rfl, h5⟩ | ⟨rfl, k, hk, rfl, h5, h6, rfl, rfl⟩
    · obtain ⟨t, h6, h7⟩ := h5 ((x.1, gup x.2.1 0 0, x.2.2.1, x.2.2.2.1, x.2.2.2.2.1, x.2.2.2.2.2.1, x.2.2.2.2.2.2.1, x.2.2.2.2.2.2.2.1, x.2.2.2.2.2.2.2.2.1, x.2.2.2.2.2.2.2.2.2.1, x.2.2.2.2.2.2.2.2.2.2.1, x.2.2.2.2.2.2.2.2.2.2.2.1, x.2.2.2.2.2.2.2.2.2.2.2.2.1, x.2.2.2.2.2.2.2.2.2.2.2.2.2.1, x.2.2.2.2.2.2.2.2.2.2.2.2.2.2.1, x.2.2.2.2.2.2.2.2.2.2.2.2.2.2.2) : gX) rfl rfl u' o z
      simp only [mM_detach, hp_188_0, Option.bind_some, ho_188, h6]
      rcases h7 with rfl | ⟨rfl, k, hk, rfl, h8⟩
      · simp [mM_detach_27, mM_detach_28]
      · have h9 : (x.1 k).2.2.2.2.2.2.1 = 1 := h8
        simp [mM_detach_27, mM_detach_28, hr_188_4, ha_191 (k := k) (show k < 32 by omega), h9]
    · have x1 : gup x.2.1 0 0 1 = Int32.ofNat n := T.xn
      simp only [mM_detach, hp_188_0, Option.bind_some, ho_188, r_isin (x := ((x.1, gup x.2.1 0 0, x.2.2.1, x.2.2.2.1, x.2.2.2.2.1, x.2.2.2.2.2.1, x.2.2.2.2.2.2.1, x.2.2.2.2.2.2.2.1, x.2.2.2.2.2.2.2.2.1, x.2.2.2.2.2.2.2.2.2.1, x.2.2.2.2.2.2.2.2.2.2.1, x.2.2.2.2.2.2.2.2.2.2.2.1, x.2.2.2.2.2.2.2.2.2.2.2.2.1, x.2.2.2.2.2.2.2.2.2.2.2.2.2.1, x.2.2.2.2.2.2.2.2.2.2.2.2.2.2.1, x.2.2.2.2.2.2.2.2.2.2.2.2.2.2.2) : gX)) x1 hn hk, h5, if_true, hr_188_4, ha_191 (k := k) (show k < 32 by omega), h6, mM_detach_28, r_detNow (x := ((x.1, gup x.2.1 0 0, x.2.2.1, x.2.2.2.1, x.2.2.2.2.1, x.2.2.2.2.2.1, x.2.2.2.2.2.2.1, x.2.2.2.2.2.2.2.1, x.2.2.2.2.2.2.2.2.1, x.2.2.2.2.2.2.2.2.2.1, x.2.2.2.2.2.2.2.2.2.2.1, x.2.2.2.2.2.2.2.2.2.2.2.1, x.2.2.2.2.2.2.2.2.2.2.2.2.1, x.2.2.2.2.2.2.2.2.2.2.2.2.2.1, x.2.2.2.2.2.2.2.2.2.2.2.2.2.2.1, x.2.2.2.2.2.2.2.2.2.2.2.2.2.2.2) : gX)) (k := k) (show k < 32 by omega)]
      simp
theorem k_feedLoop {w : Int64} {n : Nat} (hn : n ≤ 8) : ∀ (m i c f : Nat) (u : gU), i + m = n → u.2.2.2.1 1 = Int32.ofNat c → c + m ≤ 300 → ∃ a b, cG_feed_31 (f + m + 1) (some 0) w (Int32.ofNat n) (Int32.ofNat i) (gH u x o z) = some (Int32.ofNat (c + m), gH ((u.1, u.2.1, u.2.2.1, a, b, u.2.2.2.2.2.1, u.2.2.2.2.2.2.1, u.2.2.2.2.2.2.2.1, u.2.2.2.2.2.2.2.2.1, u.2.2.2.2.2.2.2.2.2.1, u.2.2.2.2.2.2.2.2.2.2.1, u.2.2.2.2.2.2.2.2.2.2.2.1, u.2.2.2.2.2.2.2.2.2.2.2.2.1, u.2.2.2.2.2.2.2.2.2.2.2.2.2.1, u.2.2.2.2.2.2.2.2.2.2.2.2.2.2) : gU) x o z) ∧ a 1 = Int32.ofNat (c + m) ∧ ∀ j, b j = if c ≤ j ∧ j < c + m then gt_w w (i + (j - c)) else u.2.2.2.2.1 j := by
  intro m
  induction m with
  | zero =>
    intro i c f u h1 h2 h3
    refine ⟨u.2.2.2.1, u.2.2.2.2.1, ?_, h2, fun j => by rw [if_neg (by omega)]⟩
    rw [cG_feed_31, if_neg (n_nltl (by omega) (by omega) (by omega)), hr_0_1, Option.bind_some, hi_163_1, Option.bind_some, h2]
    rfl
  | succ m ih =>
    intro i c f u h1 h2 h3
    obtain ⟨a, b, h4, h5, h6⟩ := ih (i + 1) (c + 1) f ((u.1, u.2.1, u.2.2.1, gup u.2.2.2.1 1 (Int32.ofNat (c + 1)), gup u.2.2.2.2.1 c (gt_w w i), u.2.2.2.2.2.1, u.2.2.2.2.2.2.1, u.2.2.2.2.2.2.2.1, u.2.2.2.2.2.2.2.2.1, u.2.2.2.2.2.2.2.2.2.1, u.2.2.2.2.2.2.2.2.2.2.1, u.2.2.2.2.2.2.2.2.2.2.2.1, u.2.2.2.2.2.2.2.2.2.2.2.2.1, u.2.2.2.2.2.2.2.2.2.2.2.2.2.1, u.2.2.2.2.2.2.2.2.2.2.2.2.2.2) : gU) (by omega) rfl (by omega)
    refine ⟨a, b, ?_, by rw [h5]; congr 1; omega, fun j => ?_⟩
    · have e1 : Int32.ofNat c < 300 := n_ltl (m := 300) (by omega) (by omega) (by omega)
      rw [show f + (m + 1) + 1 = (f + m + 1) + 1 by omega, cG_feed_31, if_pos (n_ltl (by omega) (by omega) (by omega))]
      simp only [hr_0_1, Option.bind_some, k_byteOf, ho_163, cB_append, hi_163_1, h2, if_pos e1, hr_163_0, hb_164 (show c < 300 by omega), hp_163_1, n_succ]
      rw [h4, show c + 1 + m = c + (m + 1) by omega]
    · rw [h6 j]
      by_cases c1 : j = c
      · subst c1
        rw [if_neg (by omega), if_pos (by omega)]
        show gup u.2.2.2.2.1 j _ j = _
        rw [gup_eq, show i + (j - j) = i by omega]
      · by_cases c2 : c + 1 ≤ j ∧ j < c + 1 + m
        · rw [if_pos c2, if_pos (by omega), show i + 1 + (j - (c + 1)) = i + (j - c) by omega]
        · rw [if_neg c2, if_neg (by omega)]
          exact gup_ne c1
theorem r_feedLoop {w : Int64} {n : Nat} (hn : n ≤ 8) : ∀ (m i c f : Nat) (x : gX), i + m = n → x.2.1 15 = Int32.ofNat c → c + m ≤ 300 → ∃ a b, mM_feed_33 (f + m + 1) (some 188) w (Int32.ofNat n) (Int32.ofNat i) (gH u x o z) = some (Int32.ofNat (c + m), gH u ((x.1, a, x.2.2.1, x.2.2.2.1, x.2.2.2.2.1, b, x.2.2.2.2.2.2.1, x.2.2.2.2.2.2.2.1, x.2.2.2.2.2.2.2.2.1, x.2.2.2.2.2.2.2.2.2.1, x.2.2.2.2.2.2.2.2.2.2.1, x.2.2.2.2.2.2.2.2.2.2.2.1, x.2.2.2.2.2.2.2.2.2.2.2.2.1, x.2.2.2.2.2.2.2.2.2.2.2.2.2.1, x.2.2.2.2.2.2.2.2.2.2.2.2.2.2.1, x.2.2.2.2.2.2.2.2.2.2.2.2.2.2.2) : gX) o z) ∧ a 15 = Int32.ofNat (c + m) ∧ (∀ j, ¬ j = 15 → a j = x.2.1 j) ∧ ∀ j, b j = if c ≤ j ∧ j < c + m then gt_w w (i + (j - c)) else x.2.2.2.2.2.1 j := by
  intro m
  induction m with
  | zero =>
    intro i c f x h1 h2 h3
    refine ⟨x.2.1, x.2.2.2.2.2.1, ?_, h2, fun j _ => rfl, fun j => by rw [if_neg (by omega)]⟩
    rw [mM_feed_33, if_neg (n_nltl (by omega) (by omega) (by omega)), hi_188_15, Option.bind_some, h2]
    rfl
  | succ m ih =>
    intro i c f x h1 h2 h3
    obtain ⟨a, b, h4, h5, h7, h6⟩ := ih (i + 1) (c + 1) f ((x.1, gup x.2.1 15 (Int32.ofNat (c + 1)), x.2.2.1, x.2.2.2.1, x.2.2.2.2.1, gup x.2.2.2.2.2.1 c (gt_w w i), x.2.2.2.2.2.2.1, x.2.2.2.2.2.2.2.1, x.2.2.2.2.2.2.2.2.1, x.2.2.2.2.2.2.2.2.2.1, x.2.2.2.2.2.2.2.2.2.2.1, x.2.2.2.2.2.2.2.2.2.2.2.1, x.2.2.2.2.2.2.2.2.2.2.2.2.1, x.2.2.2.2.2.2.2.2.2.2.2.2.2.1, x.2.2.2.2.2.2.2.2.2.2.2.2.2.2.1, x.2.2.2.2.2.2.2.2.2.2.2.2.2.2.2) : gX) (by omega) rfl (by omega)
    refine ⟨a, b, ?_, by rw [h5]; congr 1; omega, fun j hj => (h7 j hj).trans (gup_ne hj), fun j => ?_⟩
    · rw [show f + (m + 1) + 1 = (f + m + 1) + 1 by omega, mM_feed_33, if_pos (n_ltl (by omega) (by omega) (by omega))]
      simp only [hr_188_16, Option.bind_some, hi_188_15, h2, gt_r (w := w) (i := i) (by omega), hb_200 (show c < 300 by omega), hp_188_15, n_succ]
      rw [h4, show c + 1 + m = c + (m + 1) by omega]
    · rw [h6 j]
      by_cases c1 : j = c
      · subst c1
        rw [if_neg (by omega), if_pos (by omega)]
        show gup x.2.2.2.2.2.1 j _ j = _
        rw [gup_eq, show i + (j - j) = i by omega]
      · by_cases c2 : c + 1 ≤ j ∧ j < c + 1 + m
        · rw [if_pos c2, if_pos (by omega), show i + 1 + (j - (c + 1)) = i + (j - c) by omega]
        · rw [if_neg c2, if_neg (by omega)]
          exact gup_ne c1
theorem t_feed {w : Int64} {v : Int32} (h : gTT u x) : ∃ r u' x', cG_feed (some 0) w v (gH u x o z) = some (r, gH u' x o z) ∧ mM_feed (some 188) w v (gH u' x o z) = some (r, gH u' x' o z) ∧ x'.2.1 0 = 0 ∧ gTT u' x' := by
  obtain ⟨n, m, p, q, T⟩ := h
  have hm := T.hm
  have x1 : gup x.2.1 0 0 15 = Int32.ofNat m := T.xm
  by_cases g1 : v < 1
  · exact ⟨-1, u, ((x.1, gup x.2.1 0 0, x.2.2.1, x.2.2.2.1, x.2.2.2.2.1, x.2.2.2.2.2.1, x.2.2.2.2.2.2.1, x.2.2.2.2.2.2.2.1, x.2.2.2.2.2.2.2.2.1, x.2.2.2.2.2.2.2.2.2.1, x.2.2.2.2.2.2.2.2.2.2.1, x.2.2.2.2.2.2.2.2.2.2.2.1, x.2.2.2.2.2.2.2.2.2.2.2.2.1, x.2.2.2.2.2.2.2.2.2.2.2.2.2.1, x.2.2.2.2.2.2.2.2.2.2.2.2.2.2.1, x.2.2.2.2.2.2.2.2.2.2.2.2.2.2.2) : gX), by simp only [cG_feed, if_pos g1], by simp only [mM_feed, hp_188_0, Option.bind_some, if_pos g1], rfl, gTT_0 ⟨n, m, p, q, T⟩⟩
  · by_cases g2 : 8 < v
    · exact ⟨-1, u, ((x.1, gup x.2.1 0 0, x.2.2.1, x.2.2.2.1, x.2.2.2.2.1, x.2.2.2.2.2.1, x.2.2.2.2.2.2.1, x.2.2.2.2.2.2.2.1, x.2.2.2.2.2.2.2.2.1, x.2.2.2.2.2.2.2.2.2.1, x.2.2.2.2.2.2.2.2.2.2.1, x.2.2.2.2.2.2.2.2.2.2.2.1, x.2.2.2.2.2.2.2.2.2.2.2.2.1, x.2.2.2.2.2.2.2.2.2.2.2.2.2.1, x.2.2.2.2.2.2.2.2.2.2.2.2.2.2.1, x.2.2.2.2.2.2.2.2.2.2.2.2.2.2.2) : gX), by simp only [cG_feed, if_neg g1, if_pos g2], by simp only [mM_feed, hp_188_0, Option.bind_some, if_neg g1, if_pos g2], rfl, gTT_0 ⟨n, m, p, q, T⟩⟩
    · have g0 : ¬ v < 0 := by
        rw [Int32.lt_iff_toInt_lt] at g1 ⊢
        have a1 : (1 : Int32).toInt = 1 := rfl
        have a0 : (0 : Int32).toInt = 0 := rfl
        omega
      obtain ⟨c, hc, rfl⟩ := n_le (m := 8) g0 g2 (by omega)
      by_cases g3 : 300 < m + c
      · have g4 : (300 : Int32) < Int32.ofNat m + Int32.ofNat c := by rw [n_add]; exact n_ltl (n := 300) (by omega) (by omega) g3
        exact ⟨-1, u, ((x.1, gup x.2.1 0 0, x.2.2.1, x.2.2.2.1, x.2.2.2.2.1, x.2.2.2.2.2.1, x.2.2.2.2.2.2.1, x.2.2.2.2.2.2.2.1, x.2.2.2.2.2.2.2.2.1, x.2.2.2.2.2.2.2.2.2.1, x.2.2.2.2.2.2.2.2.2.2.1, x.2.2.2.2.2.2.2.2.2.2.2.1, x.2.2.2.2.2.2.2.2.2.2.2.2.1, x.2.2.2.2.2.2.2.2.2.2.2.2.2.1, x.2.2.2.2.2.2.2.2.2.2.2.2.2.2.1, x.2.2.2.2.2.2.2.2.2.2.2.2.2.2.2) : gX), by simp only [cG_feed, if_neg g1, if_neg g2, hr_0_1, Option.bind_some, hi_163_1, T.um, if_pos g4], by simp only [mM_feed, hp_188_0, Option.bind_some, if_neg g1, if_neg g2, hi_188_15, x1, if_pos g4], rfl, gTT_0 ⟨n, m, p, q, T⟩⟩
      · have g4 : ¬ (300 : Int32) < Int32.ofNat m + Int32.ofNat c := by rw [n_add]; exact n_nltl (m := m + c) (n := 300) (by omega) (by omega) (by omega)
        obtain ⟨a, b, h1, h2, h3⟩ := k_feedLoop (x := x) (o := o) (z := z) (w := w) hc c 0 m (1000000000000000 - c - 1) u (by omega) T.um (by omega)
        obtain ⟨a2, b2, h4, h5, h6, h7⟩ := r_feedLoop (u := ((u.1, u.2.1, u.2.2.1, a, b, u.2.2.2.2.2.1, u.2.2.2.2.2.2.1, u.2.2.2.2.2.2.2.1, u.2.2.2.2.2.2.2.2.1, u.2.2.2.2.2.2.2.2.2.1, u.2.2.2.2.2.2.2.2.2.2.1, u.2.2.2.2.2.2.2.2.2.2.2.1, u.2.2.2.2.2.2.2.2.2.2.2.2.1, u.2.2.2.2.2.2.2.2.2.2.2.2.2.1, u.2.2.2.2.2.2.2.2.2.2.2.2.2.2) : gU)) (o := o) (z := z) (w := w) hc c 0 m (1000000000000000 - c - 1) ((x.1, gup x.2.1 0 0, x.2.2.1, x.2.2.2.1, x.2.2.2.2.1, x.2.2.2.2.2.1, x.2.2.2.2.2.2.1, x.2.2.2.2.2.2.2.1, x.2.2.2.2.2.2.2.2.1, x.2.2.2.2.2.2.2.2.2.1, x.2.2.2.2.2.2.2.2.2.2.1, x.2.2.2.2.2.2.2.2.2.2.2.1, x.2.2.2.2.2.2.2.2.2.2.2.2.1, x.2.2.2.2.2.2.2.2.2.2.2.2.2.1, x.2.2.2.2.2.2.2.2.2.2.2.2.2.2.1, x.2.2.2.2.2.2.2.2.2.2.2.2.2.2.2) : gX) (by omega) T.xm (by omega)
        rw [show 1000000000000000 - c - 1 + c + 1 = 1000000000000000 by omega] at h1 h4
        refine ⟨Int32.ofNat (m + c), ((u.1, u.2.1, u.2.2.1, a, b, u.2.2.2.2.2.1, u.2.2.2.2.2.2.1, u.2.2.2.2.2.2.2.1, u.2.2.2.2.2.2.2.2.1, u.2.2.2.2.2.2.2.2.2.1, u.2.2.2.2.2.2.2.2.2.2.1, u.2.2.2.2.2.2.2.2.2.2.2.1, u.2.2.2.2.2.2.2.2.2.2.2.2.1, u.2.2.2.2.2.2.2.2.2.2.2.2.2.1, u.2.2.2.2.2.2.2.2.2.2.2.2.2.2) : gU), ((x.1, a2, x.2.2.1, x.2.2.2.1, x.2.2.2.2.1, b2, x.2.2.2.2.2.2.1, x.2.2.2.2.2.2.2.1, x.2.2.2.2.2.2.2.2.1, x.2.2.2.2.2.2.2.2.2.1, x.2.2.2.2.2.2.2.2.2.2.1, x.2.2.2.2.2.2.2.2.2.2.2.1, x.2.2.2.2.2.2.2.2.2.2.2.2.1, x.2.2.2.2.2.2.2.2.2.2.2.2.2.1, x.2.2.2.2.2.2.2.2.2.2.2.2.2.2.1, x.2.2.2.2.2.2.2.2.2.2.2.2.2.2.2) : gX), ?_, ?_, ?_, n, m + c, p, q, ?_⟩
        · simp only [cG_feed, if_neg g1, if_neg g2, hr_0_1, Option.bind_some, hi_163_1, T.um, if_neg g4]
          exact h1
        · simp only [mM_feed, hp_188_0, Option.bind_some, if_neg g1, if_neg g2, hi_188_15, x1, if_neg g4]
          exact h4
        · exact (h6 0 (by omega)).trans rfl
        · have f : ∀ j, ¬ j = 15 → ¬ j = 0 → a2 j = x.2.1 j := fun j h8 h9 => (h6 j h8).trans (gup_ne h9)
          refine ⟨T.hn, T.un, (f 1 (by omega) (by omega)).trans T.xn, T.ob, by omega, h2, h5, ?_, ?_, T.hp, T.up, (f 10 (by omega) (by omega)).trans T.xp, T.pa, T.pb, T.hq, T.uq, (f 12 (by omega) (by omega)).trans T.xq, T.ho, T.fo.trans (f 17 (by omega) (by omega)).symm⟩
          · intro j hj
            show b2 j = b j
            rw [h7 j, h3 j]
            by_cases c1 : m ≤ j ∧ j < m + c
            · rw [if_pos c1, if_pos c1]
            · rw [if_neg c1, if_neg c1]; exact T.bs j (by omega)
          · intro j hj
            show ∃ t, t < 256 ∧ b j = _
            rw [h3 j]
            by_cases c1 : m ≤ j ∧ j < m + c
            · rw [if_pos c1]; exact gt_w8 _ _
            · rw [if_neg c1]; exact T.b8 j (by omega)
end H
end
section
/-! view and get -/
theorem n_81 {k : Nat} : (8 : Int32) * Int32.ofNat k + 1 = Int32.ofNat (8 * k + 1) := n_8 (i := 1)
theorem n_82 {k : Nat} : (8 : Int32) * Int32.ofNat k + 2 = Int32.ofNat (8 * k + 2) := n_8 (i := 2)
theorem n_83 {k : Nat} : (8 : Int32) * Int32.ofNat k + 3 = Int32.ofNat (8 * k + 3) := n_8 (i := 3)
theorem n_8a1 {k : Nat} : Int32.ofNat (8 * k + 0) + 1 = Int32.ofNat (8 * k + 1) := n_add (a := 8 * k + 0) (b := 1)
theorem n_8a2 {k : Nat} : Int32.ofNat (8 * k + 0) + 2 = Int32.ofNat (8 * k + 2) := n_add (a := 8 * k + 0) (b := 2)
theorem n_8a3 {k : Nat} : Int32.ofNat (8 * k + 0) + 3 = Int32.ofNat (8 * k + 3) := n_add (a := 8 * k + 0) (b := 3)
theorem cv_key {fr co un : Int32} {c : Nat} {U : Int} (hU : un.toInt = U) (hUU : U = 1 ∨ U = 2 ∨ U = 4) (hc : c ≤ 8) (f0 : ¬ fr < 0) (g0 : ¬ co < 0) : (Int32.toInt64 (Int32.ofNat c) < Int32.toInt64 fr + Int32.toInt64 un * Int32.toInt64 co) ↔ (Int32.ofNat c < fr ∨ Int32.ofNat c < co ∨ Int32.ofNat c < fr + un * co) := by
  have f1 := n_nn0.mp f0
  have g1 := n_nn0.mp g0
  have f2 := Int32.toInt_lt fr
  have g2 := Int32.toInt_lt co
  rw [Int64.lt_iff_toInt_lt, Int32.lt_iff_toInt_lt, Int32.lt_iff_toInt_lt, Int32.lt_iff_toInt_lt, Int64.toInt_add, Int64.toInt_mul, Int32.toInt_add, Int32.toInt_mul, Int32.toInt_toInt64, Int32.toInt_toInt64, Int32.toInt_toInt64, Int32.toInt_toInt64, Int32.toInt_ofNat_of_lt (by omega), hU]
  clear hU f0 g0
  generalize fr.toInt = F at *
  generalize co.toInt = G at *
  have b1 : (U * G).bmod (2 ^ 64) = U * G := by
    rcases hUU with rfl | rfl | rfl <;> exact Int.bmod_eq_of_le_mul_two (by omega) (by omega)
  have b2 : (F + U * G).bmod (2 ^ 64) = F + U * G := by
    rcases hUU with rfl | rfl | rfl <;> exact Int.bmod_eq_of_le_mul_two (by omega) (by omega)
  rw [b1, b2]
  by_cases a1 : F ≤ c
  · by_cases a2 : G ≤ c
    · have b3 : (U * G).bmod (2 ^ 32) = U * G := by
        rcases hUU with rfl | rfl | rfl <;> exact Int.bmod_eq_of_le_mul_two (by omega) (by omega)
      have b4 : (F + U * G).bmod (2 ^ 32) = F + U * G := by
        rcases hUU with rfl | rfl | rfl <;> exact Int.bmod_eq_of_le_mul_two (by omega) (by omega)
      rw [b3, b4]
      omega
    · constructor
      · intro _; omega
      · intro _; rcases hUU with rfl | rfl | rfl <;> omega
  · constructor
    · intro _; omega
    · intro _; rcases hUU with rfl | rfl | rfl <;> omega
/-- may it be viewed, as the class asks -/
def gcv (un fr co ct : Int32) : Option Int32 := if fr < 0 then some 0 else if un = 0 then none else if (fr - fr / un * un) = 0 then (if co < 0 then some 0 else if (Int32.toInt64 ct) < ((Int32.toInt64 fr) + ((Int32.toInt64 un) * (Int32.toInt64 co))) then some 0 else some 1) else some 0
theorem cv_eq {un fr co : Int32} {c : Nat} (hun : un = 1 ∨ un = 2 ∨ un = 4) (hc : c ≤ 8) : ∃ r, (r = 0 ∨ r = 1) ∧ gcv un fr co (Int32.ofNat c) = some r ∧ mM_lies un fr co (Int32.ofNat c) = some r ∧ (r = 1 → ∃ a b, a ≤ 8 ∧ b ≤ 8 ∧ fr = Int32.ofNat a ∧ co = Int32.ofNat b) := by
  have hu : mM_isUnit un = some 1 := by rcases hun with rfl | rfl | rfl <;> rfl
  have h0 : ¬ un = 0 := by rcases hun with rfl | rfl | rfl <;> decide
  have hU : ∃ U, un.toInt = U ∧ (U = 1 ∨ U = 2 ∨ U = 4) := by
    rcases hun with rfl | rfl | rfl
    · exact ⟨1, rfl, Or.inl rfl⟩
    · exact ⟨2, rfl, Or.inr (Or.inl rfl)⟩
    · exact ⟨4, rfl, Or.inr (Or.inr rfl)⟩
  obtain ⟨U, hU1, hU2⟩ := hU
  have h1 : ¬ (1 : Int32) = 0 := by decide
  unfold gcv mM_lies
  rw [hu, Option.bind_some, if_neg h1]
  by_cases f0 : fr < 0
  · exact ⟨0, Or.inl rfl, by rw [if_pos f0], by rw [if_pos f0], fun q => absurd q (by decide)⟩
  rw [if_neg f0, if_neg f0, if_neg h0]
  by_cases rm : (fr - fr / un * un) = 0
  · by_cases g0 : co < 0
    · refine ⟨0, Or.inl rfl, by rw [if_pos rm, if_pos g0], ?_, fun q => absurd q (by decide)⟩
      by_cases b1 : Int32.ofNat c < fr
      · rw [if_pos b1]
      · rw [if_neg b1, if_neg h0, if_pos rm, if_pos g0]
    · have key := cv_key hU1 hU2 hc f0 g0
      rw [if_pos rm, if_neg g0]
      by_cases big : Int32.toInt64 (Int32.ofNat c) < Int32.toInt64 fr + Int32.toInt64 un * Int32.toInt64 co
      · refine ⟨0, Or.inl rfl, by rw [if_pos big], ?_, fun q => absurd q (by decide)⟩
        have k2 := key.mp big
        by_cases b1 : Int32.ofNat c < fr
        · rw [if_pos b1]
        · rw [if_neg b1, if_neg h0, if_pos rm, if_neg g0]
          by_cases b2 : Int32.ofNat c < co
          · rw [if_pos b2]
          · rw [if_neg b2]
            rcases k2 with k | k | k
            · exact absurd k b1
            · exact absurd k b2
            · rw [if_pos k]
      · have b1 : ¬ Int32.ofNat c < fr := fun q => big (key.mpr (Or.inl q))
        have b2 : ¬ Int32.ofNat c < co := fun q => big (key.mpr (Or.inr (Or.inl q)))
        have b3 : ¬ Int32.ofNat c < fr + un * co := fun q => big (key.mpr (Or.inr (Or.inr q)))
        refine ⟨1, Or.inr rfl, by rw [if_neg big], by rw [if_neg b1, if_neg h0, if_pos rm, if_neg g0, if_neg b2, if_neg b3], fun _ => ?_⟩
        obtain ⟨a, a1, a2⟩ := n_le f0 b1 (by omega)
        obtain ⟨b, b1, b2⟩ := n_le g0 b2 (by omega)
        exact ⟨a, b, by omega, by omega, a2, b2⟩
  · refine ⟨0, Or.inl rfl, by rw [if_neg rm], ?_, fun q => absurd q (by decide)⟩
    by_cases b1 : Int32.ofNat c < fr
    · rw [if_pos b1]
    · rw [if_neg b1, if_neg h0, if_neg rm]
section H
variable {u : gU} {x : gX} {o : Nat → Int64} {z : gx_H}
/-- both sides agree whether a view lies in an object -/
theorem cv_ob {n k s c : Nat} {un fr co : Int32} (hk : k < 32) (O : gO n s c (u.1 k) (x.1 k)) : ∃ r, (r = 0 ∨ r = 1) ∧ cT_canBeViewed (some (3 + 5 * k)) un fr co (gH u x o z) = some r ∧ (r = 1 → s = 4 ∧ (u.1 k).2.2.2.2.1 6 = 0 ∧ (un = 1 ∨ un = 2 ∨ un = 4) ∧ ∃ a b, a ≤ 8 ∧ b ≤ 8 ∧ fr = Int32.ofNat a ∧ co = Int32.ofNat b) ∧ (s = 4 → (u.1 k).2.2.2.2.1 6 = 0 → mM_lies un fr co (x.1 k).2.2.2.2.2.1 = some r) ∧ (¬ (s = 4 ∧ (u.1 k).2.2.2.2.1 6 = 0) → r = 0) := by
  obtain ⟨_, _, _, _, _, _, _, e4, _⟩ := n_s6 s O.s8
  have e34 : cT_canBeViewed_34 (some (3 + 5 * k)) un fr co (gH u x o z) = gcv un fr co ((u.1 k).2.2.2.2.1 5) := by
    unfold cT_canBeViewed_34 gcv
    simp only [hiT_5 hk, Option.bind_some]
  by_cases c1 : s = 4
  · by_cases c2 : (u.1 k).2.2.2.2.1 6 = 0
    · by_cases hun : un = 1 ∨ un = 2 ∨ un = 4
      · obtain ⟨r, r1, r2, r3, r4⟩ := cv_eq (fr := fr) (co := co) (c := c) hun (by have := O.c8; rw [c1] at this; exact this)
        refine ⟨r, r1, ?_, fun h => ⟨c1, c2, hun, r4 h⟩, fun _ _ => by rw [O.ep c2]; exact r3, fun h => absurd ⟨c1, c2⟩ h⟩
        unfold cT_canBeViewed
        simp only [hiT_4 hk, hiT_6 hk, Option.bind_some, O.es, e4, c1, c2, if_true, e34, O.ec, r2]
        rcases hun with rfl | rfl | rfl <;> rfl
      · have h1 : ¬ un = 1 := fun q => hun (Or.inl q)
        have h2 : ¬ un = 2 := fun q => hun (Or.inr (Or.inl q))
        have h4 : ¬ un = 4 := fun q => hun (Or.inr (Or.inr q))
        refine ⟨0, Or.inl rfl, ?_, fun h => absurd h (by decide), fun _ _ => ?_, fun _ => rfl⟩
        · unfold cT_canBeViewed
          simp only [hiT_4 hk, hiT_6 hk, Option.bind_some, O.es, e4, c1, c2, if_true, if_neg h1, if_neg h2, if_neg h4] <;> rfl
        · unfold mM_lies mM_isUnit
          simp only [if_neg h1, if_neg h2, if_neg h4, Option.bind_some, if_true]
    · refine ⟨0, Or.inl rfl, ?_, fun h => absurd h (by decide), fun _ h => absurd h c2, fun _ => rfl⟩
      unfold cT_canBeViewed
      simp only [hiT_4 hk, hiT_6 hk, Option.bind_some, O.es, e4, c1, if_true, if_neg c2] <;> rfl
  · refine ⟨0, Or.inl rfl, ?_, fun h => absurd h (by decide), fun h => absurd h c1, fun _ => rfl⟩
    unfold cT_canBeViewed
    simp only [hiT_4 hk, Option.bind_some, O.es, e4, if_neg c1]
theorem r_view0 {b un fr co : Int32} : mM_view_38 (some 188) b un fr co (gH u x o z) = some (0, gH u ((x.1, gup x.2.1 0 1, x.2.2.1, x.2.2.2.1, x.2.2.2.2.1, x.2.2.2.2.2.1, x.2.2.2.2.2.2.1, x.2.2.2.2.2.2.2.1, x.2.2.2.2.2.2.2.2.1, x.2.2.2.2.2.2.2.2.2.1, x.2.2.2.2.2.2.2.2.2.2.1, x.2.2.2.2.2.2.2.2.2.2.2.1, x.2.2.2.2.2.2.2.2.2.2.2.2.1, x.2.2.2.2.2.2.2.2.2.2.2.2.2.1, x.2.2.2.2.2.2.2.2.2.2.2.2.2.2.1, x.2.2.2.2.2.2.2.2.2.2.2.2.2.2.2) : gX) o z) := by
  simp only [mM_view_38, mM_view_39, if_true, mM_view_52, hi_188_1, Option.bind_some]
  by_cases c : x.2.1 1 = 32
  · simp only [if_pos c, mM_view_66, ho_188, Option.bind_some, r_ref] <;> rfl
  · simp only [if_neg c, mM_view_66, ho_188, Option.bind_some, r_ref] <;> rfl
theorem r_setView {k : Nat} {b un fr co : Int32} (hk : k < 32) : mM_setView (some 188) (Int32.ofNat k) b un fr co (gH u x o z) = some (gH u ((gup x.1 k (((x.1 k).1, (x.1 k).2.1, (x.1 k).2.2.1, gup (gup (gup (gup (x.1 k).2.2.2.1 0 b) 1 un) 2 fr) 3 co, (x.1 k).2.2.2.2.1, co, (x.1 k).2.2.2.2.2.2.1, (x.1 k).2.2.2.2.2.2.2) : gP), x.2.1, x.2.2.1, x.2.2.2.1, x.2.2.2.2.1, x.2.2.2.2.2.1, x.2.2.2.2.2.2.1, x.2.2.2.2.2.2.2.1, x.2.2.2.2.2.2.2.2.1, x.2.2.2.2.2.2.2.2.2.1, x.2.2.2.2.2.2.2.2.2.2.1, x.2.2.2.2.2.2.2.2.2.2.2.1, x.2.2.2.2.2.2.2.2.2.2.2.2.1, x.2.2.2.2.2.2.2.2.2.2.2.2.2.1, x.2.2.2.2.2.2.2.2.2.2.2.2.2.2.1, x.2.2.2.2.2.2.2.2.2.2.2.2.2.2.2) : gX) o z) := by
  simp only [mM_setView, hr_188_3, hr_188_9, Option.bind_some, hb_190 hk, n_8a1, n_8a2, n_8a3, show (8 : Int32) * Int32.ofNat k = Int32.ofNat (8 * k + 0) from n_80, hb_196 (i := 0) hk (by omega), hb_196 (i := 1) hk (by omega), hb_196 (i := 2) hk (by omega), hb_196 (i := 3) hk (by omega), gup_eq, gup_gup]
def gq_view (q : gQ) (b un fr co : Int32) : gQ := ((q.1, q.2.1, q.2.2.1, q.2.2.2.1, gup (gup (gup (gup q.2.2.2.2.1 7 b) 8 un) 9 fr) 5 co, q.2.2.2.2.2) : gQ)
def gp_view (p : gP) (b un fr co : Int32) : gP := ((p.1, p.2.1, p.2.2.1, gup (gup (gup (gup p.2.2.2.1 0 b) 1 un) 2 fr) 3 co, p.2.2.2.2.1, co, p.2.2.2.2.2.2.1, p.2.2.2.2.2.2.2) : gP)
theorem gO_view {n k a b : Nat} {q : gQ} {p : gP} {un : Int32} (hk : k < n) (ha : a ≤ 8) (hb : b ≤ 8) (hun : un = 1 ∨ un = 2 ∨ un = 4) : gO n 5 b (gq_view (gq_new q 5) (Int32.ofNat k) un (Int32.ofNat a) (Int32.ofNat b)) (gp_view (gp_new p 5) (Int32.ofNat k) un (Int32.ofNat a) (Int32.ofNat b)) :=
  ⟨by omega, rfl, rfl, rfl, hb, rfl, Or.inl rfl, fun _ => rfl, fun h => absurd rfl h, fun a => by omega, fun a => by omega, fun a => by omega, fun a => by omega, fun a => by omega, fun a => by omega, fun a => by omega, fun a => by omega, fun _ => ⟨rfl, rfl, rfl, rfl, ⟨k, hk, rfl⟩, (by
    rcases hun with rfl | rfl | rfl
    · exact ⟨1, by omega, rfl⟩
    · exact ⟨2, by omega, rfl⟩
    · exact ⟨4, by omega, rfl⟩), ⟨a, ha, rfl⟩⟩, fun a => by omega⟩
theorem k_lookAt {k : Nat} {b un fr co : Int32} (hk : k < 32) : cT_lookAt (some (3 + 5 * k)) b un fr co (gH u x o z) = some (gH ((gup u.1 k (gq_view (u.1 k) b un fr co), u.2.1, u.2.2.1, u.2.2.2.1, u.2.2.2.2.1, u.2.2.2.2.2.1, u.2.2.2.2.2.2.1, u.2.2.2.2.2.2.2.1, u.2.2.2.2.2.2.2.2.1, u.2.2.2.2.2.2.2.2.2.1, u.2.2.2.2.2.2.2.2.2.2.1, u.2.2.2.2.2.2.2.2.2.2.2.1, u.2.2.2.2.2.2.2.2.2.2.2.2.1, u.2.2.2.2.2.2.2.2.2.2.2.2.2.1, u.2.2.2.2.2.2.2.2.2.2.2.2.2.2) : gU) x o z) := by
  simp only [cT_lookAt, hpT_7 hk, hpT_8 hk, hpT_9 hk, hpT_5 hk, Option.bind_some, gup_eq, gup_gup] <;> rfl
theorem t_view {b un fr co : Int32} (h : gTT u x) : gAns u x o z (lw_view (some 0) b un fr co (some 211)) (mM_view (some 188) b un fr co) := by
  obtain ⟨n, m, p, q, T⟩ := h
  have hn := T.hn
  rcases g_ob b n (by omega) with c | ⟨k, hk, rfl⟩
  · refine ⟨1, u, o, z ++ [(8, [])], 0, ((x.1, gup x.2.1 0 1, x.2.2.1, x.2.2.2.1, x.2.2.2.2.1, x.2.2.2.2.2.1, x.2.2.2.2.2.2.1, x.2.2.2.2.2.2.2.1, x.2.2.2.2.2.2.2.2.1, x.2.2.2.2.2.2.2.2.2.1, x.2.2.2.2.2.2.2.2.2.2.1, x.2.2.2.2.2.2.2.2.2.2.2.1, x.2.2.2.2.2.2.2.2.2.2.2.2.1, x.2.2.2.2.2.2.2.2.2.2.2.2.2.1, x.2.2.2.2.2.2.2.2.2.2.2.2.2.2.1, x.2.2.2.2.2.2.2.2.2.2.2.2.2.2.2) : gX), ?_, ?_, rfl, fun q => absurd q (by decide), gTT_0 ⟨n, m, p, q, T⟩, by simp⟩
    · simp only [lw_view, ho_0, Option.bind_some, cG_view, hr_0_0, ho_1, k_tout T.un c, if_true, cG_view_27, hl, hthr, hexc] <;> rfl
    · simp only [mM_view, ho_188, Option.bind_some, r_isout T.xn c, if_true, r_view0]
  · obtain ⟨s, c, O⟩ := T.ob k hk
    have hk2 : k < 32 := by omega
    obtain ⟨_, _, _, _, _, _, _, e4, _⟩ := n_s6 s O.s8
    obtain ⟨r, r1, r2, r3, r4, r5⟩ := cv_ob (o := o) (z := z) (un := un) (fr := fr) (co := co) hk2 O
    have no : r = 0 → gAns u x o z (lw_view (some 0) (Int32.ofNat k) un fr co (some 211)) (mM_view (some 188) (Int32.ofNat k) un fr co) := by
      intro h0
      subst h0
      refine ⟨1, u, o, z ++ [(8, [])], 0, ((x.1, gup x.2.1 0 1, x.2.2.1, x.2.2.2.1, x.2.2.2.2.1, x.2.2.2.2.2.1, x.2.2.2.2.2.2.1, x.2.2.2.2.2.2.2.1, x.2.2.2.2.2.2.2.2.1, x.2.2.2.2.2.2.2.2.2.1, x.2.2.2.2.2.2.2.2.2.2.1, x.2.2.2.2.2.2.2.2.2.2.2.1, x.2.2.2.2.2.2.2.2.2.2.2.2.1, x.2.2.2.2.2.2.2.2.2.2.2.2.2.1, x.2.2.2.2.2.2.2.2.2.2.2.2.2.2.1, x.2.2.2.2.2.2.2.2.2.2.2.2.2.2.2) : gX), ?_, ?_, rfl, fun q => absurd q (by decide), gTT_0 ⟨n, m, p, q, T⟩, by simp⟩
      · simp only [lw_view, ho_0, Option.bind_some, cG_view, hr_0_0, ho_1, k_tin T.un hn hk, reduceCtorEq, if_false, ho_T hk2, r2, if_true, cG_view_27, hl, hthr, hexc] <;> rfl
      · simp only [mM_view, ho_188, Option.bind_some, r_isin T.xn hn hk, O.et, e4]
        by_cases c1 : s = 4
        · simp only [if_pos c1, hr_188_4, ha_191 hk2, Option.bind_some, O.ed]
          by_cases c2 : (u.1 k).2.2.2.2.1 6 = 0
          · simp only [if_pos c2, hr_188_3, ha_190 hk2, Option.bind_some, r4 c1 c2, if_true, r_view0] <;> rfl
          · simp only [if_neg c2, r_view0] <;> rfl
        · simp only [if_neg c1, if_true, r_view0]
    rcases r1 with h0 | h1
    · exact no h0
    · subst h1
      obtain ⟨c1, c2, hun, a, b, ha, hb, rfl, rfl⟩ := r3 rfl
      by_cases hn32 : n < 32
      · refine ⟨0, _, gup o 0 (Int32.toInt64 (Int32.ofNat n)), z, Int32.ofNat n, _, ?_, ?_, ?_, ?_, ⟨n + 1, m, p, q, gT_new T hn32 ⟨5, b, gO_view (q := u.1 n) (p := x.1 n) (k := k) (by omega) ha hb hun⟩⟩, by omega⟩
        · simp only [lw_view, ho_0, Option.bind_some, cG_view, hr_0_0, ho_1, k_tin T.un hn hk, reduceCtorEq, if_false, ho_T hk2, r2, k_bor T.un hn32, hr_1_0, hT hn32, ho_T hn32, k_lookAt hn32, gup_eq, gup_gup, hb0] <;> rfl
        · simp only [mM_view, ho_188, Option.bind_some, r_isin T.xn hn hk, O.et, e4, if_pos c1, hr_188_4, ha_191 hk2, O.ed, if_pos c2, hr_188_3, ha_190 hk2, r4 c1 c2]
          simp only [show ¬ (1 : Int32) = 0 by decide, if_false, mM_view_39, mM_view_52, hi_188_1, Option.bind_some, T.xn, if_neg (n_32 hn32), mM_view_66, ho_188, r_ref]
          simp only [true_and, and_self, if_true, r_fresh (x := ((x.1, gup x.2.1 0 0, x.2.2.1, x.2.2.2.1, x.2.2.2.2.1, x.2.2.2.2.2.1, x.2.2.2.2.2.2.1, x.2.2.2.2.2.2.2.1, x.2.2.2.2.2.2.2.2.1, x.2.2.2.2.2.2.2.2.2.1, x.2.2.2.2.2.2.2.2.2.2.1, x.2.2.2.2.2.2.2.2.2.2.2.1, x.2.2.2.2.2.2.2.2.2.2.2.2.1, x.2.2.2.2.2.2.2.2.2.2.2.2.2.1, x.2.2.2.2.2.2.2.2.2.2.2.2.2.2.1, x.2.2.2.2.2.2.2.2.2.2.2.2.2.2.2) : gX)) (n := n) T.xn hn32, Option.bind_some, ho_188, r_setView hn32, gup_eq, gup_gup] <;> rfl
        · rfl
        · intro _; rfl
      · obtain rfl : n = 32 := by omega
        refine ⟨2, u, o, z ++ [(9, [])], 0, ((x.1, gup x.2.1 0 2, x.2.2.1, x.2.2.2.1, x.2.2.2.2.1, x.2.2.2.2.2.1, x.2.2.2.2.2.2.1, x.2.2.2.2.2.2.2.1, x.2.2.2.2.2.2.2.2.1, x.2.2.2.2.2.2.2.2.2.1, x.2.2.2.2.2.2.2.2.2.2.1, x.2.2.2.2.2.2.2.2.2.2.2.1, x.2.2.2.2.2.2.2.2.2.2.2.2.1, x.2.2.2.2.2.2.2.2.2.2.2.2.2.1, x.2.2.2.2.2.2.2.2.2.2.2.2.2.2.1, x.2.2.2.2.2.2.2.2.2.2.2.2.2.2.2) : gX), ?_, ?_, rfl, fun q => absurd q (by decide), gTT_0 ⟨_, m, p, q, T⟩, by simp⟩
        · simp only [lw_view, ho_0, Option.bind_some, cG_view, hr_0_0, ho_1, k_tin T.un hn hk, reduceCtorEq, if_false, ho_T hk2, r2, show ¬ (1 : Int32) = 0 by decide, k_borF T.un, hexc] <;> rfl
        · simp only [mM_view, ho_188, Option.bind_some, r_isin T.xn hn hk, O.et, e4, if_pos c1, hr_188_4, ha_191 hk2, O.ed, if_pos c2, hr_188_3, ha_190 hk2, r4 c1 c2]
          simp only [show ¬ (1 : Int32) = 0 by decide, if_false, mM_view_39, mM_view_52, hi_188_1, Option.bind_some, T.xn, show Int32.ofNat 32 = 32 from rfl, if_true, mM_view_66, ho_188, r_ref] <;> rfl
def gAnsJ (u : gU) (x : gX) (o : Nat → Int64) (z : gx_H) (L : gx_H → Option (Int32 × gx_H)) (M : gx_H → Option (Int64 × gx_H)) : Prop := ∃ e u' o' z' r x', L (gH u x o z) = some (e, gH u' x o' z') ∧ M (gH u' x o' z') = some (r, gH u' x' o' z') ∧ x'.2.1 0 = e ∧ (e = 0 → o' 0 = r) ∧ gTT u' x' ∧ z'.length ≤ z.length + 1
theorem r_get1 {v1 v2 v3 s : Int32} : mM_get_141 (some 188) v1 v2 v3 s (some 188) 1 (gH u x o z) = some (0, gH u ((x.1, gup x.2.1 0 1, x.2.2.1, x.2.2.2.1, x.2.2.2.2.1, x.2.2.2.2.2.1, x.2.2.2.2.2.2.1, x.2.2.2.2.2.2.2.1, x.2.2.2.2.2.2.2.2.1, x.2.2.2.2.2.2.2.2.2.1, x.2.2.2.2.2.2.2.2.2.2.1, x.2.2.2.2.2.2.2.2.2.2.2.1, x.2.2.2.2.2.2.2.2.2.2.2.2.1, x.2.2.2.2.2.2.2.2.2.2.2.2.2.1, x.2.2.2.2.2.2.2.2.2.2.2.2.2.2.1, x.2.2.2.2.2.2.2.2.2.2.2.2.2.2.2) : gX) o z) := by
  simp only [mM_get_141, ho_188, Option.bind_some, r_ref] <;> rfl
theorem n_w4 : ∀ w : Nat, w < 4 → ((Int32.ofNat w < 3) ↔ w < 3) ∧ ((Int32.ofNat w = 0) ↔ w = 0) ∧ ((Int32.ofNat w = 1) ↔ w = 1) ∧ ((Int32.ofNat w = 2) ↔ w = 2) ∧ ¬ (3 : Int32) < Int32.ofNat w ∧ ¬ Int32.ofNat w < 0 ∧ Int32.ofNat w < 4 := by decide
def gG (s c w : Nat) (d v : Int32) : Prop := ¬ v < 0 ∧ (if s = 5 then v = 0 else if s = 6 then v = 0 ∧ w = 0 else d = 0 ∧ v < Int32.ofNat c ∧ (w < 3 ∨ s = 2))
theorem k_hasPart {n k s c w : Nat} {v : Int32} (hk : k < 32) (hw : w < 4) (O : gO n s c (u.1 k) (x.1 k)) : ∃ r, cT_hasPart (some (3 + 5 * k)) v (Int32.ofNat w) (gH u x o z) = some r ∧ (r = 0 ∨ r = 1) ∧ (r = 1 ↔ gG s c w ((u.1 k).2.2.2.2.1 6) v) := by
  obtain ⟨w3, w0, _, _, w4, w5, _⟩ := n_w4 w hw
  obtain ⟨_, e6, _, _, _, e2, _, _, e5⟩ := n_s6 s O.s8
  have d10 : ¬ (1 : Int32) = 0 := by decide
  have d01 : ¬ (0 : Int32) = 1 := by decide
  unfold cT_hasPart gG
  simp only [if_neg w4, if_neg w5, hiT_4 hk, hiT_5 hk, hiT_6 hk, Option.bind_some, O.es, O.ec, e5, e6, e2, w3, w0]
  by_cases c0 : v < 0
  · exact ⟨0, by rw [if_pos c0], Or.inl rfl, by simp [c0]⟩
  · rw [if_neg c0]
    by_cases c5 : s = 5
    · by_cases v0 : v = 0
      · exact ⟨1, by simp [c5, v0], Or.inr rfl, by simp [c5, v0]⟩
      · exact ⟨0, by simp [c5, v0], Or.inl rfl, by simp [c5, v0]⟩
    · by_cases c6 : s = 6
      · by_cases v0 : v = 0
        · by_cases w0 : w = 0
          · exact ⟨1, by simp [c6, v0, w0], Or.inr rfl, by simp [c6, v0, w0]⟩
          · exact ⟨0, by simp [c6, v0, w0], Or.inl rfl, by simp [c6, v0, w0]⟩
        · exact ⟨0, by simp [c6, v0], Or.inl rfl, by simp [c6, v0]⟩
      · by_cases d0 : (u.1 k).2.2.2.2.1 6 = 0
        · by_cases vc : v < Int32.ofNat c
          · by_cases w3 : w < 3
            · exact ⟨1, by simp [c5, c6, d0, vc, w3], Or.inr rfl, by simp [c0, c5, c6, d0, vc, w3]⟩
            · by_cases s2 : s = 2
              · exact ⟨1, by simp [d0, vc, w3, s2], Or.inr rfl, by simp [c0, d0, vc, s2]⟩
              · exact ⟨0, by simp [c5, c6, d0, vc, w3, s2], Or.inl rfl, by simp [c5, c6, vc, w3, s2]⟩
          · exact ⟨0, by simp [c5, c6, d0, vc], Or.inl rfl, by simp [c5, c6, vc]⟩
        · exact ⟨0, by simp [c5, c6, d0], Or.inl rfl, by simp [c5, c6, d0]⟩
end H
end
section
section H
variable {u : gU} {x : gX} {o : Nat → Int64} {z : gx_H}
theorem r_get40 {n k s c w : Nat} {v : Int32} (hk : k < 32) (hw : w < 4) (O : gO n s c (u.1 k) (x.1 k)) : (gG s c w ((u.1 k).2.2.2.2.1 6) v → mM_get_40 (some 188) (Int32.ofNat k) v (Int32.ofNat w) 1 (Int32.ofNat s) (gH u x o z) = mM_get_141 (some 188) (Int32.ofNat k) v (Int32.ofNat w) (Int32.ofNat s) (some 188) 0 (gH u x o z)) ∧ (¬ gG s c w ((u.1 k).2.2.2.2.1 6) v → mM_get_40 (some 188) (Int32.ofNat k) v (Int32.ofNat w) 1 (Int32.ofNat s) (gH u x o z) = mM_get_141 (some 188) (Int32.ofNat k) v (Int32.ofNat w) (Int32.ofNat s) (some 188) 1 (gH u x o z)) := by
  obtain ⟨w3, w0, _, _, w4, w5, _⟩ := n_w4 w hw
  obtain ⟨_, e6, _, _, _, e2, _, _, e5⟩ := n_s6 s O.s8
  have d10 : ¬ (1 : Int32) = 0 := by decide
  have e5' : (Int32.ofNat s < 5) ↔ s < 5 := n_lt (m := 5) (by have := O.s8; omega) (by omega)
  unfold gG mM_get_40
  simp only [mM_get_57, mM_get_82, mM_get_81, mM_get_123, mM_get_127, mM_get_128, mM_get_130, e5, e6, e2, w3, w0, e5', if_neg d10, if_true]
  by_cases c5 : s = 5
  · by_cases v0 : v = 0
    · simp [c5, v0]
    · simp [c5, v0]
  · by_cases c6 : s = 6
    · by_cases v0 : v = 0
      · by_cases w0 : w = 0
        · simp [c6, v0, w0]
        · simp [c6, v0, w0]
      · simp [c6, v0]
    · by_cases c0 : v < 0
      · simp [c0, c5, c6]
      · by_cases l5 : s < 5
        · by_cases d0 : (u.1 k).2.2.2.2.1 6 = 0
          · simp only [if_neg c5, if_neg c6, if_pos l5, if_neg c0, hr_188_3, Option.bind_some, ha_190 hk, O.ep d0]
            by_cases vc : v < Int32.ofNat c
            · by_cases w3 : w < 3
              · simp [c0, d0, vc, w3]
              · by_cases s2 : s = 2
                · simp [c0, d0, vc, w3, s2]
                · simp [d0, vc, w3, s2]
            · simp [vc]
          · simp only [if_neg c5, if_neg c6, if_pos l5, if_neg c0, hr_188_3, Option.bind_some, ha_190 hk, O.e0 d0]
            simp [d0]
        · have s7 : s = 7 := by have := O.s8; omega
          have c7 : c = 0 := by have := O.c8; rw [s7] at this; exact Nat.le_zero.mp this
          have nv : ¬ v < Int32.ofNat c := by rw [c7]; exact c0
          simp [c5, c6, l5, nv]
theorem get_val {n k s c w : Nat} {v : Int32} (hk : k < 32) (hw : w < 4) (O : gO n s c (u.1 k) (x.1 k)) (h : gG s c w ((u.1 k).2.2.2.2.1 6) v) : ∃ r, (∀ o z, cT_part (some (3 + 5 * k)) v (Int32.ofNat w) (gH u x o z) = some r) ∧ ∀ o z, mM_get_141 (some 188) (Int32.ofNat k) v (Int32.ofNat w) (Int32.ofNat s) (some 188) 0 (gH u x o z) = some (r, gH u ((x.1, gup x.2.1 0 0, x.2.2.1, x.2.2.2.1, x.2.2.2.2.1, x.2.2.2.2.2.1, x.2.2.2.2.2.2.1, x.2.2.2.2.2.2.2.1, x.2.2.2.2.2.2.2.2.1, x.2.2.2.2.2.2.2.2.2.1, x.2.2.2.2.2.2.2.2.2.2.1, x.2.2.2.2.2.2.2.2.2.2.2.1, x.2.2.2.2.2.2.2.2.2.2.2.2.1, x.2.2.2.2.2.2.2.2.2.2.2.2.2.1, x.2.2.2.2.2.2.2.2.2.2.2.2.2.2.1, x.2.2.2.2.2.2.2.2.2.2.2.2.2.2.2) : gX) o z) := by
  obtain ⟨w3, w0, w1, w2, w4, w5, _⟩ := n_w4 w hw
  obtain ⟨_, e6, e7, e0, e1, e2, e3, e4, e5⟩ := n_s6 s O.s8
  obtain ⟨h0, h⟩ := h
  have d10 : ¬ (1 : Int32) = 0 := by decide
  have h8 := O.s8
  unfold cT_part mM_get_141
  simp only [hiT_4 hk, Option.bind_some, O.es, e4, e5, e6, ho_188, r_ref, and_self, if_true, e0, e2]
  by_cases c5 : s = 5
  · rw [if_pos c5] at h
    subst h
    obtain ⟨v0, v1, v2, v3, _⟩ := O.vw c5
    have e8 : (8 : Int32) * Int32.ofNat k + 0 = Int32.ofNat (8 * k) := n_8 (i := 0)
    have s4 : ¬ s = 4 := by omega
    rcases (by omega : w = 0 ∨ w = 1 ∨ w = 2 ∨ w = 3) with rfl | rfl | rfl | rfl
    · refine ⟨Int32.toInt64 ((u.1 k).2.2.2.2.1 7), fun o z => ?_, fun o z => ?_⟩
      · simp only [if_neg s4, if_pos c5, ho_T hk, Option.bind_some, cT_viewPart, hiT_7 hk, show (Int32.ofNat 0 = (0 : Int32)) from rfl, if_true]
      · simp only [if_pos c5, hr_188_9, Option.bind_some, e8, n_add, ha_196 (i := 0) hk (by omega), v0]
    · refine ⟨Int32.toInt64 ((u.1 k).2.2.2.2.1 8), fun o z => ?_, fun o z => ?_⟩
      · simp only [if_neg s4, if_pos c5, ho_T hk, Option.bind_some, cT_viewPart, hiT_8 hk, w0, w1, show ¬ (1 : Nat) = 0 by omega, if_false, if_true]
      · simp only [if_pos c5, hr_188_9, Option.bind_some, e8, n_add, ha_196 (i := 1) hk (by omega), v1]
    · refine ⟨Int32.toInt64 ((u.1 k).2.2.2.2.1 9), fun o z => ?_, fun o z => ?_⟩
      · simp only [if_neg s4, if_pos c5, ho_T hk, Option.bind_some, cT_viewPart, hiT_9 hk, w0, w1, w2, show ¬ (2 : Nat) = 0 by omega, show ¬ (2 : Nat) = 1 by omega, if_false, if_true]
      · simp only [if_pos c5, hr_188_9, Option.bind_some, e8, n_add, ha_196 (i := 2) hk (by omega), v2]
    · refine ⟨Int32.toInt64 ((u.1 k).2.2.2.2.1 5), fun o z => ?_, fun o z => ?_⟩
      · simp only [if_neg s4, if_pos c5, ho_T hk, Option.bind_some, cT_viewPart, hiT_5 hk, w0, w1, w2, show ¬ (3 : Nat) = 0 by omega, show ¬ (3 : Nat) = 1 by omega, show ¬ (3 : Nat) = 2 by omega, if_false]
      · simp only [if_pos c5, hr_188_9, Option.bind_some, e8, n_add, ha_196 (i := 3) hk (by omega), v3]
  · rw [if_neg c5] at h
    by_cases c6 : s = 6
    · refine ⟨(u.1 k).2.2.2.2.2 10, fun o z => ?_, fun o z => ?_⟩
      · simp only [show ¬ s = 4 by omega, if_neg c5, if_pos c6, if_false, hjT_10 hk, Option.bind_some]
      · simp only [if_neg c5, if_pos c6, hr_188_5, Option.bind_some, ha_192 hk, O.sT c6]
    · rw [if_neg c6] at h
      obtain ⟨d0, vc, ws⟩ := h
      have cc := O.c8
      have hc8 : c ≤ 8 := by
        unfold gcap at cc
        revert cc
        repeat' split
        all_goals omega
      obtain ⟨i, hi, rfl⟩ := n_of h0 vc (by omega)
      have hi8 : i < 8 := by omega
      have s7 : ¬ s = 7 := by
        rintro rfl
        have : c ≤ 0 := cc
        omega
      by_cases c4 : s = 4
      · have s0 : ¬ s = 0 := by omega
        have s2 : ¬ s = 2 := by omega
        have w3 : w < 3 := by rcases ws with h | h; exact h; omega
        rcases (by omega : w = 0 ∨ w = 1 ∨ w = 2) with rfl | rfl | rfl
        · refine ⟨Int32.toInt64 (Int32.ofNat i), fun o z => ?_, fun o z => ?_⟩
          · simp only [if_pos c4, ho_T hk, Option.bind_some, cT_bytePart, w0, if_true]
          · simp only [if_neg c5, if_neg c6, if_neg s0, if_neg s2, mM_get_205, w0, if_true]
        · refine ⟨4, fun o z => ?_, fun o z => ?_⟩
          · simp only [if_pos c4, ho_T hk, Option.bind_some, cT_bytePart, w0, w1, show ¬ (1 : Nat) = 0 by omega, if_false, if_true]
          · simp only [if_neg c5, if_neg c6, if_neg s0, if_neg s2, mM_get_205, w0, w1, e4, if_pos c4, show ¬ (1 : Nat) = 0 by omega, if_false, if_true]
        · refine ⟨Int32.toInt64 (gt_w ((u.1 k).2.2.2.2.2 10) i), fun o z => ?_, fun o z => ?_⟩
          · simp only [if_pos c4, ho_T hk, Option.bind_some, cT_bytePart, w0, w1, show ¬ (2 : Nat) = 0 by omega, show ¬ (2 : Nat) = 1 by omega, if_false, hjT_10 hk, k_byteOf]
          · simp only [if_neg c5, if_neg c6, if_neg s0, if_neg s2, mM_get_205, w0, w1, w2, show ¬ (2 : Nat) = 0 by omega, show ¬ (2 : Nat) = 1 by omega, if_false, if_true, hr_188_9, Option.bind_some, n_8, ha_196 hk hi8, O.bb c4 i hi]
      · have s3 : s ≤ 3 := by omega
        obtain ⟨v1, v2⟩ := O.vs s3 i hi
        by_cases s02 : s = 0 ∨ s = 2
        · have k1 := O.kE s02 i hi
          have eR : ∀ h : gx_H, (if s = 0 then mM_get_200 (some 188) (Int32.ofNat i) (Int32.ofNat w) (Int32.ofNat s) (Int32.ofNat (8 * k + i)) h else if s = 2 then mM_get_200 (some 188) (Int32.ofNat i) (Int32.ofNat w) (Int32.ofNat s) (Int32.ofNat (8 * k + i)) h else mM_get_205 (some 188) (Int32.ofNat i) (Int32.ofNat w) (Int32.ofNat s) (Int32.ofNat (8 * k + i)) 0 h) = mM_get_205 (some 188) (Int32.ofNat i) (Int32.ofNat w) (Int32.ofNat s) (Int32.ofNat (8 * k + i)) 1 h := by
            intro h
            rcases s02 with c | c
            · rw [if_pos c]; rfl
            · rw [if_neg (by omega), if_pos c]; rfl
          rcases (by omega : w = 0 ∨ w = 1 ∨ w = 2 ∨ w = 3) with rfl | rfl | rfl | rfl
          · refine ⟨Int32.toInt64 ((u.1 k).2.1 i), fun o z => ?_, fun o z => ?_⟩
            · simp only [if_neg c4, if_neg c5, if_neg c6, ho_T hk, Option.bind_some, cT_valuePart, show Int32.ofNat 0 = (0 : Int32) from rfl, if_true, hiT_4 hk, O.es, e0, e2, hrT_1 hk, haT_2 hk hi8]
              rcases s02 with c | c
              · rw [if_pos c]; rfl
              · rw [if_neg (by omega), if_pos c]; rfl
            · simp only [if_neg c5, if_neg c6, n_8]; rw [eR]; simp only [mM_get_205, w0, if_true, if_neg d10, hr_188_6, Option.bind_some, n_8, ha_193 hk hi8, k1]
          · refine ⟨Int32.toInt64 ((u.1 k).2.2.1 i), fun o z => ?_, fun o z => ?_⟩
            · simp only [if_neg c4, if_neg c5, if_neg c6, ho_T hk, Option.bind_some, cT_valuePart, w0, w1, show ¬ (1 : Nat) = 0 by omega, if_false, if_true, hrT_2 hk, haT_3 hk hi8]
            · simp only [if_neg c5, if_neg c6, n_8]; rw [eR]; simp only [mM_get_205, w0, w1, e4, if_neg c4, show ¬ (1 : Nat) = 0 by omega, if_false, if_true, hr_188_8, Option.bind_some, n_8, ha_195 hk hi8, v1]
          · refine ⟨Int32.toInt64 ((u.1 k).2.2.2.1 i), fun o z => ?_, fun o z => ?_⟩
            · simp only [if_neg c4, if_neg c5, if_neg c6, ho_T hk, Option.bind_some, cT_valuePart, w0, w1, w2, show ¬ (2 : Nat) = 0 by omega, show ¬ (2 : Nat) = 1 by omega, if_false, if_true, hrT_3 hk, haT_4 hk hi8]
            · simp only [if_neg c5, if_neg c6, n_8]; rw [eR]; simp only [mM_get_205, w0, w1, w2, show ¬ (2 : Nat) = 0 by omega, show ¬ (2 : Nat) = 1 by omega, if_false, if_true, hr_188_9, Option.bind_some, n_8, ha_196 hk hi8, v2]
          · have s2 : s = 2 := by rcases ws with h | h; omega; exact h
            refine ⟨Int32.toInt64 ((u.1 k).1 i), fun o z => ?_, fun o z => ?_⟩
            · simp only [if_neg c4, if_neg c5, if_neg c6, ho_T hk, Option.bind_some, cT_valuePart, w0, w1, w2, show ¬ (3 : Nat) = 0 by omega, show ¬ (3 : Nat) = 1 by omega, show ¬ (3 : Nat) = 2 by omega, if_false, hrT_0 hk, haT_1 hk hi8]
            · simp only [if_neg c5, if_neg c6, n_8]; rw [eR]; simp only [mM_get_205, w0, w1, w2, show ¬ (3 : Nat) = 0 by omega, show ¬ (3 : Nat) = 1 by omega, show ¬ (3 : Nat) = 2 by omega, if_false, hr_188_7, Option.bind_some, n_8, ha_194 hk hi8, O.kK s2 i hi]
        · have s0 : ¬ s = 0 := fun q => s02 (Or.inl q)
          have s2 : ¬ s = 2 := fun q => s02 (Or.inr q)
          have w3 : w < 3 := by rcases ws with h | h; exact h; exact absurd h s2
          rcases (by omega : w = 0 ∨ w = 1 ∨ w = 2) with rfl | rfl | rfl
          · refine ⟨Int32.toInt64 (Int32.ofNat i), fun o z => ?_, fun o z => ?_⟩
            · simp only [if_neg c4, if_neg c5, if_neg c6, ho_T hk, Option.bind_some, cT_valuePart, show Int32.ofNat 0 = (0 : Int32) from rfl, if_true, hiT_4 hk, O.es, e0, e2, if_neg s0, if_neg s2]
            · simp only [if_neg c5, if_neg c6, if_neg s0, if_neg s2, mM_get_205, w0, if_true]
          · refine ⟨Int32.toInt64 ((u.1 k).2.2.1 i), fun o z => ?_, fun o z => ?_⟩
            · simp only [if_neg c4, if_neg c5, if_neg c6, ho_T hk, Option.bind_some, cT_valuePart, w0, w1, show ¬ (1 : Nat) = 0 by omega, if_false, if_true, hrT_2 hk, haT_3 hk hi8]
            · simp only [if_neg c5, if_neg c6, if_neg s0, if_neg s2, mM_get_205, w0, w1, e4, if_neg c4, show ¬ (1 : Nat) = 0 by omega, if_false, if_true, hr_188_8, Option.bind_some, n_8, ha_195 hk hi8, v1]
          · refine ⟨Int32.toInt64 ((u.1 k).2.2.2.1 i), fun o z => ?_, fun o z => ?_⟩
            · simp only [if_neg c4, if_neg c5, if_neg c6, ho_T hk, Option.bind_some, cT_valuePart, w0, w1, w2, show ¬ (2 : Nat) = 0 by omega, show ¬ (2 : Nat) = 1 by omega, if_false, if_true, hrT_3 hk, haT_4 hk hi8]
            · simp only [if_neg c5, if_neg c6, if_neg s0, if_neg s2, mM_get_205, w0, w1, w2, show ¬ (2 : Nat) = 0 by omega, show ¬ (2 : Nat) = 1 by omega, if_false, if_true, hr_188_9, Option.bind_some, n_8, ha_196 hk hi8, v2]
theorem r_get21 {v1 v2 v3 : Int32} : mM_get_21 (some 188) v1 v2 v3 (gH u x o z) = some (0, gH u ((x.1, gup x.2.1 0 1, x.2.2.1, x.2.2.2.1, x.2.2.2.2.1, x.2.2.2.2.2.1, x.2.2.2.2.2.2.1, x.2.2.2.2.2.2.2.1, x.2.2.2.2.2.2.2.2.1, x.2.2.2.2.2.2.2.2.2.1, x.2.2.2.2.2.2.2.2.2.2.1, x.2.2.2.2.2.2.2.2.2.2.2.1, x.2.2.2.2.2.2.2.2.2.2.2.2.1, x.2.2.2.2.2.2.2.2.2.2.2.2.2.1, x.2.2.2.2.2.2.2.2.2.2.2.2.2.2.1, x.2.2.2.2.2.2.2.2.2.2.2.2.2.2.2) : gX) o z) := by
  simp only [mM_get_21, mM_get_22, if_true, mM_get_40, show ¬ (7 : Int32) = 5 by decide, show ¬ (7 : Int32) = 6 by decide, if_false, mM_get_127, mM_get_128, mM_get_130, r_get1]
theorem t_get {b v w : Int32} (h : gTT u x) : gAnsJ u x o z (lw_get (some 0) b v w (some 211)) (mM_get (some 188) b v w) := by
  obtain ⟨n, m, p, q, T⟩ := h
  have hn := T.hn
  have no : (∀ h : gx_H, h = gH u x o z → cG_get (some 0) b v w h = cG_get_25 h) → (∀ z, mM_get (some 188) b v w (gH u x o z) = some (0, gH u ((x.1, gup x.2.1 0 1, x.2.2.1, x.2.2.2.1, x.2.2.2.2.1, x.2.2.2.2.2.1, x.2.2.2.2.2.2.1, x.2.2.2.2.2.2.2.1, x.2.2.2.2.2.2.2.2.1, x.2.2.2.2.2.2.2.2.2.1, x.2.2.2.2.2.2.2.2.2.2.1, x.2.2.2.2.2.2.2.2.2.2.2.1, x.2.2.2.2.2.2.2.2.2.2.2.2.1, x.2.2.2.2.2.2.2.2.2.2.2.2.2.1, x.2.2.2.2.2.2.2.2.2.2.2.2.2.2.1, x.2.2.2.2.2.2.2.2.2.2.2.2.2.2.2) : gX) o z)) → gAnsJ u x o z (lw_get (some 0) b v w (some 211)) (mM_get (some 188) b v w) := by
    intro h1 h2
    refine ⟨1, u, o, z ++ [(10, [])], 0, ((x.1, gup x.2.1 0 1, x.2.2.1, x.2.2.2.1, x.2.2.2.2.1, x.2.2.2.2.2.1, x.2.2.2.2.2.2.1, x.2.2.2.2.2.2.2.1, x.2.2.2.2.2.2.2.2.1, x.2.2.2.2.2.2.2.2.2.1, x.2.2.2.2.2.2.2.2.2.2.1, x.2.2.2.2.2.2.2.2.2.2.2.1, x.2.2.2.2.2.2.2.2.2.2.2.2.1, x.2.2.2.2.2.2.2.2.2.2.2.2.2.1, x.2.2.2.2.2.2.2.2.2.2.2.2.2.2.1, x.2.2.2.2.2.2.2.2.2.2.2.2.2.2.2) : gX), ?_, h2 _, rfl, fun q => absurd q (by decide), gTT_0 ⟨n, m, p, q, T⟩, by simp⟩
    simp only [lw_get, ho_0, Option.bind_some, h1 _ rfl, cG_get_25, hl, hthr, hexc] <;> rfl
  rcases g_ob b n (by omega) with c | ⟨k, hk, rfl⟩
  · refine no (fun h e => ?_) (fun z => ?_)
    · subst e
      simp only [cG_get, hr_0_0, Option.bind_some, ho_1, k_tout T.un c, if_true]
    · simp only [mM_get, ho_188, Option.bind_some, r_oout T.xn c, if_true, r_get21]
  · obtain ⟨s, c, O⟩ := T.ob k hk
    have hk2 : k < 32 := by omega
    by_cases w0 : w < 0
    · refine no (fun h e => ?_) (fun z => ?_)
      · subst e
        simp only [cG_get, hr_0_0, Option.bind_some, ho_1, k_tin T.un hn hk, reduceCtorEq, if_false, ho_T hk2, cT_hasPart, if_pos w0, if_true] <;> rfl
      · simp only [mM_get, ho_188, Option.bind_some, r_oin T.xn hn hk, if_pos w0, r_get21] <;> rfl
    · by_cases w4 : w < 4
      · obtain ⟨w, hw, rfl⟩ := n_of (m := 4) w0 w4 (by omega)
        obtain ⟨r, r1, r2, r3⟩ := k_hasPart (o := o) (z := z) (v := v) hk2 hw O
        by_cases g : gG s c w ((u.1 k).2.2.2.2.1 6) v
        · obtain ⟨a, a1, a2⟩ := get_val hk2 hw O g
          have r1' := r3.mpr g
          subst r1'
          refine ⟨0, u, gup o 0 a, z, a, _, ?_, ?_, rfl, fun _ => rfl, gTT_0 ⟨n, m, p, q, T⟩, by omega⟩
          · simp only [lw_get, ho_0, Option.bind_some, cG_get, hr_0_0, ho_1, k_tin T.un hn hk, reduceCtorEq, if_false, ho_T hk2, r1, a1 o z, hb0] <;> rfl
          · simp only [mM_get, ho_188, Option.bind_some, r_oin T.xn hn hk, if_neg w0, if_pos w4, mM_get_22, hr_188_2, ha_189 hk2, O.et, (r_get40 (o := gup o 0 a) (z := z) hk2 hw O).1 g, a2 (gup o 0 a) z] <;> rfl
        · have r0 : r = 0 := by rcases r2 with h | h; exact h; exact absurd (r3.mp h) g
          subst r0
          refine no (fun h e => ?_) (fun z => ?_)
          · subst e
            simp only [cG_get, hr_0_0, Option.bind_some, ho_1, k_tin T.un hn hk, reduceCtorEq, if_false, ho_T hk2, r1, if_true] <;> rfl
          · simp only [mM_get, ho_188, Option.bind_some, r_oin T.xn hn hk, if_neg w0, if_pos w4, mM_get_22, hr_188_2, ha_189 hk2, O.et, (r_get40 (o := o) (z := z) hk2 hw O).2 g, r_get1] <;> rfl
      · refine no (fun h e => ?_) (fun z => ?_)
        · subst e
          have w3 : 3 < w := by
            have := n_w4 3 (by omega)
            rw [Int32.lt_iff_toInt_lt] at w4 ⊢
            have a1 : (4 : Int32).toInt = 4 := rfl
            have a0 : (3 : Int32).toInt = 3 := rfl
            omega
          simp only [cG_get, hr_0_0, Option.bind_some, ho_1, k_tin T.un hn hk, reduceCtorEq, if_false, ho_T hk2, cT_hasPart, if_neg w0, if_pos w3, if_true] <;> rfl
        · simp only [mM_get, ho_188, Option.bind_some, r_oin T.xn hn hk, if_neg w0, if_neg w4, r_get21] <;> rfl
end H
end
