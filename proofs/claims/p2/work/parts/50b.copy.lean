/-! copies of rows -/
theorem gx_sp_get (p : Nat) : ∀ (l : List Value) (s : Nat) (vs : List Value) (k : Nat), (gx_sp p (l.zipIdx s) vs)[k]? = if p + s ≤ k ∧ k < p + s + l.length ∧ k < vs.length then l[k - (p + s)]? else vs[k]? := by
  intro l
  induction l with
  | nil => intro s vs k; simp [gx_sp]; intro a b; omega
  | cons v l ih =>
    intro s vs k
    show (gx_sp p (l.zipIdx (s + 1)) (vs.set (p + s) v))[k]? = _
    rw [ih (s + 1) (vs.set (p + s) v) k, List.length_set, List.length_cons]
    by_cases h1 : p + (s + 1) ≤ k ∧ k < p + (s + 1) + l.length ∧ k < vs.length
    · rw [if_pos h1, if_pos ⟨by omega, by omega, h1.2.2⟩]
      obtain ⟨m, rfl⟩ : ∃ m, k = p + s + 1 + m := ⟨k - (p + s + 1), by omega⟩
      rw [show p + s + 1 + m - (p + s) = m + 1 by omega, show p + s + 1 + m - (p + (s + 1)) = m by omega]
      rfl
    · rw [if_neg h1, List.getElem?_set]
      by_cases h2 : p + s = k
      · subst h2
        by_cases h3 : p + s < vs.length
        · rw [if_pos rfl, if_pos h3, if_pos ⟨by omega, by omega, h3⟩]; simp
        · rw [if_pos rfl, if_neg h3, if_neg (by omega)]; simp; omega
      · rw [if_neg h2, if_neg (by omega)]
def gm_fill (I : Nat → Nat → Int32) (a k n : Nat) (v : Int32) : Nat → Nat → Int32 := fun b i => if b = a ∧ k ≤ i ∧ i < n then v else I b i
def gm_copy (I : Nat → Nat → Int32) (a0 a k n : Nat) : Nat → Nat → Int32 := fun b i => if b = a ∧ k ≤ i ∧ i < n then I a0 i else I b i
theorem gm_fill0 {I : Nat → Nat → Int32} {a n : Nat} {v : Int32} : gm_fill I a n n v = I := by
  funext b i; unfold gm_fill; rw [if_neg (by omega)]
theorem gm_fill1 {I : Nat → Nat → Int32} {a k n : Nat} {v : Int32} (h : k < n) : gm_fill (gm_up I a k v) a (k + 1) n v = gm_fill I a k n v := by
  funext b i; unfold gm_fill gm_up
  by_cases c1 : b = a
  · subst c1
    by_cases c2 : i = k
    · subst c2; simp [h]
    · by_cases c3 : k + 1 ≤ i ∧ i < n
      · rw [if_pos ⟨rfl, c3⟩, if_pos ⟨rfl, by omega, c3.2⟩]
      · rw [if_neg (fun q => c3 q.2), if_neg (fun q => c2 q.2), if_neg (by omega)]
  · simp [c1]
theorem gm_copy0 {I : Nat → Nat → Int32} {a0 a n : Nat} : gm_copy I a0 a n n = I := by
  funext b i; unfold gm_copy; rw [if_neg (by omega)]
theorem gm_copy1 {I : Nat → Nat → Int32} {a0 a k n : Nat} (h : k < n) (hne : ¬ a0 = a) : gm_copy (gm_up I a k (I a0 k)) a0 a (k + 1) n = gm_copy I a0 a k n := by
  funext b i; unfold gm_copy gm_up
  by_cases c1 : b = a
  · subst c1
    by_cases c2 : i = k
    · subst c2; simp [h]
    · by_cases c3 : k + 1 ≤ i ∧ i < n
      · rw [if_pos ⟨rfl, c3⟩, if_neg (fun q => hne q.1), if_pos ⟨rfl, by omega, c3.2⟩]
      · rw [if_neg (fun q => c3 q.2), if_neg (fun q => c2 q.2), if_neg (by omega)]
  · simp [c1]
section F
variable {I : Nat → Nat → Int32} {J : Nat → Nat → Int64} {z : gx_H}
theorem gm_cellA {a n : Nat} (h : gm_lay a = (100, List.replicate n (1, 0))) : gm_cell I J a = (100, (List.range n).map fun i => .int (I a i)) := by
  unfold gm_cell
  rw [h]
  congr 1
  apply List.ext_getElem?
  intro k
  rw [List.getElem?_mapIdx]
  by_cases hk : k < n
  · simp [hk, gm_v]
  · simp [hk]
theorem gm_cp {a0 a n0 n1 n : Nat} (ha0 : a0 < 212) (ha : a < 212) (h0 : gm_lay a0 = (100, List.replicate n0 (1, 0))) (h1 : gm_lay a = (100, List.replicate n1 (1, 0))) (hn0 : n ≤ n0) (hn1 : n ≤ n1) (hn : n < 2 ^ 31) : gv_cp (gm_mk I J z) (some a0) 0 (some a) 0 (Int32.ofNat n) = some (gm_mk (gm_copy I a0 a 0 n) J z) := by
  unfold gv_cp
  rw [Option.bind_some, Option.bind_some, gm_ob ha0 (by rw [h0]), Option.bind_some, gm_ob ha (by rw [h1]), Option.bind_some, gm_cellA h0, gm_cellA h1, n_cl hn]
  have e0 : (0 : Int32).toNatClampNeg = 0 := rfl
  rw [e0]
  rw [if_pos ⟨by decide, by decide, n_nn hn, by simpa using hn0, by simpa using hn1, by simp [gx_i1]⟩]
  rw [gm_set (I' := gm_copy I a0 a 0 n) (J' := J) ha]
  · rw [gm_cellA h1]
    congr 1
    apply List.ext_getElem?
    intro k
    unfold gx_cpy
    rw [gx_sp_get]
    by_cases hk : k < n1
    · by_cases hk2 : k < n
      · rw [if_pos ⟨by omega, by simp; omega, by simpa using hk⟩]
        simp [hk, hk2, gm_copy, List.getD, show k < n0 by omega]
      · rw [if_neg (by simp; omega)]
        simp [hk, hk2, gm_copy]
    · rw [if_neg (by simp; omega)]
      simp [hk]
  · intro b hb
    unfold gm_cell
    congr 2
    funext k s
    unfold gm_v gm_copy
    simp [hb]
end F
