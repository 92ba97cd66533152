/-! values that are no objects -/
def gt_L (v : Int32) : Int32 := if gt_b v 0 = 0 then 0 else if gt_b v 1 = 0 then 1 else if gt_b v 2 = 0 then 2 else if gt_b v 3 = 0 then 3 else 4
theorem gt_Ln (v : Int32) : ∃ l, l ≤ 4 ∧ gt_L v = Int32.ofNat l := by
  unfold gt_L
  repeat' split
  · exact ⟨0, by omega, rfl⟩
  · exact ⟨1, by omega, rfl⟩
  · exact ⟨2, by omega, rfl⟩
  · exact ⟨3, by omega, rfl⟩
  · exact ⟨4, by omega, rfl⟩
theorem c_textLength {v : Int32} : cW_textLength v = some (gt_L v) := by
  unfold cW_textLength gt_L
  by_cases c0 : gt_b v 0 = 0 <;> by_cases c1 : gt_b v 1 = 0 <;> by_cases c2 : gt_b v 2 = 0 <;> by_cases c3 : gt_b v 3 = 0 <;>
    simp [cW_textLength_2, cW_textLength, c0, c1, c2, c3, c_byteOf]
theorem m_textLength {v : Int32} : mM_textLength v = some (gt_L v) := by
  unfold mM_textLength gt_L
  by_cases c0 : gt_b v 0 = 0 <;> by_cases c1 : gt_b v 1 = 0 <;> by_cases c2 : gt_b v 2 = 0 <;> by_cases c3 : gt_b v 3 = 0 <;>
    (simp only [c0, c1, c2, c3]
     unfold gt_b at c0 c1 c2 c3
     simp at c0 c1 c2 c3
     simp [mM_textLength_2, mM_textLength, c0, c1, c2, c3])
section H
variable {u : gU} {x : gX} {o : Nat → Int64} {z : gx_H} {n m p q e g : Nat}
theorem w_textL {v : Int32} {l : Nat} (hl : l ≤ 4) (hv : gt_L v = Int32.ofNat l) : ∀ (t i f f2 : Nat) (u : gU) (x : gX) (e : Nat), i + t = l → gW n m p q e g u x → ∃ u' x' e', (∀ y o z, cW_writeWord_8 (f + t + 1) (some 169) (Int32.toInt64 v) (Int32.ofNat l) (Int32.ofNat i) (gH u y o z) = some (gH u' y o z)) ∧ (∀ y o z, mM_sayValue_80 (f2 + t + 1) (some 188) v (Int32.ofNat i) (gH y x o z) = some (gH y x' o z)) ∧ gW n m p q e' g u' x' ∧ (u'.2.2.2.2.2.2.2.2.1 4 = 0 → e ≤ e') ∧ gBy u u' x x' := by
  intro t
  induction t with
  | zero =>
    intro i f f2 u x e h W
    refine ⟨u, x, e, fun y o z => ?_, fun y o z => ?_, W, fun _ => Nat.le_refl _, gBy_refl⟩
    · rw [cW_writeWord_8, if_neg (n_nltl (by omega) (by omega) (by omega))]
    · rw [mM_sayValue_80, m_textLength, Option.bind_some, hv, if_neg (n_nltl (by omega) (by omega) (by omega))]
  | succ t ih =>
    intro i f f2 u x e h W
    have hi : Int32.ofNat i = 0 ∨ Int32.ofNat i = 1 ∨ Int32.ofNat i = 2 ∨ Int32.ofNat i = 3 := by
      rcases (by omega : i = 0 ∨ i = 1 ∨ i = 2 ∨ i = 3) with rfl | rfl | rfl | rfl
      · exact Or.inl rfl
      · exact Or.inr (Or.inl rfl)
      · exact Or.inr (Or.inr (Or.inl rfl))
      · exact Or.inr (Or.inr (Or.inr rfl))
    obtain ⟨u1, x1, e1, h1, h2, h3, h4, h5⟩ := w_byte (b := gt_b v (Int32.ofNat i)) W (n_255 _)
    obtain ⟨u', x', e', k1, k2, k3, k4, k5⟩ := ih (i + 1) f f2 u1 x1 e1 (by omega) h3
    refine ⟨u', x', e', fun y o z => ?_, fun y o z => ?_, k3, fun q => ?_, gBy_trans h5 k5⟩
    · rw [show f + (t + 1) + 1 = (f + t + 1) + 1 by omega, cW_writeWord_8, if_pos (n_ltl (by omega) (by omega) (by omega)), c_byteOf hi, Option.bind_some, ho_169, Option.bind_some, h1, Option.bind_some, n_succ]
      exact k1 y o z
    · rw [show f2 + (t + 1) + 1 = (f2 + t + 1) + 1 by omega, mM_sayValue_80, m_textLength, Option.bind_some, hv, if_pos (n_ltl (by omega) (by omega) (by omega)), ho_188, Option.bind_some]
      have := h2 y o z
      unfold gt_b at this
      rw [this, Option.bind_some, n_succ]
      exact k2 y o z
    · have a1 : u1.2.2.2.2.2.2.2.2.1 4 = 0 := Decidable.byContradiction fun c => by
        have := (k5.dead c).1
        subst this
        exact c q
      have := h4 a1
      have := k4 q
      omega
/-- a buffer's bytes -/
theorem w_bufL {w : Int64} {k l : Nat} (hk : k < 32) (hl : l ≤ 8) : ∀ (t i f f2 : Nat) (u : gU) (x : gX) (e : Nat), i + t = l → (x.1 k).2.2.2.2.2.1 = Int32.ofNat l → (∀ j, j < l → (x.1 k).2.2.2.1 j = gt_w w j) → gW n m p q e g u x → ∃ u' x' e', (∀ y o z, cW_writeWord_8 (f + t + 1) (some 169) w (Int32.ofNat l) (Int32.ofNat i) (gH u y o z) = some (gH u' y o z)) ∧ (∀ y o z, mM_sayObject_122 (f2 + t + 1) (some 188) (Int32.ofNat k) 4 (Int32.ofNat i) (gH y x o z) = some (gH y x' o z)) ∧ gW n m p q e' g u' x' ∧ (u'.2.2.2.2.2.2.2.2.1 4 = 0 → e ≤ e') ∧ gBy u u' x x' := by
  intro t
  induction t with
  | zero =>
    intro i f f2 u x e h hc hw W
    refine ⟨u, x, e, fun y o z => ?_, fun y o z => ?_, W, fun _ => Nat.le_refl _, gBy_refl⟩
    · rw [cW_writeWord_8, if_neg (n_nltl (by omega) (by omega) (by omega))]
    · rw [mM_sayObject_122, hr_188_3, Option.bind_some, ha_190 hk, Option.bind_some, hc, if_neg (n_nltl (by omega) (by omega) (by omega))]
      rfl
  | succ t ih =>
    intro i f f2 u x e h hc hw W
    obtain ⟨u1, x1, e1, h1, h2, h3, h4, h5⟩ := w_byte (b := gt_w w i) W (gt_w8 w i)
    obtain ⟨u', x', e', k1, k2, k3, k4, k5⟩ := ih (i + 1) f f2 u1 x1 e1 (by omega) (by rw [h5.bR]; exact hc) (by rw [h5.bR]; exact hw) h3
    refine ⟨u', x', e', fun y o z => ?_, fun y o z => ?_, k3, fun q => ?_, gBy_trans h5 k5⟩
    · rw [show f + (t + 1) + 1 = (f + t + 1) + 1 by omega, cW_writeWord_8, if_pos (n_ltl (by omega) (by omega) (by omega)), k_byteOf, Option.bind_some, ho_169, Option.bind_some, h1, Option.bind_some, n_succ]
      exact k1 y o z
    · rw [show f2 + (t + 1) + 1 = (f2 + t + 1) + 1 by omega, mM_sayObject_122, hr_188_3, Option.bind_some, ha_190 hk, Option.bind_some, hc, if_pos (n_ltl (by omega) (by omega) (by omega)), if_pos rfl, hr_188_9, Option.bind_some, n_8, ha_196 hk (by omega), Option.bind_some, hw i (by omega), ho_188, Option.bind_some, h2, Option.bind_some, n_succ]
      exact k2 y o z
    · have a1 : u1.2.2.2.2.2.2.2.2.1 4 = 0 := Decidable.byContradiction fun c => by
        have := (k5.dead c).1
        subst this
        exact c q
      have := h4 a1
      have := k4 q
      omega
/-- the outcome that a write of bytes leaves at 0 was 0 -/
theorem gBy_0 {u u' : gU} {x x' : gX} (h : gBy u u' x x') (q : u'.2.2.2.2.2.2.2.2.1 4 = 0) : u.2.2.2.2.2.2.2.2.1 4 = 0 :=
  Decidable.byContradiction fun c => by
    have := (h.dead c).1
    subst this
    exact c q
theorem w_prim {D j F : Nat} {v : Int32} (W : gW n m p q e g u x) (c0 : u.2.2.2.2.2.2.2.2.1 4 = 0) (hD : D + 1 ≤ 12) (hp : x.2.1 18 = Int32.ofNat D) (hj : j ≤ 5) : ∃ u' x' e', (∀ y o z, cW_writeValue (F + 1) (some 169) (some 1) (some 165) (Int32.ofNat j) v (Int32.ofNat (D + 1)) (gH u y o z) = some (gH u' y o z)) ∧ (∀ y o z, mM_sayValue (some 188) (Int32.ofNat j) v (gH y x o z) = some (gH y x' o z)) ∧ gW n m p q e' g u' x' ∧ (u'.2.2.2.2.2.2.2.2.1 4 = 0 → e + 1 ≤ e') ∧ gBy u u' x x' := by
  have l12 : ¬ (12 : Int32) < Int32.ofNat (D + 1) := n_nltl (n := 12) (by omega) (by omega) (by omega)
  obtain ⟨_, e6, e7, _, _, _, _, e4, e5⟩ := n_s6 j (by omega)
  have j6 : ¬ j = 6 := by omega
  have j7 : ¬ j = 7 := by omega
  have j3 : (Int32.ofNat j < 4) ↔ j < 4 := n_lt (m := 4) (by omega) (by omega)
  obtain ⟨u1, x1, e1, h1, h2, h3, h4, h5⟩ := w_byte (b := Int32.ofNat j) W ⟨j, by omega, rfl⟩
  by_cases j4 : j = 4
  · obtain ⟨u', x', e', k1, k2, k3, k4, k5⟩ := w_zigzag (v := Int32.toInt64 v) h3
    refine ⟨u', x', e', fun y o z => ?_, fun y o z => ?_, k3, fun q => ?_, gBy_trans h5 k5⟩
    · rw [cW_writeValue]
      simp only [hi_169_4, Option.bind_some, c0, if_true, if_neg l12, e6, e7, if_neg j6, if_neg j7, ho_169, h1, e4, if_pos j4, k1]
    · simp only [mM_sayValue, hi_188_18, Option.bind_some, hp, n_succ, if_neg l12, e7, if_neg j7, j3, e4, if_pos j4, show ¬ j < 4 by omega, if_false, ho_188]
      have h2' := h2 y o z
      rw [show Int32.ofNat j = 4 from e4.mpr j4] at h2'
      rw [h2', Option.bind_some]
      have := k2 y o z
      simp only [mM_zigzag, Option.bind_some] at this ⊢
      rw [ho_188, Option.bind_some, this]
      rfl
    · have := h4 (gBy_0 k5 q); have := k4 q; omega
  · by_cases j5 : j = 5
    · obtain ⟨l, hl, hv⟩ := gt_Ln v
      obtain ⟨u2, x2, e2, a1, a2, a3, a4, a5⟩ := w_byte (b := Int32.ofNat l) h3 ⟨l, by omega, rfl⟩
      obtain ⟨u', x', e', k1, k2, k3, k4, k5⟩ := w_textL hl hv l 0 (1000000000000000 - l - 1) (1000000000000000 - l - 1) u2 x2 e2 (by omega) a3
      rw [show 1000000000000000 - l - 1 + l + 1 = 1000000000000000 by omega] at k1 k2
      refine ⟨u', x', e', fun y o z => ?_, fun y o z => ?_, k3, fun q => ?_, gBy_trans h5 (gBy_trans a5 k5)⟩
      · rw [cW_writeValue]
        simp only [hi_169_4, Option.bind_some, c0, if_true, if_neg l12, e6, e7, if_neg j6, if_neg j7, ho_169, h1, e4, if_neg j4, e5, if_pos j5, c_textLength, hv, cW_writeWord, a1]
        have := k1 y o z
        rw [show Int32.ofNat 0 = (0 : Int32) from rfl] at this
        rw [this]
        rfl
      · simp only [mM_sayValue, hi_188_18, Option.bind_some, hp, n_succ, if_neg l12, e7, if_neg j7, j3, e4, if_neg j4, e5, if_pos j5, show ¬ j < 4 by omega, if_false, ho_188]
        have h2' := h2 y o z
        rw [show Int32.ofNat j = 5 from e5.mpr j5] at h2'
        rw [h2', Option.bind_some, m_textLength, Option.bind_some, ho_188, Option.bind_some, hv, a2, Option.bind_some]
        exact k2 y o z
      · have := h4 (gBy_0 a5 (gBy_0 k5 q)); have := a4 (gBy_0 k5 q); have := k4 q; omega
    · refine ⟨u1, x1, e1, fun y o z => ?_, fun y o z => ?_, h3, fun q => by have := h4 q; omega, h5⟩
      · rw [cW_writeValue]
        simp only [hi_169_4, Option.bind_some, c0, if_true, if_neg l12, e6, e7, if_neg j6, if_neg j7, ho_169, h1, e4, if_neg j4, e5, if_neg j5]
      · simp only [mM_sayValue, hi_188_18, Option.bind_some, hp, n_succ, if_neg l12, e7, if_neg j7, j3, show j < 4 by omega, if_true, ho_188, h2]
end H
