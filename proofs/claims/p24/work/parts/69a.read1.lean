section
/-! read: what ties both sides while bytes are read -/
abbrev gD  (n0 f q m N pos : Nat) (u : gU) (x : gX) : Prop := (N ≤ 32) ∧ (f = n0 + q) ∧ (f ≤ N) ∧ (u.2.2.1 1 = Int32.ofNat N) ∧ (x.2.1 33 = Int32.ofNat N) ∧ (x.2.1 1 = Int32.ofNat n0) ∧ (∀ k, k < N → ∃ s c, gO N s c (u.1 k) (x.1 k)) ∧ (∀ k, n0 ≤ k → k < N → (u.1 k).2.2.2.2.1 6 = 0) ∧ (u.2.2.2.2.2.2.2.2.2.2.2.2.1 1 = 0) ∧ (x.2.1 31 = 1) ∧ (u.2.2.2.2.2.2.2.2.2.2.2.2.1 0 = Int32.ofNat pos) ∧ (x.2.1 32 = Int32.ofNat pos) ∧ (pos ≤ m) ∧ (m ≤ 300) ∧ (u.2.2.2.1 1 = Int32.ofNat m) ∧ (x.2.1 15 = Int32.ofNat m) ∧ (∀ i, i < m → x.2.2.2.2.2.1 i = u.2.2.2.2.1 i) ∧ (∀ i, i < m → ∃ b, b < 256 ∧ u.2.2.2.2.1 i = Int32.ofNat b) ∧ (u.2.2.2.2.2.2.2.2.2.2.2.2.1 6 = Int32.ofNat f) ∧ (u.2.2.2.2.2.2.2.2.2.2.2.2.1 4 = Int32.ofNat n0) ∧ (u.2.2.2.2.2.2.2.2.2.2.2.2.1 5 = Int32.ofNat q) ∧ (x.2.1 12 = Int32.ofNat q) ∧ (x.2.1 29 = Int32.ofNat (N - f)) ∧ (∀ i, i < N - f → x.2.2.2.2.2.2.2.2.2.2.2.2.2.2.2 i = Int32.ofNat (f + i))
theorem gD.hN {n0 f q m N pos : Nat} {u : gU} {x : gX} (h : gD n0 f q m N pos u x) : N ≤ 32 := h.1
theorem gD.nf {n0 f q m N pos : Nat} {u : gU} {x : gX} (h : gD n0 f q m N pos u x) : f = n0 + q := h.2.1
theorem gD.fN {n0 f q m N pos : Nat} {u : gU} {x : gX} (h : gD n0 f q m N pos u x) : f ≤ N := h.2.2.1
theorem gD.un {n0 f q m N pos : Nat} {u : gU} {x : gX} (h : gD n0 f q m N pos u x) : u.2.2.1 1 = Int32.ofNat N := h.2.2.2.1
theorem gD.xn {n0 f q m N pos : Nat} {u : gU} {x : gX} (h : gD n0 f q m N pos u x) : x.2.1 33 = Int32.ofNat N := h.2.2.2.2.1
theorem gD.xo {n0 f q m N pos : Nat} {u : gU} {x : gX} (h : gD n0 f q m N pos u x) : x.2.1 1 = Int32.ofNat n0 := h.2.2.2.2.2.1
theorem gD.ob {n0 f q m N pos : Nat} {u : gU} {x : gX} (h : gD n0 f q m N pos u x) : ∀ k, k < N → ∃ s c, gO N s c (u.1 k) (x.1 k) := h.2.2.2.2.2.2.1
theorem gD.nd {n0 f q m N pos : Nat} {u : gU} {x : gX} (h : gD n0 f q m N pos u x) : ∀ k, n0 ≤ k → k < N → (u.1 k).2.2.2.2.1 6 = 0 := h.2.2.2.2.2.2.2.1
theorem gD.wr {n0 f q m N pos : Nat} {u : gU} {x : gX} (h : gD n0 f q m N pos u x) : u.2.2.2.2.2.2.2.2.2.2.2.2.1 1 = 0 := h.2.2.2.2.2.2.2.2.1
theorem gD.gg {n0 f q m N pos : Nat} {u : gU} {x : gX} (h : gD n0 f q m N pos u x) : x.2.1 31 = 1 := h.2.2.2.2.2.2.2.2.2.1
theorem gD.pu {n0 f q m N pos : Nat} {u : gU} {x : gX} (h : gD n0 f q m N pos u x) : u.2.2.2.2.2.2.2.2.2.2.2.2.1 0 = Int32.ofNat pos := h.2.2.2.2.2.2.2.2.2.2.1
theorem gD.px {n0 f q m N pos : Nat} {u : gU} {x : gX} (h : gD n0 f q m N pos u x) : x.2.1 32 = Int32.ofNat pos := h.2.2.2.2.2.2.2.2.2.2.2.1
theorem gD.hp {n0 f q m N pos : Nat} {u : gU} {x : gX} (h : gD n0 f q m N pos u x) : pos ≤ m := h.2.2.2.2.2.2.2.2.2.2.2.2.1
theorem gD.hm {n0 f q m N pos : Nat} {u : gU} {x : gX} (h : gD n0 f q m N pos u x) : m ≤ 300 := h.2.2.2.2.2.2.2.2.2.2.2.2.2.1
theorem gD.um {n0 f q m N pos : Nat} {u : gU} {x : gX} (h : gD n0 f q m N pos u x) : u.2.2.2.1 1 = Int32.ofNat m := h.2.2.2.2.2.2.2.2.2.2.2.2.2.2.1
theorem gD.xm {n0 f q m N pos : Nat} {u : gU} {x : gX} (h : gD n0 f q m N pos u x) : x.2.1 15 = Int32.ofNat m := h.2.2.2.2.2.2.2.2.2.2.2.2.2.2.2.1
theorem gD.bs {n0 f q m N pos : Nat} {u : gU} {x : gX} (h : gD n0 f q m N pos u x) : ∀ i, i < m → x.2.2.2.2.2.1 i = u.2.2.2.2.1 i := h.2.2.2.2.2.2.2.2.2.2.2.2.2.2.2.2.1
theorem gD.b8 {n0 f q m N pos : Nat} {u : gU} {x : gX} (h : gD n0 f q m N pos u x) : ∀ i, i < m → ∃ b, b < 256 ∧ u.2.2.2.2.1 i = Int32.ofNat b := h.2.2.2.2.2.2.2.2.2.2.2.2.2.2.2.2.2.1
theorem gD.fi {n0 f q m N pos : Nat} {u : gU} {x : gX} (h : gD n0 f q m N pos u x) : u.2.2.2.2.2.2.2.2.2.2.2.2.1 6 = Int32.ofNat f := h.2.2.2.2.2.2.2.2.2.2.2.2.2.2.2.2.2.2.1
theorem gD.fh {n0 f q m N pos : Nat} {u : gU} {x : gX} (h : gD n0 f q m N pos u x) : u.2.2.2.2.2.2.2.2.2.2.2.2.1 4 = Int32.ofNat n0 := h.2.2.2.2.2.2.2.2.2.2.2.2.2.2.2.2.2.2.2.1
theorem gD.hc {n0 f q m N pos : Nat} {u : gU} {x : gX} (h : gD n0 f q m N pos u x) : u.2.2.2.2.2.2.2.2.2.2.2.2.1 5 = Int32.ofNat q := h.2.2.2.2.2.2.2.2.2.2.2.2.2.2.2.2.2.2.2.2.1
theorem gD.xq {n0 f q m N pos : Nat} {u : gU} {x : gX} (h : gD n0 f q m N pos u x) : x.2.1 12 = Int32.ofNat q := h.2.2.2.2.2.2.2.2.2.2.2.2.2.2.2.2.2.2.2.2.2.1
theorem gD.be {n0 f q m N pos : Nat} {u : gU} {x : gX} (h : gD n0 f q m N pos u x) : x.2.1 29 = Int32.ofNat (N - f) := h.2.2.2.2.2.2.2.2.2.2.2.2.2.2.2.2.2.2.2.2.2.2.1
theorem gD.ro {n0 f q m N pos : Nat} {u : gU} {x : gX} (h : gD n0 f q m N pos u x) : ∀ i, i < N - f → x.2.2.2.2.2.2.2.2.2.2.2.2.2.2.2 i = Int32.ofNat (f + i) := h.2.2.2.2.2.2.2.2.2.2.2.2.2.2.2.2.2.2.2.2.2.2.2
/-- what the reference's fields keep when bytes are read -/
def gKs (s t : Nat → Int32) : Prop := ∀ i, i < 31 → t i = s i
theorem gKs_refl {s : Nat → Int32} : gKs s s := fun _ _ => rfl
theorem gKs_trans {s t r : Nat → Int32} (h : gKs s t) (k : gKs t r) : gKs s r := fun i hi => (k i hi).trans (h i hi)
section H
variable {n0 f q m N pos : Nat} {u : gU} {x : gX}
/-- the same but for the reader's own fields -/
theorem gD_r {pos' : Nat} {r s : Nat → Int32} (D : gD n0 f q m N pos u x) (h0 : r 1 = 0) (h1 : r 0 = Int32.ofNat pos') (h2 : pos' ≤ m) (h3 : r 4 = u.2.2.2.2.2.2.2.2.2.2.2.2.1 4) (h4 : r 5 = u.2.2.2.2.2.2.2.2.2.2.2.2.1 5) (h5 : r 6 = u.2.2.2.2.2.2.2.2.2.2.2.2.1 6) (k0 : s 31 = 1) (k1 : s 32 = Int32.ofNat pos') (k2 : s 33 = x.2.1 33) (k3 : gKs x.2.1 s) : gD n0 f q m N pos' ((u.1, u.2.1, u.2.2.1, u.2.2.2.1, u.2.2.2.2.1, u.2.2.2.2.2.1, u.2.2.2.2.2.2.1, u.2.2.2.2.2.2.2.1, u.2.2.2.2.2.2.2.2.1, u.2.2.2.2.2.2.2.2.2.1, u.2.2.2.2.2.2.2.2.2.2.1, u.2.2.2.2.2.2.2.2.2.2.2.1, r, u.2.2.2.2.2.2.2.2.2.2.2.2.2.1, u.2.2.2.2.2.2.2.2.2.2.2.2.2.2) : gU) ((x.1, s, x.2.2.1, x.2.2.2.1, x.2.2.2.2.1, x.2.2.2.2.2.1, x.2.2.2.2.2.2.1, x.2.2.2.2.2.2.2.1, x.2.2.2.2.2.2.2.2.1, x.2.2.2.2.2.2.2.2.2.1, x.2.2.2.2.2.2.2.2.2.2.1, x.2.2.2.2.2.2.2.2.2.2.2.1, x.2.2.2.2.2.2.2.2.2.2.2.2.1, x.2.2.2.2.2.2.2.2.2.2.2.2.2.1, x.2.2.2.2.2.2.2.2.2.2.2.2.2.2.1, x.2.2.2.2.2.2.2.2.2.2.2.2.2.2.2) : gX) :=
  ⟨D.hN, D.nf, D.fN, D.un, k2.trans D.xn, (k3 1 (by omega)).trans D.xo, D.ob, D.nd, h0, k0, h1, k1, h2, D.hm, D.um, (k3 15 (by omega)).trans D.xm, D.bs, D.b8, h5.trans D.fi, h3.trans D.fh, h4.trans D.hc, (k3 12 (by omega)).trans D.xq, (k3 29 (by omega)).trans D.be, D.ro⟩
/-- one byte: both have it, or both refuse -/
theorem d_byte (D : gD n0 f q m N pos u x) : (∃ b, b < 256 ∧ pos < m ∧ (∀ y o z, cR_nextByte (some 187) (some 163) (gH u y o z) = some (Int32.ofNat b, gH ((u.1, u.2.1, u.2.2.1, u.2.2.2.1, u.2.2.2.2.1, u.2.2.2.2.2.1, u.2.2.2.2.2.2.1, u.2.2.2.2.2.2.2.1, u.2.2.2.2.2.2.2.2.1, u.2.2.2.2.2.2.2.2.2.1, u.2.2.2.2.2.2.2.2.2.2.1, u.2.2.2.2.2.2.2.2.2.2.2.1, gup u.2.2.2.2.2.2.2.2.2.2.2.2.1 0 (Int32.ofNat (pos + 1)), u.2.2.2.2.2.2.2.2.2.2.2.2.2.1, u.2.2.2.2.2.2.2.2.2.2.2.2.2.2) : gU) y o z)) ∧ (∀ y o z, mM_next (some 188) (gH y x o z) = some (Int32.ofNat b, gH y ((x.1, gup (gup x.2.1 31 1) 32 (Int32.ofNat (pos + 1)), x.2.2.1, x.2.2.2.1, x.2.2.2.2.1, x.2.2.2.2.2.1, x.2.2.2.2.2.2.1, x.2.2.2.2.2.2.2.1, x.2.2.2.2.2.2.2.2.1, x.2.2.2.2.2.2.2.2.2.1, x.2.2.2.2.2.2.2.2.2.2.1, x.2.2.2.2.2.2.2.2.2.2.2.1, x.2.2.2.2.2.2.2.2.2.2.2.2.1, x.2.2.2.2.2.2.2.2.2.2.2.2.2.1, x.2.2.2.2.2.2.2.2.2.2.2.2.2.2.1, x.2.2.2.2.2.2.2.2.2.2.2.2.2.2.2) : gX) o z)) ∧ gD n0 f q m N (pos + 1) ((u.1, u.2.1, u.2.2.1, u.2.2.2.1, u.2.2.2.2.1, u.2.2.2.2.2.1, u.2.2.2.2.2.2.1, u.2.2.2.2.2.2.2.1, u.2.2.2.2.2.2.2.2.1, u.2.2.2.2.2.2.2.2.2.1, u.2.2.2.2.2.2.2.2.2.2.1, u.2.2.2.2.2.2.2.2.2.2.2.1, gup u.2.2.2.2.2.2.2.2.2.2.2.2.1 0 (Int32.ofNat (pos + 1)), u.2.2.2.2.2.2.2.2.2.2.2.2.2.1, u.2.2.2.2.2.2.2.2.2.2.2.2.2.2) : gU) ((x.1, gup (gup x.2.1 31 1) 32 (Int32.ofNat (pos + 1)), x.2.2.1, x.2.2.2.1, x.2.2.2.2.1, x.2.2.2.2.2.1, x.2.2.2.2.2.2.1, x.2.2.2.2.2.2.2.1, x.2.2.2.2.2.2.2.2.1, x.2.2.2.2.2.2.2.2.2.1, x.2.2.2.2.2.2.2.2.2.2.1, x.2.2.2.2.2.2.2.2.2.2.2.1, x.2.2.2.2.2.2.2.2.2.2.2.2.1, x.2.2.2.2.2.2.2.2.2.2.2.2.2.1, x.2.2.2.2.2.2.2.2.2.2.2.2.2.2.1, x.2.2.2.2.2.2.2.2.2.2.2.2.2.2.2) : gX)) ∨ ((∀ y o z, cR_nextByte (some 187) (some 163) (gH u y o z) = some (0, gH ((u.1, u.2.1, u.2.2.1, u.2.2.2.1, u.2.2.2.2.1, u.2.2.2.2.2.1, u.2.2.2.2.2.2.1, u.2.2.2.2.2.2.2.1, u.2.2.2.2.2.2.2.2.1, u.2.2.2.2.2.2.2.2.2.1, u.2.2.2.2.2.2.2.2.2.2.1, u.2.2.2.2.2.2.2.2.2.2.2.1, gup u.2.2.2.2.2.2.2.2.2.2.2.2.1 1 1, u.2.2.2.2.2.2.2.2.2.2.2.2.2.1, u.2.2.2.2.2.2.2.2.2.2.2.2.2.2) : gU) y o z)) ∧ ∀ y o z, mM_next (some 188) (gH y x o z) = some (0, gH y ((x.1, gup (gup x.2.1 31 0) 32 (Int32.ofNat (pos + 1)), x.2.2.1, x.2.2.2.1, x.2.2.2.2.1, x.2.2.2.2.2.1, x.2.2.2.2.2.2.1, x.2.2.2.2.2.2.2.1, x.2.2.2.2.2.2.2.2.1, x.2.2.2.2.2.2.2.2.2.1, x.2.2.2.2.2.2.2.2.2.2.1, x.2.2.2.2.2.2.2.2.2.2.2.1, x.2.2.2.2.2.2.2.2.2.2.2.2.1, x.2.2.2.2.2.2.2.2.2.2.2.2.2.1, x.2.2.2.2.2.2.2.2.2.2.2.2.2.2.1, x.2.2.2.2.2.2.2.2.2.2.2.2.2.2.2) : gX) o z)) := by
  have hp := D.hp
  have hm := D.hm
  have d10 : ¬ (1 : Int32) = 0 := by decide
  by_cases c : pos < m
  · left
    obtain ⟨b, b1, b2⟩ := D.b8 pos c
    have l : Int32.ofNat pos < Int32.ofNat m := n_ltl (by omega) (by omega) c
    refine ⟨b, b1, c, fun y o z => ?_, fun y o z => ?_, gD_r D D.wr rfl (by omega) rfl rfl rfl rfl rfl rfl (fun i hi => ?_)⟩
    · simp only [cR_nextByte, hi_187_1, Option.bind_some, D.wr, if_true, hi_187_0, D.pu, hi_163_1, D.um, if_pos l, n_succ, hp_187_0, hr_163_0, gup_eq, n_pred, ha_164 (show pos < 300 by omega), b2]
    · have e31 : gup x.2.1 31 1 31 = 1 := rfl
      have e32 : gup x.2.1 31 1 32 = Int32.ofNat pos := D.px
      simp only [mM_next, hi_188_31, Option.bind_some, D.gg, if_neg d10, hi_188_32, D.px, hi_188_15, D.xm, if_pos l, mM_next_24, or_true, not_true, if_false, hp_188_31, e31, hr_188_16, e32, ha_200 (show pos < 300 by omega), D.bs pos c, b2, mM_next_47, n_succ, hp_188_32]
    · rw [gup_ne (by omega), gup_ne (by omega)]
  · right
    obtain rfl : pos = m := by omega
    have l : ¬ Int32.ofNat pos < Int32.ofNat pos := n_nltl (by omega) (by omega) (by omega)
    refine ⟨fun y o z => ?_, fun y o z => ?_⟩
    · simp only [cR_nextByte, hi_187_1, Option.bind_some, D.wr, if_true, hi_187_0, D.pu, hi_163_1, D.um, if_neg l, hp_187_1]
    · have e31 : gup x.2.1 31 0 31 = 0 := rfl
      have e32 : gup x.2.1 31 0 32 = Int32.ofNat pos := D.px
      simp only [mM_next, hi_188_31, Option.bind_some, D.gg, if_neg d10, hi_188_32, D.px, hi_188_15, D.xm, if_neg l, mM_next_23, mM_next_24, true_or, not_true, if_false, hp_188_31, e31, if_true, mM_next_47, e32, n_succ, hp_188_32]
/-- once refused, no byte comes any more -/
theorem k_byteDead {y : gX} {o : Nat → Int64} {z : gx_H} (h : u.2.2.2.2.2.2.2.2.2.2.2.2.1 1 = 1) : cR_nextByte (some 187) (some 163) (gH u y o z) = some (0, gH u y o z) := by
  have e : gup u.2.2.2.2.2.2.2.2.2.2.2.2.1 1 1 = u.2.2.2.2.2.2.2.2.2.2.2.2.1 := gup_same h
  simp only [cR_nextByte, hi_187_1, Option.bind_some, h, show ¬ (1 : Int32) = 0 by decide, if_false, hp_187_1, e]
theorem k_uptoDead {y : gX} {o : Nat → Int64} {z : gx_H} {t : Nat} (h : u.2.2.2.2.2.2.2.2.2.2.2.2.1 1 = 1) (ht : t < 2 ^ 31) : cR_nextUpTo (some 187) (some 163) (Int32.ofNat t) (gH u y o z) = some (0, gH u y o z) := by
  simp only [cR_nextUpTo, ho_187, Option.bind_some, k_byteDead h, if_neg (show ¬ Int32.ofNat t < 0 from n_nn ht)]
/-- reads of one number: both sides have v, w, or both refuse -/
def gNx (n0 f q m N pos : Nat) (u : gU) (x : gX) {α β : Type} (A : gx_H → Option (α × gx_H)) (M : gx_H → Option (β × gx_H)) (ok : α → β → Prop) : Prop := (∃ a b r s pos', (∀ y o z, A (gH u y o z) = some (a, gH ((u.1, u.2.1, u.2.2.1, u.2.2.2.1, u.2.2.2.2.1, u.2.2.2.2.2.1, u.2.2.2.2.2.2.1, u.2.2.2.2.2.2.2.1, u.2.2.2.2.2.2.2.2.1, u.2.2.2.2.2.2.2.2.2.1, u.2.2.2.2.2.2.2.2.2.2.1, u.2.2.2.2.2.2.2.2.2.2.2.1, r, u.2.2.2.2.2.2.2.2.2.2.2.2.2.1, u.2.2.2.2.2.2.2.2.2.2.2.2.2.2) : gU) y o z)) ∧ (∀ y o z, M (gH y x o z) = some (b, gH y ((x.1, s, x.2.2.1, x.2.2.2.1, x.2.2.2.2.1, x.2.2.2.2.2.1, x.2.2.2.2.2.2.1, x.2.2.2.2.2.2.2.1, x.2.2.2.2.2.2.2.2.1, x.2.2.2.2.2.2.2.2.2.1, x.2.2.2.2.2.2.2.2.2.2.1, x.2.2.2.2.2.2.2.2.2.2.2.1, x.2.2.2.2.2.2.2.2.2.2.2.2.1, x.2.2.2.2.2.2.2.2.2.2.2.2.2.1, x.2.2.2.2.2.2.2.2.2.2.2.2.2.2.1, x.2.2.2.2.2.2.2.2.2.2.2.2.2.2.2) : gX) o z)) ∧ ok a b ∧ gD n0 f q m N pos' ((u.1, u.2.1, u.2.2.1, u.2.2.2.1, u.2.2.2.2.1, u.2.2.2.2.2.1, u.2.2.2.2.2.2.1, u.2.2.2.2.2.2.2.1, u.2.2.2.2.2.2.2.2.1, u.2.2.2.2.2.2.2.2.2.1, u.2.2.2.2.2.2.2.2.2.2.1, u.2.2.2.2.2.2.2.2.2.2.2.1, r, u.2.2.2.2.2.2.2.2.2.2.2.2.2.1, u.2.2.2.2.2.2.2.2.2.2.2.2.2.2) : gU) ((x.1, s, x.2.2.1, x.2.2.2.1, x.2.2.2.2.1, x.2.2.2.2.2.1, x.2.2.2.2.2.2.1, x.2.2.2.2.2.2.2.1, x.2.2.2.2.2.2.2.2.1, x.2.2.2.2.2.2.2.2.2.1, x.2.2.2.2.2.2.2.2.2.2.1, x.2.2.2.2.2.2.2.2.2.2.2.1, x.2.2.2.2.2.2.2.2.2.2.2.2.1, x.2.2.2.2.2.2.2.2.2.2.2.2.2.1, x.2.2.2.2.2.2.2.2.2.2.2.2.2.2.1, x.2.2.2.2.2.2.2.2.2.2.2.2.2.2.2) : gX) ∧ gKs x.2.1 s ∧ r 2 = u.2.2.2.2.2.2.2.2.2.2.2.2.1 2 ∧ r 3 = u.2.2.2.2.2.2.2.2.2.2.2.2.1 3) ∨ ∃ a b r s, (∀ y o z, A (gH u y o z) = some (a, gH ((u.1, u.2.1, u.2.2.1, u.2.2.2.1, u.2.2.2.2.1, u.2.2.2.2.2.1, u.2.2.2.2.2.2.1, u.2.2.2.2.2.2.2.1, u.2.2.2.2.2.2.2.2.1, u.2.2.2.2.2.2.2.2.2.1, u.2.2.2.2.2.2.2.2.2.2.1, u.2.2.2.2.2.2.2.2.2.2.2.1, r, u.2.2.2.2.2.2.2.2.2.2.2.2.2.1, u.2.2.2.2.2.2.2.2.2.2.2.2.2.2) : gU) y o z)) ∧ (∀ y o z, M (gH y x o z) = some (b, gH y ((x.1, s, x.2.2.1, x.2.2.2.1, x.2.2.2.2.1, x.2.2.2.2.2.1, x.2.2.2.2.2.2.1, x.2.2.2.2.2.2.2.1, x.2.2.2.2.2.2.2.2.1, x.2.2.2.2.2.2.2.2.2.1, x.2.2.2.2.2.2.2.2.2.2.1, x.2.2.2.2.2.2.2.2.2.2.2.1, x.2.2.2.2.2.2.2.2.2.2.2.2.1, x.2.2.2.2.2.2.2.2.2.2.2.2.2.1, x.2.2.2.2.2.2.2.2.2.2.2.2.2.2.1, x.2.2.2.2.2.2.2.2.2.2.2.2.2.2.2) : gX) o z)) ∧ r 1 = 1 ∧ s 31 = 0 ∧ gKs x.2.1 s
theorem d_next (D : gD n0 f q m N pos u x) : gNx n0 f q m N pos u x (cR_nextByte (some 187) (some 163)) (mM_next (some 188)) (fun a b => a = b ∧ ∃ t, t < 256 ∧ a = Int32.ofNat t) := by
  rcases d_byte D with ⟨b, b1, _, b3, b4, b5⟩ | ⟨b3, b4⟩
  · exact Or.inl ⟨_, _, _, _, pos + 1, b3, b4, ⟨rfl, b, b1, rfl⟩, b5, fun i hi => by rw [gup_ne (by omega), gup_ne (by omega)], rfl, rfl⟩
  · exact Or.inr ⟨_, _, _, _, b3, b4, rfl, rfl, fun i hi => by rw [gup_ne (by omega), gup_ne (by omega)]⟩
theorem d_upto {t : Nat} (ht : t < 256) (D : gD n0 f q m N pos u x) : gNx n0 f q m N pos u x (cR_nextUpTo (some 187) (some 163) (Int32.ofNat t)) (mM_nextUpTo (some 188) (Int32.ofNat t)) (fun a b => a = b ∧ ∃ j, j ≤ t ∧ a = Int32.ofNat j) := by
  have d10 : ¬ (1 : Int32) = 0 := by decide
  rcases d_byte D with ⟨b, b1, _, b3, b4, b5⟩ | ⟨b3, b4⟩
  · have e31 : gup (gup x.2.1 31 1) 32 (Int32.ofNat (pos + 1)) 31 = 1 := rfl
    by_cases c : b ≤ t
    · have l : ¬ Int32.ofNat t < Int32.ofNat b := n_nltl (by omega) (by omega) c
      refine Or.inl ⟨Int32.ofNat b, Int32.ofNat b, gup u.2.2.2.2.2.2.2.2.2.2.2.2.1 0 (Int32.ofNat (pos + 1)), gup (gup (gup x.2.1 31 1) 32 (Int32.ofNat (pos + 1))) 31 1, pos + 1, fun y o z => ?_, fun y o z => ?_, ⟨rfl, b, c, rfl⟩, ?_, fun i hi => by rw [gup_ne (by omega), gup_ne (by omega), gup_ne (by omega)], rfl, rfl⟩
      · simp only [cR_nextUpTo, ho_187, Option.bind_some, b3, if_neg l]
      · have e31' : gup (gup (gup x.2.1 31 1) 32 (Int32.ofNat (pos + 1))) 31 1 31 = 1 := rfl
        simp only [mM_nextUpTo, ho_188, Option.bind_some, b4, hi_188_31, e31, if_neg d10, if_neg l, mM_nextUpTo_23, or_true, not_true, if_false, hp_188_31, e31']
      · have := D.hm
        exact gD_r D D.wr rfl b5.hp rfl rfl rfl rfl rfl rfl (fun i hi => by rw [gup_ne (by omega), gup_ne (by omega), gup_ne (by omega)])
    · have l : Int32.ofNat t < Int32.ofNat b := n_ltl (by omega) (by omega) (by omega)
      refine Or.inr ⟨0, 0, gup (gup u.2.2.2.2.2.2.2.2.2.2.2.2.1 0 (Int32.ofNat (pos + 1))) 1 1, gup (gup (gup x.2.1 31 1) 32 (Int32.ofNat (pos + 1))) 31 0, fun y o z => ?_, fun y o z => ?_, rfl, rfl, fun i hi => by rw [gup_ne (by omega), gup_ne (by omega), gup_ne (by omega)]⟩
      · simp only [cR_nextUpTo, ho_187, Option.bind_some, b3, if_pos l, hp_187_1]
      · have e31' : gup (gup (gup x.2.1 31 1) 32 (Int32.ofNat (pos + 1))) 31 0 31 = 0 := rfl
        simp only [mM_nextUpTo, ho_188, Option.bind_some, b4, hi_188_31, e31, if_neg d10, if_pos l, mM_nextUpTo_22, mM_nextUpTo_23, true_or, not_true, if_false, hp_188_31, e31', if_true]
  · have e31 : gup (gup x.2.1 31 0) 32 (Int32.ofNat (pos + 1)) 31 = 0 := rfl
    have l : ¬ Int32.ofNat t < 0 := n_nn (by omega)
    refine Or.inr ⟨0, 0, gup u.2.2.2.2.2.2.2.2.2.2.2.2.1 1 1, gup (gup (gup x.2.1 31 0) 32 (Int32.ofNat (pos + 1))) 31 0, fun y o z => ?_, fun y o z => ?_, rfl, rfl, fun i hi => by rw [gup_ne (by omega), gup_ne (by omega), gup_ne (by omega)]⟩
    · simp only [cR_nextUpTo, ho_187, Option.bind_some, b3, if_neg l]
    · have e31' : gup (gup (gup x.2.1 31 0) 32 (Int32.ofNat (pos + 1))) 31 0 31 = 0 := rfl
      simp only [mM_nextUpTo, ho_188, Option.bind_some, b4, hi_188_31, e31, if_true, mM_nextUpTo_22, mM_nextUpTo_23, true_or, not_true, if_false, hp_188_31, e31']
end H
end
section
/-! lengthy numbers, read -/
theorem l_127 : ∀ b : Nat, b < 256 → Int32.ofNat b &&& 127 = Int32.ofNat (b % 128) := by decide +kernel
theorem l_sh : ∀ i : Nat, i < 10 → ((Int32.toInt64 ((7 : Int32) * Int32.ofNat i) &&& 63).toBitVec.smod 64).toNat = 7 * i := by decide +kernel
/-- the number with one more seven of bits -/
def gad (S : Int64) (b i : Nat) : Int64 := S ||| ((Int32.toInt64 (Int32.ofNat b &&& (127 : Int32))) <<< (Int32.toInt64 ((7 : Int32) * Int32.ofNat i) &&& 63))
theorem l_one {b i : Nat} (hb : b < 256) (hi : i < 10) : ((Int32.toInt64 (Int32.ofNat b &&& (127 : Int32))) <<< (Int32.toInt64 ((7 : Int32) * Int32.ofNat i) &&& 63)).toUInt64.toNat = (b % 128 * 2 ^ (7 * i)) % 2 ^ 64 := by
  rw [l_127 b hb]
  have h1 : Int32.toInt64 (Int32.ofNat (b % 128)) = Int64.ofNat (b % 128) := Int32.toInt64_ofNat' (by rw [Int32.toInt_maxValue]; omega)
  rw [h1]
  show ((Int64.ofNat (b % 128)).toBitVec <<< ((Int32.toInt64 ((7 : Int32) * Int32.ofNat i) &&& 63).toBitVec.smod 64)).toNat = _
  rw [BitVec.shiftLeft_eq', BitVec.toNat_shiftLeft, l_sh i hi, Int64.toBitVec_ofNat', BitVec.toNat_ofNat, Nat.shiftLeft_eq, Nat.mod_eq_of_lt (show b % 128 < 2 ^ 64 by omega)]
theorem l_gad {S : Int64} {b i : Nat} (hb : b < 256) (hi : i < 10) : (gad S b i).toUInt64.toNat = S.toUInt64.toNat ||| (b % 128 * 2 ^ (7 * i)) % 2 ^ 64 := by
  unfold gad
  rw [Int64.toUInt64_or, UInt64.toNat_or, l_one hb hi]
theorem l_ge {S : Int64} {b i : Nat} (hb : b < 256) (hi : i < 9 ∨ (i = 9 ∧ b % 128 < 2)) (h0 : 0 < b % 128) : 2 ^ (7 * i) ≤ (gad S b i).toUInt64.toNat := by
  rw [l_gad hb (by omega)]
  refine Nat.le_trans ?_ Nat.right_le_or
  have hlt : b % 128 * 2 ^ (7 * i) < 2 ^ 64 := by
    rcases hi with hi | ⟨rfl, h2⟩
    · have : b % 128 * 2 ^ (7 * i) < 2 ^ 7 * 2 ^ (7 * i) := Nat.mul_lt_mul_of_pos_right (by omega) (Nat.pow_pos (by omega))
      rw [← Nat.pow_add] at this
      exact Nat.lt_of_lt_of_le this (Nat.pow_le_pow_right (by omega) (by omega))
    · have : b % 128 = 1 := by omega
      rw [this]; decide
  rw [Nat.mod_eq_of_lt hlt]
  exact Nat.le_mul_of_pos_left _ h0
theorem l_64 : ∀ i : Nat, i < 11 → ((0 < (64 : Int32) - (7 : Int32) * Int32.ofNat i) ↔ i < 10) ∧ ((6 < (64 : Int32) - (7 : Int32) * Int32.ofNat i) ↔ i < 9) := by decide +kernel
theorem l_29 : ∀ b : Nat, b < 256 → ((Int32.ofNat b &&& 127 < (1 : Int32) <<< (((64 : Int32) - (7 : Int32) * Int32.ofNat 9) &&& 31)) ↔ b % 128 < 2) := by decide +kernel
section H
variable {n0 f q m N pos : Nat} {u : gU} {x : gX}
theorem r_lstop {bits l5 : Int32} {S : Int64} {i : Int32} {g : Nat} {y : gU} {o : Nat → Int64} {z : gx_H} (h : x.2.1 31 = 0) : mM_lengthy_8 (g + 1) (some 188) bits S i l5 (gH y x o z) = some (S, gH y x o z) := by
  rw [mM_lengthy_8]
  by_cases c : l5 = 0
  · rw [if_pos c]
  · rw [if_neg c, hi_188_31, Option.bind_some, if_pos h]
theorem r_l81 {bits : Int32} {S : Int64} {i b g : Nat} {y : gU} {o : Nat → Int64} {z : gx_H} : mM_lengthy_81 (mM_lengthy_8 (g + 1)) (some 188) bits S (Int32.ofNat i) (Int32.ofNat b) (some 188) (gH y x o z) = some (gad S b i, gH y ((x.1, gup x.2.1 31 0, x.2.2.1, x.2.2.2.1, x.2.2.2.2.1, x.2.2.2.2.2.1, x.2.2.2.2.2.2.1, x.2.2.2.2.2.2.2.1, x.2.2.2.2.2.2.2.2.1, x.2.2.2.2.2.2.2.2.2.1, x.2.2.2.2.2.2.2.2.2.2.1, x.2.2.2.2.2.2.2.2.2.2.2.1, x.2.2.2.2.2.2.2.2.2.2.2.2.1, x.2.2.2.2.2.2.2.2.2.2.2.2.2.1, x.2.2.2.2.2.2.2.2.2.2.2.2.2.2.1, x.2.2.2.2.2.2.2.2.2.2.2.2.2.2.2) : gX) o z) := by
  simp only [mM_lengthy_81, mM_lengthy_82, true_or, not_true, if_false, hp_188_31, Option.bind_some, mM_lengthy_112]
  split
  · exact r_lstop rfl
  · exact r_lstop rfl
theorem r_l77 {bits : Int32} {S : Int64} {i b g : Nat} {y : gU} {o : Nat → Int64} {z : gx_H} (hb : b < 256) : mM_lengthy_77 (mM_lengthy_8 (g + 1)) (some 188) bits S (Int32.ofNat i) (Int32.ofNat b) (some 188) (gH y x o z) = if b < 128 then some (gad S b i, gH y ((x.1, gup x.2.1 31 1, x.2.2.1, x.2.2.2.1, x.2.2.2.2.1, x.2.2.2.2.2.1, x.2.2.2.2.2.2.1, x.2.2.2.2.2.2.2.1, x.2.2.2.2.2.2.2.2.1, x.2.2.2.2.2.2.2.2.2.1, x.2.2.2.2.2.2.2.2.2.2.1, x.2.2.2.2.2.2.2.2.2.2.2.1, x.2.2.2.2.2.2.2.2.2.2.2.2.1, x.2.2.2.2.2.2.2.2.2.2.2.2.2.1, x.2.2.2.2.2.2.2.2.2.2.2.2.2.2.1, x.2.2.2.2.2.2.2.2.2.2.2.2.2.2.2) : gX) o z) else mM_lengthy_8 (g + 1) (some 188) bits (gad S b i) (Int32.ofNat (i + 1)) 1 (gH y ((x.1, gup x.2.1 31 1, x.2.2.1, x.2.2.2.1, x.2.2.2.2.1, x.2.2.2.2.2.1, x.2.2.2.2.2.2.1, x.2.2.2.2.2.2.2.1, x.2.2.2.2.2.2.2.2.1, x.2.2.2.2.2.2.2.2.2.1, x.2.2.2.2.2.2.2.2.2.2.1, x.2.2.2.2.2.2.2.2.2.2.2.1, x.2.2.2.2.2.2.2.2.2.2.2.2.1, x.2.2.2.2.2.2.2.2.2.2.2.2.2.1, x.2.2.2.2.2.2.2.2.2.2.2.2.2.2.1, x.2.2.2.2.2.2.2.2.2.2.2.2.2.2.2) : gX) o z) := by
  simp only [mM_lengthy_77, mM_lengthy_82, or_true, not_true, if_false, hp_188_31, Option.bind_some, mM_lengthy_112, n_succ]
  by_cases c : b < 128
  · rw [if_pos c, if_neg (show ¬ (127 : Int32) < Int32.ofNat b from n_nltl (n := 127) (by omega) (by omega) (by omega)), mM_lengthy_8, if_pos rfl]
    rfl
  · rw [if_neg c, if_pos (show (127 : Int32) < Int32.ofNat b from n_ltl (n := 127) (by omega) (by omega) (by omega))]
    rfl
theorem r_l67 {bits : Int32} {S : Int64} {i b g : Nat} {y : gU} {o : Nat → Int64} {z : gx_H} (hb : b < 256) (hi : i < 11) : mM_lengthy_67 (mM_lengthy_8 (g + 1)) (some 188) bits S (Int32.ofNat i) (Int32.ofNat b) (some 188) (gH y x o z) = if b = 0 ∧ ¬ i = 0 then some (gad S b i, gH y ((x.1, gup x.2.1 31 0, x.2.2.1, x.2.2.2.1, x.2.2.2.2.1, x.2.2.2.2.2.1, x.2.2.2.2.2.2.1, x.2.2.2.2.2.2.2.1, x.2.2.2.2.2.2.2.2.1, x.2.2.2.2.2.2.2.2.2.1, x.2.2.2.2.2.2.2.2.2.2.1, x.2.2.2.2.2.2.2.2.2.2.2.1, x.2.2.2.2.2.2.2.2.2.2.2.2.1, x.2.2.2.2.2.2.2.2.2.2.2.2.2.1, x.2.2.2.2.2.2.2.2.2.2.2.2.2.2.1, x.2.2.2.2.2.2.2.2.2.2.2.2.2.2.2) : gX) o z) else if b < 128 then some (gad S b i, gH y ((x.1, gup x.2.1 31 1, x.2.2.1, x.2.2.2.1, x.2.2.2.2.1, x.2.2.2.2.2.1, x.2.2.2.2.2.2.1, x.2.2.2.2.2.2.2.1, x.2.2.2.2.2.2.2.2.1, x.2.2.2.2.2.2.2.2.2.1, x.2.2.2.2.2.2.2.2.2.2.1, x.2.2.2.2.2.2.2.2.2.2.2.1, x.2.2.2.2.2.2.2.2.2.2.2.2.1, x.2.2.2.2.2.2.2.2.2.2.2.2.2.1, x.2.2.2.2.2.2.2.2.2.2.2.2.2.2.1, x.2.2.2.2.2.2.2.2.2.2.2.2.2.2.2) : gX) o z) else mM_lengthy_8 (g + 1) (some 188) bits (gad S b i) (Int32.ofNat (i + 1)) 1 (gH y ((x.1, gup x.2.1 31 1, x.2.2.1, x.2.2.2.1, x.2.2.2.2.1, x.2.2.2.2.2.1, x.2.2.2.2.2.2.1, x.2.2.2.2.2.2.2.1, x.2.2.2.2.2.2.2.2.1, x.2.2.2.2.2.2.2.2.2.1, x.2.2.2.2.2.2.2.2.2.2.1, x.2.2.2.2.2.2.2.2.2.2.2.1, x.2.2.2.2.2.2.2.2.2.2.2.2.1, x.2.2.2.2.2.2.2.2.2.2.2.2.2.1, x.2.2.2.2.2.2.2.2.2.2.2.2.2.2.1, x.2.2.2.2.2.2.2.2.2.2.2.2.2.2.2) : gX) o z) := by
  have eb : (Int32.ofNat b = 0) ↔ b = 0 := n_eq (m := 0) (by omega) (by omega)
  have ei : (Int32.ofNat i = 0) ↔ i = 0 := n_eq (m := 0) (by omega) (by omega)
  unfold mM_lengthy_67
  by_cases c : b = 0
  · rw [if_pos (eb.mpr c)]
    by_cases c2 : i = 0
    · rw [if_pos (ei.mpr c2), if_neg (fun q => q.2 c2)]; exact r_l77 hb
    · rw [if_neg (fun q => c2 (ei.mp q)), if_pos ⟨c, c2⟩]; exact r_l81
  · rw [if_neg (fun q => c (eb.mp q)), if_neg (fun q => c q.1)]; exact r_l77 hb
/-- the reference's turn, once a byte has come -/
theorem r_lstep {bits : Int32} {S : Int64} {i b g : Nat} {y : gU} {o : Nat → Int64} {z : gx_H} (D : gD n0 f q m N pos u x) (b4 : ∀ y o z, mM_next (some 188) (gH y x o z) = some (Int32.ofNat b, gH y ((x.1, gup (gup x.2.1 31 1) 32 (Int32.ofNat (pos + 1)), x.2.2.1, x.2.2.2.1, x.2.2.2.2.1, x.2.2.2.2.2.1, x.2.2.2.2.2.2.1, x.2.2.2.2.2.2.2.1, x.2.2.2.2.2.2.2.2.1, x.2.2.2.2.2.2.2.2.2.1, x.2.2.2.2.2.2.2.2.2.2.1, x.2.2.2.2.2.2.2.2.2.2.2.1, x.2.2.2.2.2.2.2.2.2.2.2.2.1, x.2.2.2.2.2.2.2.2.2.2.2.2.2.1, x.2.2.2.2.2.2.2.2.2.2.2.2.2.2.1, x.2.2.2.2.2.2.2.2.2.2.2.2.2.2.2) : gX) o z)) : mM_lengthy_8 (g + 1 + 1) (some 188) bits S (Int32.ofNat i) 1 (gH y x o z) = (if 0 < bits - (7 : Int32) * Int32.ofNat i then (if 6 < bits - (7 : Int32) * Int32.ofNat i then mM_lengthy_67 (mM_lengthy_8 (g + 1)) (some 188) bits S (Int32.ofNat i) (Int32.ofNat b) (some 188) (gH y ((x.1, gup (gup x.2.1 31 1) 32 (Int32.ofNat (pos + 1)), x.2.2.1, x.2.2.2.1, x.2.2.2.2.1, x.2.2.2.2.2.1, x.2.2.2.2.2.2.1, x.2.2.2.2.2.2.2.1, x.2.2.2.2.2.2.2.2.1, x.2.2.2.2.2.2.2.2.2.1, x.2.2.2.2.2.2.2.2.2.2.1, x.2.2.2.2.2.2.2.2.2.2.2.1, x.2.2.2.2.2.2.2.2.2.2.2.2.1, x.2.2.2.2.2.2.2.2.2.2.2.2.2.1, x.2.2.2.2.2.2.2.2.2.2.2.2.2.2.1, x.2.2.2.2.2.2.2.2.2.2.2.2.2.2.2) : gX) o z) else if (Int32.ofNat b &&& 127) < (1 : Int32) <<< ((bits - (7 : Int32) * Int32.ofNat i) &&& 31) then mM_lengthy_67 (mM_lengthy_8 (g + 1)) (some 188) bits S (Int32.ofNat i) (Int32.ofNat b) (some 188) (gH y ((x.1, gup (gup x.2.1 31 1) 32 (Int32.ofNat (pos + 1)), x.2.2.1, x.2.2.2.1, x.2.2.2.2.1, x.2.2.2.2.2.1, x.2.2.2.2.2.2.1, x.2.2.2.2.2.2.2.1, x.2.2.2.2.2.2.2.2.1, x.2.2.2.2.2.2.2.2.2.1, x.2.2.2.2.2.2.2.2.2.2.1, x.2.2.2.2.2.2.2.2.2.2.2.1, x.2.2.2.2.2.2.2.2.2.2.2.2.1, x.2.2.2.2.2.2.2.2.2.2.2.2.2.1, x.2.2.2.2.2.2.2.2.2.2.2.2.2.2.1, x.2.2.2.2.2.2.2.2.2.2.2.2.2.2.2) : gX) o z) else mM_lengthy_81 (mM_lengthy_8 (g + 1)) (some 188) bits S (Int32.ofNat i) (Int32.ofNat b) (some 188) (gH y ((x.1, gup (gup x.2.1 31 1) 32 (Int32.ofNat (pos + 1)), x.2.2.1, x.2.2.2.1, x.2.2.2.2.1, x.2.2.2.2.2.1, x.2.2.2.2.2.2.1, x.2.2.2.2.2.2.2.1, x.2.2.2.2.2.2.2.2.1, x.2.2.2.2.2.2.2.2.2.1, x.2.2.2.2.2.2.2.2.2.2.1, x.2.2.2.2.2.2.2.2.2.2.2.1, x.2.2.2.2.2.2.2.2.2.2.2.2.1, x.2.2.2.2.2.2.2.2.2.2.2.2.2.1, x.2.2.2.2.2.2.2.2.2.2.2.2.2.2.1, x.2.2.2.2.2.2.2.2.2.2.2.2.2.2.2) : gX) o z)) else mM_lengthy_81 (mM_lengthy_8 (g + 1)) (some 188) bits S (Int32.ofNat i) (Int32.ofNat b) (some 188) (gH y ((x.1, gup (gup x.2.1 31 1) 32 (Int32.ofNat (pos + 1)), x.2.2.1, x.2.2.2.1, x.2.2.2.2.1, x.2.2.2.2.2.1, x.2.2.2.2.2.2.1, x.2.2.2.2.2.2.2.1, x.2.2.2.2.2.2.2.2.1, x.2.2.2.2.2.2.2.2.2.1, x.2.2.2.2.2.2.2.2.2.2.1, x.2.2.2.2.2.2.2.2.2.2.2.1, x.2.2.2.2.2.2.2.2.2.2.2.2.1, x.2.2.2.2.2.2.2.2.2.2.2.2.2.1, x.2.2.2.2.2.2.2.2.2.2.2.2.2.2.1, x.2.2.2.2.2.2.2.2.2.2.2.2.2.2.2) : gX) o z)) := by
  have e31 : gup (gup x.2.1 31 1) 32 (Int32.ofNat (pos + 1)) 31 = 1 := rfl
  have d10 : ¬ (1 : Int32) = 0 := by decide
  rw [mM_lengthy_8]
  simp only [if_neg d10, hi_188_31, Option.bind_some, D.gg, ho_188, b4, e31]
theorem r_lnone {bits : Int32} {S : Int64} {i g : Nat} {y : gU} {o : Nat → Int64} {z : gx_H} (D : gD n0 f q m N pos u x) (b4 : ∀ y o z, mM_next (some 188) (gH y x o z) = some (0, gH y ((x.1, gup (gup x.2.1 31 0) 32 (Int32.ofNat (pos + 1)), x.2.2.1, x.2.2.2.1, x.2.2.2.2.1, x.2.2.2.2.2.1, x.2.2.2.2.2.2.1, x.2.2.2.2.2.2.2.1, x.2.2.2.2.2.2.2.2.1, x.2.2.2.2.2.2.2.2.2.1, x.2.2.2.2.2.2.2.2.2.2.1, x.2.2.2.2.2.2.2.2.2.2.2.1, x.2.2.2.2.2.2.2.2.2.2.2.2.1, x.2.2.2.2.2.2.2.2.2.2.2.2.2.1, x.2.2.2.2.2.2.2.2.2.2.2.2.2.2.1, x.2.2.2.2.2.2.2.2.2.2.2.2.2.2.2) : gX) o z)) : mM_lengthy_8 (g + 1 + 1) (some 188) bits S (Int32.ofNat i) 1 (gH y x o z) = some (gad S 0 i, gH y ((x.1, gup (gup (gup x.2.1 31 0) 32 (Int32.ofNat (pos + 1))) 31 0, x.2.2.1, x.2.2.2.1, x.2.2.2.2.1, x.2.2.2.2.2.1, x.2.2.2.2.2.2.1, x.2.2.2.2.2.2.2.1, x.2.2.2.2.2.2.2.2.1, x.2.2.2.2.2.2.2.2.2.1, x.2.2.2.2.2.2.2.2.2.2.1, x.2.2.2.2.2.2.2.2.2.2.2.1, x.2.2.2.2.2.2.2.2.2.2.2.2.1, x.2.2.2.2.2.2.2.2.2.2.2.2.2.1, x.2.2.2.2.2.2.2.2.2.2.2.2.2.2.1, x.2.2.2.2.2.2.2.2.2.2.2.2.2.2.2) : gX) o z) := by
  have e31 : gup (gup x.2.1 31 0) 32 (Int32.ofNat (pos + 1)) 31 = 0 := rfl
  have d10 : ¬ (1 : Int32) = 0 := by decide
  rw [mM_lengthy_8]
  simp only [if_neg d10, hi_188_31, Option.bind_some, D.gg, ho_188, b4, e31, if_true]
  exact r_l81 (b := 0)
/-- the class's turn at a last byte -/
theorem k_llast {S : Int64} {i b : Nat} {y : gX} {o : Nat → Int64} {z : gx_H} (hw : u.2.2.2.2.2.2.2.2.2.2.2.2.1 1 = 0) (hb : b < 128) (hi : i < 10) : (if 0 < Int32.ofNat i then (if Int32.ofNat b = 0 then cR_nextLengthy_57 (some 187) S (Int32.ofNat i) (Int32.ofNat b) 1 (gH u y o z) else cR_nextLengthy_56 (some 187) S (Int32.ofNat i) (Int32.ofNat b) (gH u y o z)) else cR_nextLengthy_56 (some 187) S (Int32.ofNat i) (Int32.ofNat b) (gH u y o z)) = some (S, gH ((u.1, u.2.1, u.2.2.1, u.2.2.2.1, u.2.2.2.2.1, u.2.2.2.2.2.1, u.2.2.2.2.2.2.1, u.2.2.2.2.2.2.2.1, u.2.2.2.2.2.2.2.2.1, u.2.2.2.2.2.2.2.2.2.1, u.2.2.2.2.2.2.2.2.2.2.1, u.2.2.2.2.2.2.2.2.2.2.2.1, gup u.2.2.2.2.2.2.2.2.2.2.2.2.1 1 (if (0 < i ∧ b = 0) ∨ (i = 9 ∧ 1 < b) then 1 else 0), u.2.2.2.2.2.2.2.2.2.2.2.2.2.1, u.2.2.2.2.2.2.2.2.2.2.2.2.2.2) : gU) y o z) := by
  have d10 : ¬ (1 : Int32) = 0 := by decide
  have e0 : (0 < Int32.ofNat i) ↔ 0 < i := n_lt (n := 0) (by omega) (by omega)
  have eb : (Int32.ofNat b = 0) ↔ b = 0 := n_eq (m := 0) (by omega) (by omega)
  have e9 : (Int32.ofNat i = 9) ↔ i = 9 := n_eq (m := 9) (by omega) (by omega)
  have e1 : (1 < Int32.ofNat b) ↔ 1 < b := n_lt (n := 1) (by omega) (by omega)
  simp only [e0, eb, cR_nextLengthy_57, cR_nextLengthy_56, cR_nextLengthy_76, cR_nextLengthy_77, e9, e1, hi_187_1, Option.bind_some, hw, if_true, hp_187_1, if_neg d10]
  by_cases c0 : 0 < i <;> by_cases cb : b = 0 <;> by_cases c9 : i = 9 <;> by_cases c1 : 1 < b <;> simp [c0, cb, c9, c1] <;> omega
theorem d_len64L : ∀ (r i g g2 : Nat) (S : Int64) (u : gU) (x : gX) (pos : Nat), i + r = 10 → gD n0 f q m N pos u x → gNx n0 f q m N pos u x (cR_nextLengthy_5 (g + r + 1) (some 187) (some 163) S (Int32.ofNat i)) (mM_lengthy_8 (g2 + r + 1 + 1) (some 188) 64 S (Int32.ofNat i) 1) (fun a b => a = b ∧ (1 ≤ i → 2 ^ (7 * i) ≤ a.toUInt64.toNat)) := by
  intro r
  induction r with
  | zero =>
    intro i g g2 S u x pos h D
    obtain rfl : i = 10 := by omega
    have cl : ∀ y o z, cR_nextLengthy_5 (g + 0 + 1) (some 187) (some 163) S (Int32.ofNat 10) (gH u y o z) = some (S, gH ((u.1, u.2.1, u.2.2.1, u.2.2.2.1, u.2.2.2.2.1, u.2.2.2.2.2.1, u.2.2.2.2.2.2.1, u.2.2.2.2.2.2.2.1, u.2.2.2.2.2.2.2.2.1, u.2.2.2.2.2.2.2.2.2.1, u.2.2.2.2.2.2.2.2.2.2.1, u.2.2.2.2.2.2.2.2.2.2.2.1, gup u.2.2.2.2.2.2.2.2.2.2.2.2.1 1 1, u.2.2.2.2.2.2.2.2.2.2.2.2.2.1, u.2.2.2.2.2.2.2.2.2.2.2.2.2.2) : gU) y o z) := by
      intro y o z
      rw [cR_nextLengthy_5, if_neg (show ¬ Int32.ofNat 10 < 10 by decide), hp_187_1]
      rfl
    have l := l_64 10 (by omega)
    rcases d_byte D with ⟨b, b1, _, b3, b4, b5⟩ | ⟨b3, b4⟩
    · refine Or.inr ⟨_, gad S b 10, _, gup (gup (gup x.2.1 31 1) 32 (Int32.ofNat (pos + 1))) 31 0, cl, fun y o z => ?_, rfl, rfl, ?_⟩
      · rw [r_lstep D b4, if_neg (fun q => by have := l.1.mp q; omega), r_l81]
      · exact fun i hi => by rw [gup_ne (by omega), gup_ne (by omega), gup_ne (by omega)]
    · exact Or.inr ⟨_, _, _, _, cl, fun y o z => r_lnone D b4, rfl, rfl, fun i hi => by rw [gup_ne (by omega), gup_ne (by omega), gup_ne (by omega)]⟩
  | succ r ih =>
    intro i g g2 S u x pos h D
    have l := l_64 i (by omega)
    have hi : i < 10 := by omega
    have i10 : Int32.ofNat i < 10 := n_ltl (m := 10) (by omega) (by omega) hi
    rcases d_byte D with ⟨b, b1, _, b3, b4, b5⟩ | ⟨b3, b4⟩
    · have ks3 : gKs x.2.1 (gup (gup x.2.1 31 1) 32 (Int32.ofNat (pos + 1))) := fun j hj => by rw [gup_ne (by omega), gup_ne (by omega)]
      have eb128 : (Int32.ofNat b < 128) ↔ b < 128 := n_lt (m := 128) (by omega) (by omega)
      by_cases c : b < 128
      · have cl : ∀ y o z, cR_nextLengthy_5 (g + (r + 1) + 1) (some 187) (some 163) S (Int32.ofNat i) (gH u y o z) = some (gad S b i, gH ((u.1, u.2.1, u.2.2.1, u.2.2.2.1, u.2.2.2.2.1, u.2.2.2.2.2.1, u.2.2.2.2.2.2.1, u.2.2.2.2.2.2.2.1, u.2.2.2.2.2.2.2.2.1, u.2.2.2.2.2.2.2.2.2.1, u.2.2.2.2.2.2.2.2.2.2.1, u.2.2.2.2.2.2.2.2.2.2.2.1, gup (gup u.2.2.2.2.2.2.2.2.2.2.2.2.1 0 (Int32.ofNat (pos + 1))) 1 (if (0 < i ∧ b = 0) ∨ (i = 9 ∧ 1 < b) then 1 else 0), u.2.2.2.2.2.2.2.2.2.2.2.2.2.1, u.2.2.2.2.2.2.2.2.2.2.2.2.2.2) : gU) y o z) := by
          intro y o z
          rw [cR_nextLengthy_5]
          simp only [if_pos i10, ho_187, Option.bind_some, b3, eb128, if_pos c]
          exact k_llast (u := ((u.1, u.2.1, u.2.2.1, u.2.2.2.1, u.2.2.2.2.1, u.2.2.2.2.2.1, u.2.2.2.2.2.2.1, u.2.2.2.2.2.2.2.1, u.2.2.2.2.2.2.2.2.1, u.2.2.2.2.2.2.2.2.2.1, u.2.2.2.2.2.2.2.2.2.2.1, u.2.2.2.2.2.2.2.2.2.2.2.1, gup u.2.2.2.2.2.2.2.2.2.2.2.2.1 0 (Int32.ofNat (pos + 1)), u.2.2.2.2.2.2.2.2.2.2.2.2.2.1, u.2.2.2.2.2.2.2.2.2.2.2.2.2.2) : gU)) D.wr c hi
        by_cases bad : (0 < i ∧ b = 0) ∨ (i = 9 ∧ 1 < b)
        · simp only [if_pos bad] at cl
          refine Or.inr ⟨_, gad S b i, _, gup (gup (gup x.2.1 31 1) 32 (Int32.ofNat (pos + 1))) 31 0, cl, fun y o z => ?_, rfl, rfl, fun j hj => by rw [gup_ne (by omega), gup_ne (by omega), gup_ne (by omega)]⟩
          rw [show g2 + (r + 1) + 1 + 1 = (g2 + r + 1) + 1 + 1 by omega, r_lstep D b4, if_pos (l.1.mpr hi)]
          by_cases c9 : i < 9
          · rw [if_pos (l.2.mpr c9), r_l67 b1 (by omega), if_pos (by omega)]
          · obtain rfl : i = 9 := by omega
            rw [if_neg (fun q => by have := l.2.mp q; omega)]
            by_cases c2 : b % 128 < 2
            · rw [if_pos ((l_29 b b1).mpr c2), r_l67 b1 (by omega), if_pos (by omega)]
            · rw [if_neg (fun q => c2 ((l_29 b b1).mp q)), r_l81]
        · simp only [if_neg bad] at cl
          refine Or.inl ⟨_, gad S b i, _, gup (gup (gup x.2.1 31 1) 32 (Int32.ofNat (pos + 1))) 31 1, pos + 1, cl, fun y o z => ?_, ⟨rfl, fun i1 => l_ge b1 (by omega) (by omega)⟩, ?_, fun j hj => by rw [gup_ne (by omega), gup_ne (by omega), gup_ne (by omega)], rfl, rfl⟩
          · rw [show g2 + (r + 1) + 1 + 1 = (g2 + r + 1) + 1 + 1 by omega, r_lstep D b4, if_pos (l.1.mpr hi)]
            by_cases c9 : i < 9
            · rw [if_pos (l.2.mpr c9), r_l67 b1 (by omega), if_neg (by omega), if_pos c]
            · obtain rfl : i = 9 := by omega
              rw [if_neg (fun q => by have := l.2.mp q; omega), if_pos ((l_29 b b1).mpr (by omega)), r_l67 b1 (by omega), if_neg (by omega), if_pos c]
          · exact gD_r D rfl rfl b5.hp rfl rfl rfl rfl rfl rfl (fun j hj => by rw [gup_ne (by omega), gup_ne (by omega), gup_ne (by omega)])
      · have cl : ∀ y o z, cR_nextLengthy_5 (g + (r + 1) + 1) (some 187) (some 163) S (Int32.ofNat i) (gH u y o z) = cR_nextLengthy_5 (g + r + 1) (some 187) (some 163) (gad S b i) (Int32.ofNat (i + 1)) (gH ((u.1, u.2.1, u.2.2.1, u.2.2.2.1, u.2.2.2.2.1, u.2.2.2.2.2.1, u.2.2.2.2.2.2.1, u.2.2.2.2.2.2.2.1, u.2.2.2.2.2.2.2.2.1, u.2.2.2.2.2.2.2.2.2.1, u.2.2.2.2.2.2.2.2.2.2.1, u.2.2.2.2.2.2.2.2.2.2.2.1, gup u.2.2.2.2.2.2.2.2.2.2.2.2.1 0 (Int32.ofNat (pos + 1)), u.2.2.2.2.2.2.2.2.2.2.2.2.2.1, u.2.2.2.2.2.2.2.2.2.2.2.2.2.2) : gU) y o z) := by
          intro y o z
          rw [show g + (r + 1) + 1 = (g + r + 1) + 1 by omega, cR_nextLengthy_5]
          simp only [if_pos i10, ho_187, Option.bind_some, b3, eb128, if_neg c, n_succ]
          rfl
        by_cases go : i < 9 ∨ b % 128 < 2
        · have rf : ∀ y o z, mM_lengthy_8 (g2 + (r + 1) + 1 + 1) (some 188) 64 S (Int32.ofNat i) 1 (gH y x o z) = mM_lengthy_8 (g2 + r + 1 + 1) (some 188) 64 (gad S b i) (Int32.ofNat (i + 1)) 1 (gH y ((x.1, gup (gup (gup x.2.1 31 1) 32 (Int32.ofNat (pos + 1))) 31 1, x.2.2.1, x.2.2.2.1, x.2.2.2.2.1, x.2.2.2.2.2.1, x.2.2.2.2.2.2.1, x.2.2.2.2.2.2.2.1, x.2.2.2.2.2.2.2.2.1, x.2.2.2.2.2.2.2.2.2.1, x.2.2.2.2.2.2.2.2.2.2.1, x.2.2.2.2.2.2.2.2.2.2.2.1, x.2.2.2.2.2.2.2.2.2.2.2.2.1, x.2.2.2.2.2.2.2.2.2.2.2.2.2.1, x.2.2.2.2.2.2.2.2.2.2.2.2.2.2.1, x.2.2.2.2.2.2.2.2.2.2.2.2.2.2.2) : gX) o z) := by
            intro y o z
            rw [show g2 + (r + 1) + 1 + 1 = (g2 + r + 1) + 1 + 1 by omega, r_lstep D b4, if_pos (l.1.mpr hi)]
            by_cases c9 : i < 9
            · rw [if_pos (l.2.mpr c9), r_l67 b1 (by omega), if_neg (by omega), if_neg c]
            · obtain rfl : i = 9 := by omega
              rw [if_neg (fun q => by have := l.2.mp q; omega), if_pos ((l_29 b b1).mpr (by omega)), r_l67 b1 (by omega), if_neg (by omega), if_neg c]
          have D2 : gD n0 f q m N (pos + 1) ((u.1, u.2.1, u.2.2.1, u.2.2.2.1, u.2.2.2.2.1, u.2.2.2.2.2.1, u.2.2.2.2.2.2.1, u.2.2.2.2.2.2.2.1, u.2.2.2.2.2.2.2.2.1, u.2.2.2.2.2.2.2.2.2.1, u.2.2.2.2.2.2.2.2.2.2.1, u.2.2.2.2.2.2.2.2.2.2.2.1, gup u.2.2.2.2.2.2.2.2.2.2.2.2.1 0 (Int32.ofNat (pos + 1)), u.2.2.2.2.2.2.2.2.2.2.2.2.2.1, u.2.2.2.2.2.2.2.2.2.2.2.2.2.2) : gU) ((x.1, gup (gup (gup x.2.1 31 1) 32 (Int32.ofNat (pos + 1))) 31 1, x.2.2.1, x.2.2.2.1, x.2.2.2.2.1, x.2.2.2.2.2.1, x.2.2.2.2.2.2.1, x.2.2.2.2.2.2.2.1, x.2.2.2.2.2.2.2.2.1, x.2.2.2.2.2.2.2.2.2.1, x.2.2.2.2.2.2.2.2.2.2.1, x.2.2.2.2.2.2.2.2.2.2.2.1, x.2.2.2.2.2.2.2.2.2.2.2.2.1, x.2.2.2.2.2.2.2.2.2.2.2.2.2.1, x.2.2.2.2.2.2.2.2.2.2.2.2.2.2.1, x.2.2.2.2.2.2.2.2.2.2.2.2.2.2.2) : gX) := gD_r D D.wr rfl b5.hp rfl rfl rfl rfl rfl rfl (fun j hj => by rw [gup_ne (by omega), gup_ne (by omega), gup_ne (by omega)])
          have ks4 : gKs x.2.1 (gup (gup (gup x.2.1 31 1) 32 (Int32.ofNat (pos + 1))) 31 1) := fun j hj => by rw [gup_ne (by omega), gup_ne (by omega), gup_ne (by omega)]
          rcases ih (i + 1) g g2 (gad S b i) _ _ (pos + 1) (by omega) D2 with ⟨a, b', r', s, pos', k1, k2, k3, k4, k5, k6, k7⟩ | ⟨a, b', r', s, k1, k2, k3, k4, k5⟩
          · refine Or.inl ⟨a, b', r', s, pos', fun y o z => (cl y o z).trans (k1 y o z), fun y o z => (rf y o z).trans (k2 y o z), ⟨k3.1, fun i1 => ?_⟩, k4, gKs_trans ks4 k5, k6, k7⟩
            exact Nat.le_trans (Nat.pow_le_pow_right (by omega) (by omega)) (k3.2 (by omega))
          · exact Or.inr ⟨a, b', r', s, fun y o z => (cl y o z).trans (k1 y o z), fun y o z => (rf y o z).trans (k2 y o z), k3, k4, gKs_trans ks4 k5⟩
        · obtain rfl : i = 9 := by omega
          obtain rfl : r = 0 := by omega
          refine Or.inr ⟨gad S b 9, gad S b 9, gup (gup u.2.2.2.2.2.2.2.2.2.2.2.2.1 0 (Int32.ofNat (pos + 1))) 1 1, gup (gup (gup x.2.1 31 1) 32 (Int32.ofNat (pos + 1))) 31 0, fun y o z => ?_, fun y o z => ?_, rfl, rfl, fun j hj => by rw [gup_ne (by omega), gup_ne (by omega), gup_ne (by omega)]⟩
          · rw [cl, cR_nextLengthy_5, if_neg (show ¬ Int32.ofNat (9 + 1) < 10 by decide), hp_187_1]
            rfl
          · rw [show g2 + (0 + 1) + 1 + 1 = (g2 + 0 + 1) + 1 + 1 by omega, r_lstep D b4, if_pos (l.1.mpr hi), if_neg (fun q => by have := l.2.mp q; omega), if_neg (fun q => go (Or.inr ((l_29 b b1).mp q))), r_l81]
    · refine Or.inr ⟨gad S 0 i, gad S 0 i, gup (gup u.2.2.2.2.2.2.2.2.2.2.2.2.1 1 1) 1 1, _, fun y o z => ?_, fun y o z => r_lnone (g := g2 + r + 1) D b4, rfl, rfl, fun j hj => by rw [gup_ne (by omega), gup_ne (by omega), gup_ne (by omega)]⟩
      rw [cR_nextLengthy_5]
      have w1 : gup u.2.2.2.2.2.2.2.2.2.2.2.2.1 1 1 1 = 1 := rfl
      simp only [if_pos i10, ho_187, Option.bind_some, b3, if_pos (show (0 : Int32) < 128 by decide), cR_nextLengthy_57, cR_nextLengthy_56, cR_nextLengthy_76, cR_nextLengthy_77, hi_187_1, w1, show ¬ (1 : Int32) = 0 by decide, if_false, hp_187_1, ite_self, if_true]
      rfl
end H
end
section
theorem l_32 : ∀ i : Nat, i < 6 → ((0 < (32 : Int32) - (7 : Int32) * Int32.ofNat i) ↔ i < 5) ∧ ((6 < (32 : Int32) - (7 : Int32) * Int32.ofNat i) ↔ i < 4) := by decide +kernel
theorem l_416 : ∀ b : Nat, b < 256 → ((Int32.ofNat b &&& 127 < (1 : Int32) <<< (((32 : Int32) - (7 : Int32) * Int32.ofNat 4) &&& 31)) ↔ b % 128 < 16) := by decide +kernel
theorem l_lt {S : Int64} {b i : Nat} (hb : b < 256) (hi : i < 4) (hS : S.toUInt64.toNat < 2 ^ (7 * i)) : (gad S b i).toUInt64.toNat < 2 ^ (7 * (i + 1)) := by
  rw [l_gad hb (by omega)]
  have h7 : b % 128 * 2 ^ (7 * i) < 2 ^ (7 * (i + 1)) := by
    have : b % 128 * 2 ^ (7 * i) < 2 ^ 7 * 2 ^ (7 * i) := Nat.mul_lt_mul_of_pos_right (by omega) (Nat.pow_pos (by omega))
    rw [← Nat.pow_add] at this
    rw [show 7 * (i + 1) = 7 + 7 * i by omega]
    exact this
  refine Nat.or_lt_two_pow (Nat.lt_of_lt_of_le hS (Nat.pow_le_pow_right (by omega) (by omega))) (Nat.lt_of_le_of_lt (Nat.mod_le _ _) h7)
theorem l_lt4 {S : Int64} {b : Nat} (hb : b < 256) (h16 : b % 128 < 16) (hS : S.toUInt64.toNat < 2 ^ 28) : (gad S b 4).toUInt64.toNat < 2 ^ 32 := by
  rw [l_gad hb (by omega)]
  refine Nat.or_lt_two_pow (Nat.lt_of_lt_of_le hS (Nat.pow_le_pow_right (by omega) (by omega))) (Nat.lt_of_le_of_lt (Nat.mod_le _ _) ?_)
  have : (2 : Nat) ^ (7 * 4) = 268435456 := by decide
  rw [this]; omega
theorem l_ge4 {S : Int64} {b : Nat} (hb : b < 256) (h16 : ¬ b % 128 < 16) : 2 ^ 32 ≤ (gad S b 4).toUInt64.toNat := by
  rw [l_gad hb (by omega)]
  refine Nat.le_trans ?_ Nat.right_le_or
  have e : (2 : Nat) ^ (7 * 4) = 268435456 := by decide
  rw [e, Nat.mod_eq_of_lt (by omega)]
  omega
section H
variable {n0 f q m N pos : Nat} {u : gU} {x : gX}
theorem d_len64 (D : gD n0 f q m N pos u x) : gNx n0 f q m N pos u x (cR_nextLengthy (some 187) (some 163)) (mM_lengthy (some 188) 64) (fun a b => a = b) := by
  obtain ⟨G, hG⟩ : ∃ G, 1000000000000000 = G + 10 + 1 := ⟨999999999999989, rfl⟩
  obtain ⟨G2, hG2⟩ : ∃ G, 1000000000000000 = G + 10 + 1 + 1 := ⟨999999999999988, rfl⟩
  have e1 : ∀ h, cR_nextLengthy (some 187) (some 163) h = cR_nextLengthy_5 (G + 10 + 1) (some 187) (some 163) 0 (Int32.ofNat 0) h := fun h => by
    unfold cR_nextLengthy; rw [hG]; rfl
  have e2 : ∀ h, mM_lengthy (some 188) 64 h = mM_lengthy_8 (G2 + 10 + 1 + 1) (some 188) 64 0 (Int32.ofNat 0) 1 h := fun h => by
    unfold mM_lengthy; rw [hG2]; rfl
  rcases d_len64L 10 0 G G2 0 u x pos (by omega) D with ⟨a, b, r, s, pos', k1, k2, k3, k4⟩ | ⟨a, b, r, s, k1, k2, k3⟩
  · exact Or.inl ⟨a, b, r, s, pos', fun y o z => (e1 _).trans (k1 y o z), fun y o z => (e2 _).trans (k2 y o z), k3.1, k4⟩
  · exact Or.inr ⟨a, b, r, s, fun y o z => (e1 _).trans (k1 y o z), fun y o z => (e2 _).trans (k2 y o z), k3⟩
/-- a number of 32 bits: both have it, or the reference refuses and the class does or has one too large -/
def gN32 (n0 f q m N : Nat) (u : gU) (x : gX) (A M : gx_H → Option (Int64 × gx_H)) : Prop := (∃ a r s pos', (∀ y o z, A (gH u y o z) = some (a, gH ((u.1, u.2.1, u.2.2.1, u.2.2.2.1, u.2.2.2.2.1, u.2.2.2.2.2.1, u.2.2.2.2.2.2.1, u.2.2.2.2.2.2.2.1, u.2.2.2.2.2.2.2.2.1, u.2.2.2.2.2.2.2.2.2.1, u.2.2.2.2.2.2.2.2.2.2.1, u.2.2.2.2.2.2.2.2.2.2.2.1, r, u.2.2.2.2.2.2.2.2.2.2.2.2.2.1, u.2.2.2.2.2.2.2.2.2.2.2.2.2.2) : gU) y o z)) ∧ (∀ y o z, M (gH y x o z) = some (a, gH y ((x.1, s, x.2.2.1, x.2.2.2.1, x.2.2.2.2.1, x.2.2.2.2.2.1, x.2.2.2.2.2.2.1, x.2.2.2.2.2.2.2.1, x.2.2.2.2.2.2.2.2.1, x.2.2.2.2.2.2.2.2.2.1, x.2.2.2.2.2.2.2.2.2.2.1, x.2.2.2.2.2.2.2.2.2.2.2.1, x.2.2.2.2.2.2.2.2.2.2.2.2.1, x.2.2.2.2.2.2.2.2.2.2.2.2.2.1, x.2.2.2.2.2.2.2.2.2.2.2.2.2.2.1, x.2.2.2.2.2.2.2.2.2.2.2.2.2.2.2) : gX) o z)) ∧ a.toUInt64.toNat < 2 ^ 32 ∧ gD n0 f q m N pos' ((u.1, u.2.1, u.2.2.1, u.2.2.2.1, u.2.2.2.2.1, u.2.2.2.2.2.1, u.2.2.2.2.2.2.1, u.2.2.2.2.2.2.2.1, u.2.2.2.2.2.2.2.2.1, u.2.2.2.2.2.2.2.2.2.1, u.2.2.2.2.2.2.2.2.2.2.1, u.2.2.2.2.2.2.2.2.2.2.2.1, r, u.2.2.2.2.2.2.2.2.2.2.2.2.2.1, u.2.2.2.2.2.2.2.2.2.2.2.2.2.2) : gU) ((x.1, s, x.2.2.1, x.2.2.2.1, x.2.2.2.2.1, x.2.2.2.2.2.1, x.2.2.2.2.2.2.1, x.2.2.2.2.2.2.2.1, x.2.2.2.2.2.2.2.2.1, x.2.2.2.2.2.2.2.2.2.1, x.2.2.2.2.2.2.2.2.2.2.1, x.2.2.2.2.2.2.2.2.2.2.2.1, x.2.2.2.2.2.2.2.2.2.2.2.2.1, x.2.2.2.2.2.2.2.2.2.2.2.2.2.1, x.2.2.2.2.2.2.2.2.2.2.2.2.2.2.1, x.2.2.2.2.2.2.2.2.2.2.2.2.2.2.2) : gX) ∧ gKs x.2.1 s ∧ r 2 = u.2.2.2.2.2.2.2.2.2.2.2.2.1 2 ∧ r 3 = u.2.2.2.2.2.2.2.2.2.2.2.2.1 3) ∨ ∃ a b r s, (∀ y o z, A (gH u y o z) = some (a, gH ((u.1, u.2.1, u.2.2.1, u.2.2.2.1, u.2.2.2.2.1, u.2.2.2.2.2.1, u.2.2.2.2.2.2.1, u.2.2.2.2.2.2.2.1, u.2.2.2.2.2.2.2.2.1, u.2.2.2.2.2.2.2.2.2.1, u.2.2.2.2.2.2.2.2.2.2.1, u.2.2.2.2.2.2.2.2.2.2.2.1, r, u.2.2.2.2.2.2.2.2.2.2.2.2.2.1, u.2.2.2.2.2.2.2.2.2.2.2.2.2.2) : gU) y o z)) ∧ (∀ y o z, M (gH y x o z) = some (b, gH y ((x.1, s, x.2.2.1, x.2.2.2.1, x.2.2.2.2.1, x.2.2.2.2.2.1, x.2.2.2.2.2.2.1, x.2.2.2.2.2.2.2.1, x.2.2.2.2.2.2.2.2.1, x.2.2.2.2.2.2.2.2.2.1, x.2.2.2.2.2.2.2.2.2.2.1, x.2.2.2.2.2.2.2.2.2.2.2.1, x.2.2.2.2.2.2.2.2.2.2.2.2.1, x.2.2.2.2.2.2.2.2.2.2.2.2.2.1, x.2.2.2.2.2.2.2.2.2.2.2.2.2.2.1, x.2.2.2.2.2.2.2.2.2.2.2.2.2.2.2) : gX) o z)) ∧ (r 1 = 1 ∨ 2 ^ 32 ≤ a.toUInt64.toNat) ∧ s 31 = 0 ∧ gKs x.2.1 s
theorem d_len32L : ∀ (r i g g2 : Nat) (S : Int64) (u : gU) (x : gX) (pos : Nat), i + r = 5 → S.toUInt64.toNat < 2 ^ (7 * i) → gD n0 f q m N pos u x → gN32 n0 f q m N u x (cR_nextLengthy_5 (g + (r + 5) + 1) (some 187) (some 163) S (Int32.ofNat i)) (mM_lengthy_8 (g2 + r + 1 + 1) (some 188) 32 S (Int32.ofNat i) 1) := by
  have far : ∀ (g : Nat) (S : Int64) (u : gU) (x : gX) (pos : Nat), gD n0 f q m N pos u x → ∃ a r, (∀ y o z, cR_nextLengthy_5 (g + 5 + 1) (some 187) (some 163) S (Int32.ofNat 5) (gH u y o z) = some (a, gH ((u.1, u.2.1, u.2.2.1, u.2.2.2.1, u.2.2.2.2.1, u.2.2.2.2.2.1, u.2.2.2.2.2.2.1, u.2.2.2.2.2.2.2.1, u.2.2.2.2.2.2.2.2.1, u.2.2.2.2.2.2.2.2.2.1, u.2.2.2.2.2.2.2.2.2.2.1, u.2.2.2.2.2.2.2.2.2.2.2.1, r, u.2.2.2.2.2.2.2.2.2.2.2.2.2.1, u.2.2.2.2.2.2.2.2.2.2.2.2.2.2) : gU) y o z)) ∧ (r 1 = 1 ∨ 2 ^ 32 ≤ a.toUInt64.toNat) := by
    intro g S u x pos D
    rcases d_len64L 5 5 g 0 S u x pos (by omega) D with ⟨a, b, r, s, pos', k1, k2, k3, k4⟩ | ⟨a, b, r, s, k1, k2, k3, k4⟩
    · exact ⟨a, r, k1, Or.inr (Nat.le_trans (by decide) (k3.2 (by omega)))⟩
    · exact ⟨a, r, k1, Or.inl k3⟩
  intro r
  induction r with
  | zero =>
    intro i g g2 S u x pos h hS D
    obtain rfl : i = 5 := by omega
    obtain ⟨a, r, k1, k2⟩ := far g S u x pos D
    rw [show g + (0 + 5) + 1 = g + 5 + 1 by omega]
    have l := l_32 5 (by omega)
    rcases d_byte D with ⟨b, b1, _, b3, b4, b5⟩ | ⟨b3, b4⟩
    · refine Or.inr ⟨a, gad S b 5, r, gup (gup (gup x.2.1 31 1) 32 (Int32.ofNat (pos + 1))) 31 0, k1, fun y o z => ?_, k2, rfl, fun j hj => by rw [gup_ne (by omega), gup_ne (by omega), gup_ne (by omega)]⟩
      rw [r_lstep D b4, if_neg (fun q => by have := l.1.mp q; omega), r_l81]
    · exact Or.inr ⟨a, _, r, _, k1, fun y o z => r_lnone D b4, k2, rfl, fun j hj => by rw [gup_ne (by omega), gup_ne (by omega), gup_ne (by omega)]⟩
  | succ r ih =>
    intro i g g2 S u x pos h hS D
    have l := l_32 i (by omega)
    have hi : i < 5 := by omega
    have i10 : Int32.ofNat i < 10 := n_ltl (m := 10) (by omega) (by omega) (by omega)
    rcases d_byte D with ⟨b, b1, _, b3, b4, b5⟩ | ⟨b3, b4⟩
    · have eb128 : (Int32.ofNat b < 128) ↔ b < 128 := n_lt (m := 128) (by omega) (by omega)
      have ks : ∀ v, gKs x.2.1 (gup (gup (gup x.2.1 31 1) 32 (Int32.ofNat (pos + 1))) 31 v) := fun v j hj => by rw [gup_ne (by omega), gup_ne (by omega), gup_ne (by omega)]
      have D2 : gD n0 f q m N (pos + 1) ((u.1, u.2.1, u.2.2.1, u.2.2.2.1, u.2.2.2.2.1, u.2.2.2.2.2.1, u.2.2.2.2.2.2.1, u.2.2.2.2.2.2.2.1, u.2.2.2.2.2.2.2.2.1, u.2.2.2.2.2.2.2.2.2.1, u.2.2.2.2.2.2.2.2.2.2.1, u.2.2.2.2.2.2.2.2.2.2.2.1, gup u.2.2.2.2.2.2.2.2.2.2.2.2.1 0 (Int32.ofNat (pos + 1)), u.2.2.2.2.2.2.2.2.2.2.2.2.2.1, u.2.2.2.2.2.2.2.2.2.2.2.2.2.2) : gU) ((x.1, gup (gup (gup x.2.1 31 1) 32 (Int32.ofNat (pos + 1))) 31 1, x.2.2.1, x.2.2.2.1, x.2.2.2.2.1, x.2.2.2.2.2.1, x.2.2.2.2.2.2.1, x.2.2.2.2.2.2.2.1, x.2.2.2.2.2.2.2.2.1, x.2.2.2.2.2.2.2.2.2.1, x.2.2.2.2.2.2.2.2.2.2.1, x.2.2.2.2.2.2.2.2.2.2.2.1, x.2.2.2.2.2.2.2.2.2.2.2.2.1, x.2.2.2.2.2.2.2.2.2.2.2.2.2.1, x.2.2.2.2.2.2.2.2.2.2.2.2.2.2.1, x.2.2.2.2.2.2.2.2.2.2.2.2.2.2.2) : gX) := gD_r D D.wr rfl b5.hp rfl rfl rfl rfl rfl rfl (ks 1)
      by_cases c : b < 128
      · have cl : ∀ y o z, cR_nextLengthy_5 (g + (r + 1 + 5) + 1) (some 187) (some 163) S (Int32.ofNat i) (gH u y o z) = some (gad S b i, gH ((u.1, u.2.1, u.2.2.1, u.2.2.2.1, u.2.2.2.2.1, u.2.2.2.2.2.1, u.2.2.2.2.2.2.1, u.2.2.2.2.2.2.2.1, u.2.2.2.2.2.2.2.2.1, u.2.2.2.2.2.2.2.2.2.1, u.2.2.2.2.2.2.2.2.2.2.1, u.2.2.2.2.2.2.2.2.2.2.2.1, gup (gup u.2.2.2.2.2.2.2.2.2.2.2.2.1 0 (Int32.ofNat (pos + 1))) 1 (if (0 < i ∧ b = 0) ∨ (i = 9 ∧ 1 < b) then 1 else 0), u.2.2.2.2.2.2.2.2.2.2.2.2.2.1, u.2.2.2.2.2.2.2.2.2.2.2.2.2.2) : gU) y o z) := by
          intro y o z
          rw [cR_nextLengthy_5]
          simp only [if_pos i10, ho_187, Option.bind_some, b3, eb128, if_pos c]
          exact k_llast (u := ((u.1, u.2.1, u.2.2.1, u.2.2.2.1, u.2.2.2.2.1, u.2.2.2.2.2.1, u.2.2.2.2.2.2.1, u.2.2.2.2.2.2.2.1, u.2.2.2.2.2.2.2.2.1, u.2.2.2.2.2.2.2.2.2.1, u.2.2.2.2.2.2.2.2.2.2.1, u.2.2.2.2.2.2.2.2.2.2.2.1, gup u.2.2.2.2.2.2.2.2.2.2.2.2.1 0 (Int32.ofNat (pos + 1)), u.2.2.2.2.2.2.2.2.2.2.2.2.2.1, u.2.2.2.2.2.2.2.2.2.2.2.2.2.2) : gU)) D.wr c (by omega)
        by_cases nb : 0 < i ∧ b = 0
        · simp only [if_pos (show (0 < i ∧ b = 0) ∨ (i = 9 ∧ 1 < b) from Or.inl nb)] at cl
          refine Or.inr ⟨_, gad S b i, _, _, cl, fun y o z => ?_, Or.inl rfl, rfl, ks 0⟩
          rw [show g2 + (r + 1) + 1 + 1 = (g2 + r + 1) + 1 + 1 by omega, r_lstep D b4, if_pos (l.1.mpr hi)]
          by_cases c4 : i < 4
          · rw [if_pos (l.2.mpr c4), r_l67 b1 (by omega), if_pos (by omega)]
          · obtain rfl : i = 4 := by omega
            rw [if_neg (fun q => by have := l.2.mp q; omega), if_pos ((l_416 b b1).mpr (by omega)), r_l67 b1 (by omega), if_pos (by omega)]
        · simp only [if_neg (show ¬ ((0 < i ∧ b = 0) ∨ (i = 9 ∧ 1 < b)) from fun q => by rcases q with q | q; exact nb q; omega)] at cl
          have D3 : gD n0 f q m N (pos + 1) ((u.1, u.2.1, u.2.2.1, u.2.2.2.1, u.2.2.2.2.1, u.2.2.2.2.2.1, u.2.2.2.2.2.2.1, u.2.2.2.2.2.2.2.1, u.2.2.2.2.2.2.2.2.1, u.2.2.2.2.2.2.2.2.2.1, u.2.2.2.2.2.2.2.2.2.2.1, u.2.2.2.2.2.2.2.2.2.2.2.1, gup (gup u.2.2.2.2.2.2.2.2.2.2.2.2.1 0 (Int32.ofNat (pos + 1))) 1 0, u.2.2.2.2.2.2.2.2.2.2.2.2.2.1, u.2.2.2.2.2.2.2.2.2.2.2.2.2.2) : gU) ((x.1, gup (gup (gup x.2.1 31 1) 32 (Int32.ofNat (pos + 1))) 31 1, x.2.2.1, x.2.2.2.1, x.2.2.2.2.1, x.2.2.2.2.2.1, x.2.2.2.2.2.2.1, x.2.2.2.2.2.2.2.1, x.2.2.2.2.2.2.2.2.1, x.2.2.2.2.2.2.2.2.2.1, x.2.2.2.2.2.2.2.2.2.2.1, x.2.2.2.2.2.2.2.2.2.2.2.1, x.2.2.2.2.2.2.2.2.2.2.2.2.1, x.2.2.2.2.2.2.2.2.2.2.2.2.2.1, x.2.2.2.2.2.2.2.2.2.2.2.2.2.2.1, x.2.2.2.2.2.2.2.2.2.2.2.2.2.2.2) : gX) := gD_r D rfl rfl b5.hp rfl rfl rfl rfl rfl rfl (ks 1)
          by_cases c4 : i < 4
          · refine Or.inl ⟨_, _, _, pos + 1, cl, fun y o z => ?_, Nat.lt_of_lt_of_le (l_lt b1 c4 hS) (Nat.pow_le_pow_right (by omega) (by omega)), D3, ks 1, rfl, rfl⟩
            rw [show g2 + (r + 1) + 1 + 1 = (g2 + r + 1) + 1 + 1 by omega, r_lstep D b4, if_pos (l.1.mpr hi), if_pos (l.2.mpr c4), r_l67 b1 (by omega), if_neg (by omega), if_pos c]
          · obtain rfl : i = 4 := by omega
            by_cases h16 : b % 128 < 16
            · refine Or.inl ⟨_, _, _, pos + 1, cl, fun y o z => ?_, l_lt4 b1 h16 hS, D3, ks 1, rfl, rfl⟩
              rw [show g2 + (r + 1) + 1 + 1 = (g2 + r + 1) + 1 + 1 by omega, r_lstep D b4, if_pos (l.1.mpr hi), if_neg (fun q => by have := l.2.mp q; omega), if_pos ((l_416 b b1).mpr h16), r_l67 b1 (by omega), if_neg (by omega), if_pos c]
            · refine Or.inr ⟨_, gad S b 4, _, _, cl, fun y o z => ?_, Or.inr (l_ge4 b1 h16), rfl, ks 0⟩
              rw [show g2 + (r + 1) + 1 + 1 = (g2 + r + 1) + 1 + 1 by omega, r_lstep D b4, if_pos (l.1.mpr hi), if_neg (fun q => by have := l.2.mp q; omega), if_neg (fun q => h16 ((l_416 b b1).mp q)), r_l81]
      · have cl : ∀ y o z, cR_nextLengthy_5 (g + (r + 1 + 5) + 1) (some 187) (some 163) S (Int32.ofNat i) (gH u y o z) = cR_nextLengthy_5 (g + (r + 5) + 1) (some 187) (some 163) (gad S b i) (Int32.ofNat (i + 1)) (gH ((u.1, u.2.1, u.2.2.1, u.2.2.2.1, u.2.2.2.2.1, u.2.2.2.2.2.1, u.2.2.2.2.2.2.1, u.2.2.2.2.2.2.2.1, u.2.2.2.2.2.2.2.2.1, u.2.2.2.2.2.2.2.2.2.1, u.2.2.2.2.2.2.2.2.2.2.1, u.2.2.2.2.2.2.2.2.2.2.2.1, gup u.2.2.2.2.2.2.2.2.2.2.2.2.1 0 (Int32.ofNat (pos + 1)), u.2.2.2.2.2.2.2.2.2.2.2.2.2.1, u.2.2.2.2.2.2.2.2.2.2.2.2.2.2) : gU) y o z) := by
          intro y o z
          rw [show g + (r + 1 + 5) + 1 = (g + (r + 5) + 1) + 1 by omega, cR_nextLengthy_5]
          simp only [if_pos i10, ho_187, Option.bind_some, b3, eb128, if_neg c, n_succ]
          rfl
        by_cases go : i < 4 ∨ b % 128 < 16
        · have rf : ∀ y o z, mM_lengthy_8 (g2 + (r + 1) + 1 + 1) (some 188) 32 S (Int32.ofNat i) 1 (gH y x o z) = mM_lengthy_8 (g2 + r + 1 + 1) (some 188) 32 (gad S b i) (Int32.ofNat (i + 1)) 1 (gH y ((x.1, gup (gup (gup x.2.1 31 1) 32 (Int32.ofNat (pos + 1))) 31 1, x.2.2.1, x.2.2.2.1, x.2.2.2.2.1, x.2.2.2.2.2.1, x.2.2.2.2.2.2.1, x.2.2.2.2.2.2.2.1, x.2.2.2.2.2.2.2.2.1, x.2.2.2.2.2.2.2.2.2.1, x.2.2.2.2.2.2.2.2.2.2.1, x.2.2.2.2.2.2.2.2.2.2.2.1, x.2.2.2.2.2.2.2.2.2.2.2.2.1, x.2.2.2.2.2.2.2.2.2.2.2.2.2.1, x.2.2.2.2.2.2.2.2.2.2.2.2.2.2.1, x.2.2.2.2.2.2.2.2.2.2.2.2.2.2.2) : gX) o z) := by
            intro y o z
            rw [show g2 + (r + 1) + 1 + 1 = (g2 + r + 1) + 1 + 1 by omega, r_lstep D b4, if_pos (l.1.mpr hi)]
            by_cases c4 : i < 4
            · rw [if_pos (l.2.mpr c4), r_l67 b1 (by omega), if_neg (by omega), if_neg c]
            · obtain rfl : i = 4 := by omega
              rw [if_neg (fun q => by have := l.2.mp q; omega), if_pos ((l_416 b b1).mpr (by omega)), r_l67 b1 (by omega), if_neg (by omega), if_neg c]
          have hS2 : (gad S b i).toUInt64.toNat < 2 ^ (7 * (i + 1)) := by
            by_cases c4 : i < 4
            · exact l_lt b1 c4 hS
            · obtain rfl : i = 4 := by omega
              exact Nat.lt_of_lt_of_le (l_lt4 b1 (by omega) hS) (by decide)
          rcases ih (i + 1) g g2 (gad S b i) _ _ (pos + 1) (by omega) hS2 D2 with ⟨a, r', s, pos', k1, k2, k3, k4, k5, k6, k7⟩ | ⟨a, b', r', s, k1, k2, k3, k4, k5⟩
          · exact Or.inl ⟨a, r', s, pos', fun y o z => (cl y o z).trans (k1 y o z), fun y o z => (rf y o z).trans (k2 y o z), k3, k4, gKs_trans (ks 1) k5, k6, k7⟩
          · exact Or.inr ⟨a, b', r', s, fun y o z => (cl y o z).trans (k1 y o z), fun y o z => (rf y o z).trans (k2 y o z), k3, k4, gKs_trans (ks 1) k5⟩
        · obtain rfl : i = 4 := by omega
          obtain rfl : r = 0 := by omega
          obtain ⟨a, r', k1, k2⟩ := far g (gad S b 4) _ _ (pos + 1) D2
          refine Or.inr ⟨a, gad S b 4, r', _, fun y o z => (cl y o z).trans (k1 y o z), fun y o z => ?_, k2, rfl, ks 0⟩
          rw [show g2 + (0 + 1) + 1 + 1 = (g2 + 0 + 1) + 1 + 1 by omega, r_lstep D b4, if_pos (l.1.mpr hi), if_neg (fun q => by have := l.2.mp q; omega), if_neg (fun q => go (Or.inr ((l_416 b b1).mp q))), r_l81]
    · refine Or.inr ⟨gad S 0 i, gad S 0 i, gup (gup u.2.2.2.2.2.2.2.2.2.2.2.2.1 1 1) 1 1, _, fun y o z => ?_, fun y o z => r_lnone (g := g2 + r + 1) D b4, Or.inl rfl, rfl, fun j hj => by rw [gup_ne (by omega), gup_ne (by omega), gup_ne (by omega)]⟩
      rw [cR_nextLengthy_5]
      have w1 : gup u.2.2.2.2.2.2.2.2.2.2.2.2.1 1 1 1 = 1 := rfl
      simp only [if_pos i10, ho_187, Option.bind_some, b3, if_pos (show (0 : Int32) < 128 by decide), cR_nextLengthy_57, cR_nextLengthy_56, cR_nextLengthy_76, cR_nextLengthy_77, hi_187_1, w1, show ¬ (1 : Int32) = 0 by decide, if_false, hp_187_1, ite_self, if_true]
      rfl
end H
end
section
/-! read: numbers folded, words of bytes -/
def gzz (S : Int64) : Int64 := ((Int64.toUInt64 S >>> ((Int32.toInt64 (1 : Int32)).toUInt64 &&& Int64.toUInt64 63)).toInt64) ^^^ (-(S &&& (1 : Int64)))
theorem z_sh1 : ((Int32.toInt64 (1 : Int32)).toUInt64 &&& Int64.toUInt64 63) = 1 := by decide
theorem z_half (S : Int64) : ((Int64.toUInt64 S >>> 1).toInt64).toInt = ((S.toUInt64.toNat / 2 : Nat) : Int) := by
  have h1 : (S.toUInt64 >>> 1).toNat = S.toUInt64.toNat / 2 := by rw [UInt64.toNat_shiftRight, Nat.shiftRight_eq_div_pow]; rfl
  have h2 : S.toUInt64.toNat < 2 ^ 64 := S.toUInt64.toNat_lt
  show (S.toUInt64 >>> 1).toBitVec.toInt = _
  have h3 : (S.toUInt64 >>> 1).toBitVec.toNat = S.toUInt64.toNat / 2 := h1
  rw [BitVec.toInt_eq_toNat_of_lt (by rw [h3]; omega), h3]
theorem z_one (S : Int64) : S &&& 1 = 0 ∨ S &&& 1 = 1 := by
  have h : (S &&& 1).toUInt64.toNat < 2 := by
    rw [Int64.toUInt64_and, UInt64.toNat_and]
    show S.toUInt64.toNat &&& 1 < 2
    rw [show (1 : Nat) = 2 ^ 1 - 1 from rfl, Nat.and_two_pow_sub_one_eq_mod]
    omega
  have e := l_of (S &&& 1)
  generalize (S &&& 1).toUInt64.toNat = t at h e
  obtain rfl | rfl : t = 0 ∨ t = 1 := by omega
  · exact Or.inl e
  · exact Or.inr e
theorem z_val (S : Int64) : (gzz S).toInt = ((S.toUInt64.toNat / 2 : Nat) : Int) ∨ (gzz S).toInt = -((S.toUInt64.toNat / 2 : Nat) : Int) - 1 := by
  have h2 : S.toUInt64.toNat < 2 ^ 64 := S.toUInt64.toNat_lt
  unfold gzz
  rw [z_sh1]
  rcases z_one S with e | e
  · left
    rw [e, show -(0 : Int64) = 0 from rfl, Int64.xor_zero]
    exact z_half S
  · right
    rw [e, Int64.xor_neg_one, Int64.toInt_not, z_half S, Int.bmod_eq_of_le_mul_two (by omega) (by omega)]
theorem z_same (W : Int64) : (W = Int32.toInt64 (Int64.toInt32 W)) ↔ (-2147483648 ≤ W.toInt ∧ W.toInt < 2147483648) := by
  rw [← Int64.toInt_inj, Int32.toInt_toInt64, Int64.toInt_toInt32]
  constructor
  · intro h
    have h1 := Int.bmod_lt (x := W.toInt) (m := 2 ^ 32) (by decide)
    have h2 := Int.le_bmod (x := W.toInt) (m := 2 ^ 32) (by decide)
    rw [← h] at h1 h2
    omega
  · intro h
    rw [Int.bmod_eq_of_le_mul_two (by omega) (by omega)]
theorem z_fit {S : Int64} (h : S.toUInt64.toNat < 2 ^ 32) : gzz S = Int32.toInt64 (Int64.toInt32 (gzz S)) := by
  rw [z_same]
  rcases z_val S with e | e <;> omega
theorem z_big {S : Int64} (h : 2 ^ 32 ≤ S.toUInt64.toNat) : ¬ gzz S = Int32.toInt64 (Int64.toInt32 (gzz S)) := by
  rw [z_same]
  rcases z_val S with e | e <;> omega
theorem m_plain {S : Int64} : mM_plain S = some (gzz S) := rfl
section H
variable {n0 f q m N pos : Nat} {u : gU} {x : gX}
theorem d_len32 (D : gD n0 f q m N pos u x) : gN32 n0 f q m N u x (cR_nextLengthy (some 187) (some 163)) (mM_lengthy (some 188) 32) := by
  obtain ⟨G, hG⟩ : ∃ G, 1000000000000000 = G + (5 + 5) + 1 := ⟨999999999999989, rfl⟩
  obtain ⟨G2, hG2⟩ : ∃ G, 1000000000000000 = G + 5 + 1 + 1 := ⟨999999999999993, rfl⟩
  have e1 : ∀ h, cR_nextLengthy (some 187) (some 163) h = cR_nextLengthy_5 (G + (5 + 5) + 1) (some 187) (some 163) 0 (Int32.ofNat 0) h := fun h => by
    unfold cR_nextLengthy; rw [hG]; rfl
  have e2 : ∀ h, mM_lengthy (some 188) 32 h = mM_lengthy_8 (G2 + 5 + 1 + 1) (some 188) 32 0 (Int32.ofNat 0) 1 h := fun h => by
    unfold mM_lengthy; rw [hG2]; rfl
  rcases d_len32L 5 0 G G2 0 u x pos (by omega) (by decide) D with ⟨a, r, s, pos', k1, k2, k3, k4⟩ | ⟨a, b, r, s, k1, k2, k3⟩
  · exact Or.inl ⟨a, r, s, pos', fun y o z => (e1 _).trans (k1 y o z), fun y o z => (e2 _).trans (k2 y o z), k3, k4⟩
  · exact Or.inr ⟨a, b, r, s, fun y o z => (e1 _).trans (k1 y o z), fun y o z => (e2 _).trans (k2 y o z), k3⟩
/-- an int -/
theorem d_int (D : gD n0 f q m N pos u x) : gNx n0 f q m N pos u x (cR_nextInt (some 187) (some 163)) (mM_lengthy (some 188) 32) (fun a b => a = Int64.toInt32 (gzz b)) := by
  rcases d_len32 D with ⟨a, r, s, pos', k1, k2, k3, k4, k5, k6, k7⟩ | ⟨a, b, r, s, k1, k2, k3, k4, k5⟩
  · refine Or.inl ⟨Int64.toInt32 (gzz a), a, r, s, pos', fun y o z => ?_, k2, rfl, k4, k5, k6, k7⟩
    unfold cR_nextInt cR_nextZigzag
    simp only [ho_187, Option.bind_some, k1]
    exact if_pos (z_fit k3)
  · by_cases c : gzz a = Int32.toInt64 (Int64.toInt32 (gzz a))
    · have r1 : r 1 = 1 := by
        rcases k3 with h | h
        · exact h
        · exact absurd c (z_big h)
      refine Or.inr ⟨Int64.toInt32 (gzz a), b, r, s, fun y o z => ?_, k2, r1, k4, k5⟩
      unfold cR_nextInt cR_nextZigzag
      simp only [ho_187, Option.bind_some, k1]
      exact if_pos c
    · refine Or.inr ⟨Int64.toInt32 (gzz a), b, gup r 1 1, s, fun y o z => ?_, k2, rfl, k4, k5⟩
      unfold cR_nextInt cR_nextZigzag
      simp only [ho_187, Option.bind_some, k1]
      refine (if_neg c).trans ?_
      simp only [hp_187_1, Option.bind_some]
      rfl
/-- a long, folded -/
theorem d_zig (D : gD n0 f q m N pos u x) : gNx n0 f q m N pos u x (cR_nextZigzag (some 187) (some 163)) (mM_lengthy (some 188) 64) (fun a b => a = gzz b) := by
  rcases d_len64 D with ⟨a, b, r, s, pos', k1, k2, rfl, k4⟩ | ⟨a, b, r, s, k1, k2, k3⟩
  · refine Or.inl ⟨gzz a, a, r, s, pos', fun y o z => ?_, k2, rfl, k4⟩
    unfold cR_nextZigzag
    simp only [ho_187, Option.bind_some, k1]
    rfl
  · refine Or.inr ⟨gzz a, b, r, s, fun y o z => ?_, k2, k3⟩
    unfold cR_nextZigzag
    simp only [ho_187, Option.bind_some, k1]
    rfl
/-- where both sides stand in the bytes -/
def su (u : gU) (p : Nat) : gU := ((u.1, u.2.1, u.2.2.1, u.2.2.2.1, u.2.2.2.2.1, u.2.2.2.2.2.1, u.2.2.2.2.2.2.1, u.2.2.2.2.2.2.2.1, u.2.2.2.2.2.2.2.2.1, u.2.2.2.2.2.2.2.2.2.1, u.2.2.2.2.2.2.2.2.2.2.1, u.2.2.2.2.2.2.2.2.2.2.2.1, gup u.2.2.2.2.2.2.2.2.2.2.2.2.1 0 (Int32.ofNat p), u.2.2.2.2.2.2.2.2.2.2.2.2.2.1, u.2.2.2.2.2.2.2.2.2.2.2.2.2.2) : gU)
def sx (x : gX) (p : Nat) : gX := ((x.1, gup x.2.1 32 (Int32.ofNat p), x.2.2.1, x.2.2.2.1, x.2.2.2.2.1, x.2.2.2.2.2.1, x.2.2.2.2.2.2.1, x.2.2.2.2.2.2.2.1, x.2.2.2.2.2.2.2.2.1, x.2.2.2.2.2.2.2.2.2.1, x.2.2.2.2.2.2.2.2.2.2.1, x.2.2.2.2.2.2.2.2.2.2.2.1, x.2.2.2.2.2.2.2.2.2.2.2.2.1, x.2.2.2.2.2.2.2.2.2.2.2.2.2.1, x.2.2.2.2.2.2.2.2.2.2.2.2.2.2.1, x.2.2.2.2.2.2.2.2.2.2.2.2.2.2.2) : gX)
theorem gD_s {p : Nat} (D : gD n0 f q m N pos u x) (h : p ≤ m) : gD n0 f q m N p (su u p) (sx x p) :=
  gD_r D D.wr rfl h rfl rfl rfl D.gg rfl rfl (fun i hi => gup_ne (by omega))
theorem k_nx (D : gD n0 f q m N pos u x) (c : pos < m) : ∀ y o z, cR_nextByte (some 187) (some 163) (gH u y o z) = some (u.2.2.2.2.1 pos, gH (su u (pos + 1)) y o z) := by
  intro y o z
  have hm := D.hm
  have l : Int32.ofNat pos < Int32.ofNat m := n_ltl (by omega) (by omega) c
  simp only [cR_nextByte, hi_187_1, Option.bind_some, D.wr, if_true, hi_187_0, D.pu, hi_163_1, D.um, if_pos l, n_succ, hp_187_0, hr_163_0, gup_eq, n_pred, ha_164 (show pos < 300 by omega)]
  rfl
theorem k_nx0 (D : gD n0 f q m N pos u x) (c : ¬ pos < m) : ∀ y o z, cR_nextByte (some 187) (some 163) (gH u y o z) = some (0, gH ((u.1, u.2.1, u.2.2.1, u.2.2.2.1, u.2.2.2.2.1, u.2.2.2.2.2.1, u.2.2.2.2.2.2.1, u.2.2.2.2.2.2.2.1, u.2.2.2.2.2.2.2.2.1, u.2.2.2.2.2.2.2.2.2.1, u.2.2.2.2.2.2.2.2.2.2.1, u.2.2.2.2.2.2.2.2.2.2.2.1, gup u.2.2.2.2.2.2.2.2.2.2.2.2.1 1 1, u.2.2.2.2.2.2.2.2.2.2.2.2.2.1, u.2.2.2.2.2.2.2.2.2.2.2.2.2.2) : gU) y o z) := by
  intro y o z
  have hm := D.hm
  have hp := D.hp
  have l : ¬ Int32.ofNat pos < Int32.ofNat m := n_nltl (by omega) (by omega) (by omega)
  simp only [cR_nextByte, hi_187_1, Option.bind_some, D.wr, if_true, hi_187_0, D.pu, hi_163_1, D.um, if_neg l, hp_187_1]
theorem r_nx (D : gD n0 f q m N pos u x) (c : pos < m) : ∀ y o z, mM_next (some 188) (gH y x o z) = some (u.2.2.2.2.1 pos, gH y (sx x (pos + 1)) o z) := by
  intro y o z
  have hm := D.hm
  have d10 : ¬ (1 : Int32) = 0 := by decide
  have l : Int32.ofNat pos < Int32.ofNat m := n_ltl (by omega) (by omega) c
  simp only [mM_next, hi_188_31, Option.bind_some, D.gg, if_neg d10, hi_188_32, D.px, hi_188_15, D.xm, if_pos l, mM_next_24, or_true, not_true, if_false, hp_188_31, gup_same D.gg, hr_188_16, ha_200 (show pos < 300 by omega), D.bs pos c, mM_next_47, n_succ, hp_188_32]
  rfl
theorem r_nx0 (D : gD n0 f q m N pos u x) (c : ¬ pos < m) : ∀ y o z, mM_next (some 188) (gH y x o z) = some (0, gH y ((x.1, gup (gup x.2.1 31 0) 32 (Int32.ofNat (pos + 1)), x.2.2.1, x.2.2.2.1, x.2.2.2.2.1, x.2.2.2.2.2.1, x.2.2.2.2.2.2.1, x.2.2.2.2.2.2.2.1, x.2.2.2.2.2.2.2.2.1, x.2.2.2.2.2.2.2.2.2.1, x.2.2.2.2.2.2.2.2.2.2.1, x.2.2.2.2.2.2.2.2.2.2.2.1, x.2.2.2.2.2.2.2.2.2.2.2.2.1, x.2.2.2.2.2.2.2.2.2.2.2.2.2.1, x.2.2.2.2.2.2.2.2.2.2.2.2.2.2.1, x.2.2.2.2.2.2.2.2.2.2.2.2.2.2.2) : gX) o z) := by
  intro y o z
  have hm := D.hm
  have hp := D.hp
  have d10 : ¬ (1 : Int32) = 0 := by decide
  have l : ¬ Int32.ofNat pos < Int32.ofNat m := n_nltl (by omega) (by omega) (by omega)
  have e31 : gup x.2.1 31 0 31 = 0 := rfl
  have e32 : gup x.2.1 31 0 32 = Int32.ofNat pos := D.px
  simp only [mM_next, hi_188_31, Option.bind_some, D.gg, if_neg d10, hi_188_32, D.px, hi_188_15, D.xm, if_neg l, mM_next_23, mM_next_24, true_or, not_true, if_false, hp_188_31, e31, if_true, mM_next_47, e32, n_succ, hp_188_32]
/-- once refused, the reference's next byte is none -/
theorem r_nxA (h : x.2.1 31 = 0) : ∀ y o z, mM_next (some 188) (gH y x o z) = mM_next_23 (some 188) (some 188) (gH y x o z) := by
  intro y o z
  simp only [mM_next, hi_188_31, Option.bind_some, if_pos h]
theorem r_nxB : ∀ y o z, mM_next_23 (some 188) (some 188) (gH y x o z) = mM_next_47 (some 188) 0 (gH y ((x.1, gup x.2.1 31 0, x.2.2.1, x.2.2.2.1, x.2.2.2.2.1, x.2.2.2.2.2.1, x.2.2.2.2.2.2.1, x.2.2.2.2.2.2.2.1, x.2.2.2.2.2.2.2.2.1, x.2.2.2.2.2.2.2.2.2.1, x.2.2.2.2.2.2.2.2.2.2.1, x.2.2.2.2.2.2.2.2.2.2.2.1, x.2.2.2.2.2.2.2.2.2.2.2.2.1, x.2.2.2.2.2.2.2.2.2.2.2.2.2.1, x.2.2.2.2.2.2.2.2.2.2.2.2.2.2.1, x.2.2.2.2.2.2.2.2.2.2.2.2.2.2.2) : gX) o z) := by
  intro y o z
  have e31 : gup x.2.1 31 0 31 = 0 := rfl
  simp only [mM_next_23, mM_next_24, true_or, not_true, if_false, hp_188_31, Option.bind_some, hi_188_31, if_pos e31]
theorem r_nxC {w : Int32} (hw : x.2.1 32 + 1 = w) : ∀ y o z, mM_next_47 (some 188) 0 (gH y x o z) = some (0, gH y ((x.1, gup x.2.1 32 w, x.2.2.1, x.2.2.2.1, x.2.2.2.2.1, x.2.2.2.2.2.1, x.2.2.2.2.2.2.1, x.2.2.2.2.2.2.2.1, x.2.2.2.2.2.2.2.2.1, x.2.2.2.2.2.2.2.2.2.1, x.2.2.2.2.2.2.2.2.2.2.1, x.2.2.2.2.2.2.2.2.2.2.2.1, x.2.2.2.2.2.2.2.2.2.2.2.2.1, x.2.2.2.2.2.2.2.2.2.2.2.2.2.1, x.2.2.2.2.2.2.2.2.2.2.2.2.2.2.1, x.2.2.2.2.2.2.2.2.2.2.2.2.2.2.2) : gX) o z) := by
  intro y o z
  simp only [mM_next_47, hi_188_32, Option.bind_some, hw, hp_188_32]
theorem r_nxDead (h : x.2.1 31 = 0) : ∃ s, s 31 = 0 ∧ gKs x.2.1 s ∧ ∀ y o z, mM_next (some 188) (gH y x o z) = some (0, gH y ((x.1, s, x.2.2.1, x.2.2.2.1, x.2.2.2.2.1, x.2.2.2.2.2.1, x.2.2.2.2.2.2.1, x.2.2.2.2.2.2.2.1, x.2.2.2.2.2.2.2.2.1, x.2.2.2.2.2.2.2.2.2.1, x.2.2.2.2.2.2.2.2.2.2.1, x.2.2.2.2.2.2.2.2.2.2.2.1, x.2.2.2.2.2.2.2.2.2.2.2.2.1, x.2.2.2.2.2.2.2.2.2.2.2.2.2.1, x.2.2.2.2.2.2.2.2.2.2.2.2.2.2.1, x.2.2.2.2.2.2.2.2.2.2.2.2.2.2.2) : gX) o z) := by
  obtain ⟨w, hw⟩ : ∃ w, gup x.2.1 31 0 32 + 1 = w := ⟨_, rfl⟩
  refine ⟨gup (gup x.2.1 31 0) 32 w, rfl, fun i hi => by rw [gup_ne (by omega), gup_ne (by omega)], fun y o z => ?_⟩
  rw [r_nxA h, r_nxB]
  exact r_nxC (x := ((x.1, gup x.2.1 31 0, x.2.2.1, x.2.2.2.1, x.2.2.2.2.1, x.2.2.2.2.2.1, x.2.2.2.2.2.2.1, x.2.2.2.2.2.2.2.1, x.2.2.2.2.2.2.2.2.1, x.2.2.2.2.2.2.2.2.2.1, x.2.2.2.2.2.2.2.2.2.2.1, x.2.2.2.2.2.2.2.2.2.2.2.1, x.2.2.2.2.2.2.2.2.2.2.2.2.1, x.2.2.2.2.2.2.2.2.2.2.2.2.2.1, x.2.2.2.2.2.2.2.2.2.2.2.2.2.2.1, x.2.2.2.2.2.2.2.2.2.2.2.2.2.2.2) : gX)) hw y o z
theorem k_up (D : gD n0 f q m N pos u x) {t j : Nat} (c : pos < m) (hj : j ≤ t) (ht : t < 256) (e : u.2.2.2.2.1 pos = Int32.ofNat j) : ∀ y o z, cR_nextUpTo (some 187) (some 163) (Int32.ofNat t) (gH u y o z) = some (Int32.ofNat j, gH (su u (pos + 1)) y o z) := by
  intro y o z
  simp only [cR_nextUpTo, ho_187, Option.bind_some, k_nx D c, e, if_neg (show ¬ Int32.ofNat t < Int32.ofNat j from n_nltl (by omega) (by omega) hj)]
theorem k_up0 (D : gD n0 f q m N pos u x) {t : Nat} (ht : t < 256) (c : ¬ (pos < m ∧ ∃ j, j ≤ t ∧ u.2.2.2.2.1 pos = Int32.ofNat j)) : ∃ r, r 1 = 1 ∧ ∀ y o z, cR_nextUpTo (some 187) (some 163) (Int32.ofNat t) (gH u y o z) = some (0, gH ((u.1, u.2.1, u.2.2.1, u.2.2.2.1, u.2.2.2.2.1, u.2.2.2.2.2.1, u.2.2.2.2.2.2.1, u.2.2.2.2.2.2.2.1, u.2.2.2.2.2.2.2.2.1, u.2.2.2.2.2.2.2.2.2.1, u.2.2.2.2.2.2.2.2.2.2.1, u.2.2.2.2.2.2.2.2.2.2.2.1, r, u.2.2.2.2.2.2.2.2.2.2.2.2.2.1, u.2.2.2.2.2.2.2.2.2.2.2.2.2.2) : gU) y o z) := by
  by_cases p : pos < m
  · obtain ⟨b, b1, b2⟩ := D.b8 pos p
    have l : Int32.ofNat t < Int32.ofNat b := n_ltl (by omega) (by omega) (by
      have : ¬ b ≤ t := fun q => c ⟨p, b, q, b2⟩
      omega)
    refine ⟨gup (gup u.2.2.2.2.2.2.2.2.2.2.2.2.1 0 (Int32.ofNat (pos + 1))) 1 1, rfl, fun y o z => ?_⟩
    simp only [cR_nextUpTo, ho_187, Option.bind_some, k_nx D p, b2, if_pos l, hp_187_1]
    rfl
  · refine ⟨gup u.2.2.2.2.2.2.2.2.2.2.2.2.1 1 1, rfl, fun y o z => ?_⟩
    simp only [cR_nextUpTo, ho_187, Option.bind_some, k_nx0 D p, if_neg (show ¬ Int32.ofNat t < 0 from n_nn (by omega))]
theorem r_up (D : gD n0 f q m N pos u x) {t j : Nat} (c : pos < m) (hj : j ≤ t) (ht : t < 256) (e : u.2.2.2.2.1 pos = Int32.ofNat j) : ∀ y o z, mM_nextUpTo (some 188) (Int32.ofNat t) (gH y x o z) = some (Int32.ofNat j, gH y (sx x (pos + 1)) o z) := by
  intro y o z
  have d10 : ¬ (1 : Int32) = 0 := by decide
  have e31 : (sx x (pos + 1)).2.1 31 = 1 := D.gg
  simp only [mM_nextUpTo, ho_188, Option.bind_some, r_nx D c, e, hi_188_31, e31, if_neg d10, if_neg (show ¬ Int32.ofNat t < Int32.ofNat j from n_nltl (by omega) (by omega) hj), mM_nextUpTo_23, or_true, not_true, if_false, hp_188_31, gup_same e31]
theorem r_up0 (D : gD n0 f q m N pos u x) {t : Nat} (ht : t < 256) (c : ¬ (pos < m ∧ ∃ j, j ≤ t ∧ u.2.2.2.2.1 pos = Int32.ofNat j)) : ∃ s, s 31 = 0 ∧ gKs x.2.1 s ∧ ∀ y o z, mM_nextUpTo (some 188) (Int32.ofNat t) (gH y x o z) = some (0, gH y ((x.1, s, x.2.2.1, x.2.2.2.1, x.2.2.2.2.1, x.2.2.2.2.2.1, x.2.2.2.2.2.2.1, x.2.2.2.2.2.2.2.1, x.2.2.2.2.2.2.2.2.1, x.2.2.2.2.2.2.2.2.2.1, x.2.2.2.2.2.2.2.2.2.2.1, x.2.2.2.2.2.2.2.2.2.2.2.1, x.2.2.2.2.2.2.2.2.2.2.2.2.1, x.2.2.2.2.2.2.2.2.2.2.2.2.2.1, x.2.2.2.2.2.2.2.2.2.2.2.2.2.2.1, x.2.2.2.2.2.2.2.2.2.2.2.2.2.2.2) : gX) o z) := by
  have d10 : ¬ (1 : Int32) = 0 := by decide
  by_cases p : pos < m
  · obtain ⟨b, b1, b2⟩ := D.b8 pos p
    have l : Int32.ofNat t < Int32.ofNat b := n_ltl (by omega) (by omega) (by
      have : ¬ b ≤ t := fun q => c ⟨p, b, q, b2⟩
      omega)
    have e31 : (sx x (pos + 1)).2.1 31 = 1 := D.gg
    have e31' : gup (sx x (pos + 1)).2.1 31 0 31 = 0 := rfl
    refine ⟨gup (sx x (pos + 1)).2.1 31 0, rfl, fun i hi => ?_, fun y o z => ?_⟩
    · rw [gup_ne (by omega)]; exact gup_ne (by omega)
    · simp only [mM_nextUpTo, ho_188, Option.bind_some, r_nx D p, b2, hi_188_31, e31, if_neg d10, if_pos l, mM_nextUpTo_22, mM_nextUpTo_23, true_or, not_true, if_false, hp_188_31, e31', if_true]
      rfl
  · have e31 : gup (gup x.2.1 31 0) 32 (Int32.ofNat (pos + 1)) 31 = 0 := rfl
    refine ⟨gup (gup x.2.1 31 0) 32 (Int32.ofNat (pos + 1)), rfl, fun i hi => ?_, fun y o z => ?_⟩
    · rw [gup_ne (by omega), gup_ne (by omega)]
    · simp only [mM_nextUpTo, ho_188, Option.bind_some, r_nx0 D p, hi_188_31, e31, if_true, mM_nextUpTo_22, mM_nextUpTo_23, true_or, not_true, if_false, hp_188_31, gup_same e31]
/-- a word of bytes, as the class puts it together -/
def gwd (b : Nat → Int32) : Nat → Nat → Nat → Int64 → Int64
  | 0, _, _, S => S
  | r + 1, i, p, S => gwd b r (i + 1) (p + 1) (S ||| ((Int32.toInt64 (b p)) <<< (Int32.toInt64 ((8 : Int32) * Int32.ofNat i) &&& 63)))
theorem k_wordDead {l : Nat} (hl : l ≤ 8) (h : u.2.2.2.2.2.2.2.2.2.2.2.2.1 1 = 1) : ∀ (r i g : Nat) (S : Int64), i + r = l → ∃ S', ∀ y o z, cR_nextWord_5 (g + r + 1) (some 187) (some 163) (Int32.ofNat l) S (Int32.ofNat i) (gH u y o z) = some (S', gH u y o z) := by
  intro r
  induction r with
  | zero =>
    intro i g S e
    exact ⟨S, fun y o z => by rw [cR_nextWord_5, if_neg (n_nltl (by omega) (by omega) (by omega))]⟩
  | succ r ih =>
    intro i g S e
    obtain ⟨S', h'⟩ := ih (i + 1) g (S ||| ((Int32.toInt64 0) <<< (Int32.toInt64 ((8 : Int32) * Int32.ofNat i) &&& 63))) (by omega)
    refine ⟨S', fun y o z => ?_⟩
    rw [show g + (r + 1) + 1 = (g + r + 1) + 1 by omega, cR_nextWord_5, if_pos (n_ltl (by omega) (by omega) (by omega))]
    simp only [ho_187, Option.bind_some, k_byteDead h, n_succ]
    exact h' y o z
theorem su_su {p p' : Nat} : su (su u p) p' = su u p' := by
  unfold su
  show (((u.1, u.2.1, u.2.2.1, u.2.2.2.1, u.2.2.2.2.1, u.2.2.2.2.2.1, u.2.2.2.2.2.2.1, u.2.2.2.2.2.2.2.1, u.2.2.2.2.2.2.2.2.1, u.2.2.2.2.2.2.2.2.2.1, u.2.2.2.2.2.2.2.2.2.2.1, u.2.2.2.2.2.2.2.2.2.2.2.1, gup (gup u.2.2.2.2.2.2.2.2.2.2.2.2.1 0 (Int32.ofNat p)) 0 (Int32.ofNat p'), u.2.2.2.2.2.2.2.2.2.2.2.2.2.1, u.2.2.2.2.2.2.2.2.2.2.2.2.2.2) : gU) : gU) = _
  rw [gup_gup]
theorem sx_sx {p p' : Nat} : sx (sx x p) p' = sx x p' := by
  unfold sx
  show (((x.1, gup (gup x.2.1 32 (Int32.ofNat p)) 32 (Int32.ofNat p'), x.2.2.1, x.2.2.2.1, x.2.2.2.2.1, x.2.2.2.2.2.1, x.2.2.2.2.2.2.1, x.2.2.2.2.2.2.2.1, x.2.2.2.2.2.2.2.2.1, x.2.2.2.2.2.2.2.2.2.1, x.2.2.2.2.2.2.2.2.2.2.1, x.2.2.2.2.2.2.2.2.2.2.2.1, x.2.2.2.2.2.2.2.2.2.2.2.2.1, x.2.2.2.2.2.2.2.2.2.2.2.2.2.1, x.2.2.2.2.2.2.2.2.2.2.2.2.2.2.1, x.2.2.2.2.2.2.2.2.2.2.2.2.2.2.2) : gX) : gX) = _
  rw [gup_gup]
theorem k_wordL {l : Nat} (hl : l ≤ 8) : ∀ (r i g : Nat) (S : Int64) (u : gU) (x : gX) (pos : Nat), i + r = l → gD n0 f q m N pos u x → pos + r ≤ m → ∀ y o z, cR_nextWord_5 (g + r + 1) (some 187) (some 163) (Int32.ofNat l) S (Int32.ofNat i) (gH u y o z) = some (gwd u.2.2.2.2.1 r i pos S, gH (su u (pos + r)) y o z) := by
  intro r
  induction r with
  | zero =>
    intro i g S u x pos e D c y o z
    rw [cR_nextWord_5, if_neg (n_nltl (by omega) (by omega) (by omega))]
    have : su u (pos + 0) = u := by
      unfold su
      rw [Nat.add_zero, gup_same D.pu]
    rw [this]; rfl
  | succ r ih =>
    intro i g S u x pos e D c y o z
    rw [show g + (r + 1) + 1 = (g + r + 1) + 1 by omega, cR_nextWord_5, if_pos (n_ltl (by omega) (by omega) (by omega))]
    simp only [ho_187, Option.bind_some, k_nx D (show pos < m by omega), n_succ]
    rw [ih (i + 1) g _ (su u (pos + 1)) (sx x (pos + 1)) (pos + 1) (by omega) (gD_s D (by omega)) (by omega), su_su, show pos + 1 + r = pos + (r + 1) by omega]
    rfl
theorem k_wordL0 {l : Nat} (hl : l ≤ 8) : ∀ (r i g : Nat) (S : Int64) (u : gU) (x : gX) (pos : Nat), i + r = l → gD n0 f q m N pos u x → ¬ pos + r ≤ m → ∃ S' r', r' 1 = 1 ∧ ∀ y o z, cR_nextWord_5 (g + r + 1) (some 187) (some 163) (Int32.ofNat l) S (Int32.ofNat i) (gH u y o z) = some (S', gH ((u.1, u.2.1, u.2.2.1, u.2.2.2.1, u.2.2.2.2.1, u.2.2.2.2.2.1, u.2.2.2.2.2.2.1, u.2.2.2.2.2.2.2.1, u.2.2.2.2.2.2.2.2.1, u.2.2.2.2.2.2.2.2.2.1, u.2.2.2.2.2.2.2.2.2.2.1, u.2.2.2.2.2.2.2.2.2.2.2.1, r', u.2.2.2.2.2.2.2.2.2.2.2.2.2.1, u.2.2.2.2.2.2.2.2.2.2.2.2.2.2) : gU) y o z) := by
  intro r
  induction r with
  | zero =>
    intro i g S u x pos e D c
    exact absurd D.hp (by omega)
  | succ r ih =>
    intro i g S u x pos e D c
    by_cases p : pos < m
    · obtain ⟨S', r', h1, h2⟩ := ih (i + 1) g (S ||| ((Int32.toInt64 (u.2.2.2.2.1 pos)) <<< (Int32.toInt64 ((8 : Int32) * Int32.ofNat i) &&& 63))) (su u (pos + 1)) (sx x (pos + 1)) (pos + 1) (by omega) (gD_s D (by omega)) (by omega)
      refine ⟨S', r', h1, fun y o z => ?_⟩
      rw [show g + (r + 1) + 1 = (g + r + 1) + 1 by omega, cR_nextWord_5, if_pos (n_ltl (by omega) (by omega) (by omega))]
      simp only [ho_187, Option.bind_some, k_nx D p, n_succ]
      exact h2 y o z
    · obtain ⟨S', h'⟩ := k_wordDead (u := ((u.1, u.2.1, u.2.2.1, u.2.2.2.1, u.2.2.2.2.1, u.2.2.2.2.2.1, u.2.2.2.2.2.2.1, u.2.2.2.2.2.2.2.1, u.2.2.2.2.2.2.2.2.1, u.2.2.2.2.2.2.2.2.2.1, u.2.2.2.2.2.2.2.2.2.2.1, u.2.2.2.2.2.2.2.2.2.2.2.1, gup u.2.2.2.2.2.2.2.2.2.2.2.2.1 1 1, u.2.2.2.2.2.2.2.2.2.2.2.2.2.1, u.2.2.2.2.2.2.2.2.2.2.2.2.2.2) : gU)) hl rfl r (i + 1) g (S ||| ((Int32.toInt64 0) <<< (Int32.toInt64 ((8 : Int32) * Int32.ofNat i) &&& 63))) (by omega)
      refine ⟨S', gup u.2.2.2.2.2.2.2.2.2.2.2.2.1 1 1, rfl, fun y o z => ?_⟩
      rw [show g + (r + 1) + 1 = (g + r + 1) + 1 by omega, cR_nextWord_5, if_pos (n_ltl (by omega) (by omega) (by omega))]
      simp only [ho_187, Option.bind_some, k_nx0 D p, n_succ]
      exact h' y o z
theorem k_word {l : Nat} (hl : l ≤ 8) (D : gD n0 f q m N pos u x) (c : pos + l ≤ m) : ∀ y o z, cR_nextWord (some 187) (some 163) (Int32.ofNat l) (gH u y o z) = some (gwd u.2.2.2.2.1 l 0 pos 0, gH (su u (pos + l)) y o z) := by
  intro y o z
  obtain ⟨G, hG⟩ : ∃ G, 1000000000000000 = G + l + 1 := ⟨999999999999999 - l, by omega⟩
  unfold cR_nextWord
  rw [hG]
  exact k_wordL hl l 0 G 0 u x pos (by omega) D c y o z
theorem k_word0 {l : Nat} (hl : l ≤ 8) (D : gD n0 f q m N pos u x) (c : ¬ pos + l ≤ m) : ∃ S' r', r' 1 = 1 ∧ ∀ y o z, cR_nextWord (some 187) (some 163) (Int32.ofNat l) (gH u y o z) = some (S', gH ((u.1, u.2.1, u.2.2.1, u.2.2.2.1, u.2.2.2.2.1, u.2.2.2.2.2.1, u.2.2.2.2.2.2.1, u.2.2.2.2.2.2.2.1, u.2.2.2.2.2.2.2.2.1, u.2.2.2.2.2.2.2.2.2.1, u.2.2.2.2.2.2.2.2.2.2.1, u.2.2.2.2.2.2.2.2.2.2.2.1, r', u.2.2.2.2.2.2.2.2.2.2.2.2.2.1, u.2.2.2.2.2.2.2.2.2.2.2.2.2.2) : gU) y o z) := by
  obtain ⟨G, hG⟩ : ∃ G, 1000000000000000 = G + l + 1 := ⟨999999999999999 - l, by omega⟩
  obtain ⟨S', r', h1, h2⟩ := k_wordL0 hl l 0 G 0 u x pos (by omega) D c
  refine ⟨S', r', h1, fun y o z => ?_⟩
  unfold cR_nextWord
  rw [hG]
  exact h2 y o z
theorem k_wordD {l : Nat} (hl : l ≤ 8) (h : u.2.2.2.2.2.2.2.2.2.2.2.2.1 1 = 1) : ∃ S', ∀ y o z, cR_nextWord (some 187) (some 163) (Int32.ofNat l) (gH u y o z) = some (S', gH u y o z) := by
  obtain ⟨G, hG⟩ : ∃ G, 1000000000000000 = G + l + 1 := ⟨999999999999999 - l, by omega⟩
  obtain ⟨S', h2⟩ := k_wordDead hl h l 0 G 0 (by omega)
  refine ⟨S', fun y o z => ?_⟩
  unfold cR_nextWord
  rw [hG]
  exact h2 y o z
end H
/-! the bytes of a word -/
theorem b_sh : ∀ i : Nat, i < 8 → ((Int32.toInt64 ((8 : Int32) * Int32.ofNat i) &&& 63).toBitVec.smod 64).toNat = 8 * i := by decide +kernel
theorem b_shr : ∀ i : Nat, i < 8 → (Int32.toInt64 ((8 : Int32) * Int32.ofNat i)).toUInt64 &&& Int64.toUInt64 63 = UInt64.ofNat (8 * i) := by decide +kernel
theorem b_sh32 : ∀ i : Nat, i < 4 → ((((8 : Int32) * Int32.ofNat i) &&& 31).toBitVec.smod 32).toNat = 8 * i := by decide +kernel
theorem b_small {t s : Nat} (h : t < 256) (hs : 8 ≤ s) : (BitVec.ofNat 32 t).getLsbD s = false := by
  rw [BitVec.getLsbD_ofNat]
  have : t.testBit s = false := Nat.testBit_lt_two_pow (Nat.lt_of_lt_of_le h (Nat.pow_le_pow_right (n := 2) (by omega) hs))
  simp [this]
/-- the bits of what one byte adds -/
theorem b_add {t i s : Nat} (ht : t < 256) (hi : i < 8) (hs : s < 64) : ((Int32.toInt64 (Int32.ofNat t)) <<< (Int32.toInt64 ((8 : Int32) * Int32.ofNat i) &&& 63)).toBitVec.getLsbD s = (decide (8 * i ≤ s) && (BitVec.ofNat 32 t).getLsbD (s - 8 * i)) := by
  have h1 : Int32.toInt64 (Int32.ofNat t) = Int64.ofNat t := Int32.toInt64_ofNat' (by rw [Int32.toInt_maxValue]; omega)
  rw [h1]
  show ((Int64.ofNat t).toBitVec <<< ((Int32.toInt64 ((8 : Int32) * Int32.ofNat i) &&& 63).toBitVec.smod 64)).getLsbD s = _
  rw [BitVec.shiftLeft_eq', BitVec.getLsbD_shiftLeft, b_sh i hi, Int64.toBitVec_ofNat']
  by_cases c : 8 * i ≤ s
  · rw [BitVec.getLsbD_ofNat, BitVec.getLsbD_ofNat]
    by_cases c2 : s - 8 * i < 32
    · simp [hs, c, c2, show s - 8 * i < 64 by omega, show ¬ s < 8 * i by omega]
    · have : t.testBit (s - 8 * i) = false := Nat.testBit_lt_two_pow (Nat.lt_of_lt_of_le ht (Nat.pow_le_pow_right (n := 2) (i := 8) (by omega) (by omega)))
      simp [this]
  · simp [c, show s < 8 * i by omega]
theorem b_byte {w : Int64} {j s : Nat} (hj : j < 8) (hs : s < 32) : (gt_w w j).toBitVec.getLsbD s = (decide (s < 8) && w.toBitVec.getLsbD (8 * j + s)) := by
  unfold gt_w
  rw [b_shr j hj]
  have e : (UInt64.ofNat (8 * j)).toBitVec % 64 = BitVec.ofNat 64 (8 * j) := by
    apply BitVec.eq_of_toNat_eq
    rw [BitVec.toNat_umod]
    show (UInt64.ofNat (8 * j)).toNat % 64 = _
    rw [UInt64.toNat_ofNat_of_lt' (by show 8 * j < 2 ^ 64; omega), BitVec.toNat_ofNat]
    omega
  show ((BitVec.signExtend 32 (w.toUInt64 >>> UInt64.ofNat (8 * j)).toBitVec) &&& 255#32).getLsbD s = _
  rw [BitVec.getLsbD_and, gt_bv255 s hs, UInt64.toBitVec_shiftRight, e, BitVec.getLsbD_signExtend]
  by_cases c : s < 8
  · have : s < 64 := by omega
    simp [c, hs, this, BitVec.getLsbD_ushiftRight, BitVec.ushiftRight_eq', Nat.mod_eq_of_lt (show 8 * j < 2 ^ 64 by omega)]
  · simp [c]
end
section
/-! read: the bytes of a word, texts -/
def gLow (S : Int64) (i : Nat) : Prop := ∀ s, 8 * i ≤ s → S.toBitVec.getLsbD s = false
theorem b_or1 {S : Int64} {t i : Nat} (ht : t < 256) (hi : i < 8) (h : gLow S i) : gLow (S ||| ((Int32.toInt64 (Int32.ofNat t)) <<< (Int32.toInt64 ((8 : Int32) * Int32.ofNat i) &&& 63))) (i + 1) := by
  intro s hs
  by_cases c : s < 64
  · rw [Int64.toBitVec_or, BitVec.getLsbD_or, h s (by omega), b_add ht hi c, b_small ht (by omega)]
    simp
  · exact BitVec.getLsbD_of_ge _ _ (by omega)
theorem b_or2 {S : Int64} {t i j : Nat} (ht : t < 256) (hi : i < 8) (hj : j < i) : gt_w (S ||| ((Int32.toInt64 (Int32.ofNat t)) <<< (Int32.toInt64 ((8 : Int32) * Int32.ofNat i) &&& 63))) j = gt_w S j := by
  apply Int32.toBitVec_inj.mp
  apply BitVec.eq_of_getLsbD_eq
  intro s hs
  rw [b_byte (by omega) hs, b_byte (by omega) hs]
  by_cases c : s < 8
  · rw [Int64.toBitVec_or, BitVec.getLsbD_or, b_add ht hi (by omega)]
    simp [show ¬ 8 * i ≤ 8 * j + s by omega]
  · simp [c]
theorem b_or3 {S : Int64} {t i : Nat} (ht : t < 256) (hi : i < 8) (h : gLow S i) : gt_w (S ||| ((Int32.toInt64 (Int32.ofNat t)) <<< (Int32.toInt64 ((8 : Int32) * Int32.ofNat i) &&& 63))) i = Int32.ofNat t := by
  apply Int32.toBitVec_inj.mp
  apply BitVec.eq_of_getLsbD_eq
  intro s hs
  rw [b_byte hi hs]
  show _ = (BitVec.ofNat 32 t).getLsbD s
  by_cases c : s < 8
  · rw [Int64.toBitVec_or, BitVec.getLsbD_or, b_add ht hi (by omega), h (8 * i + s) (by omega), show 8 * i + s - 8 * i = s by omega]
    simp [c]
  · rw [b_small ht (by omega)]
    simp [c]
theorem gwd_byte {b : Nat → Int32} : ∀ (r i p : Nat) (S : Int64), i + r ≤ 8 → (∀ j, j < r → ∃ t, t < 256 ∧ b (p + j) = Int32.ofNat t) → gLow S i → (∀ j, j < i → gt_w (gwd b r i p S) j = gt_w S j) ∧ ∀ j, j < r → gt_w (gwd b r i p S) (i + j) = b (p + j) := by
  intro r
  induction r with
  | zero =>
    intro i p S h hb hl
    exact ⟨fun j _ => rfl, fun j hj => by omega⟩
  | succ r ih =>
    intro i p S h hb hl
    obtain ⟨t, t1, t2⟩ := hb 0 (by omega)
    rw [Nat.add_zero] at t2
    unfold gwd
    rw [t2]
    obtain ⟨k1, k2⟩ := ih (i + 1) (p + 1) _ (by omega) (fun j hj => by
      obtain ⟨t, t1, t2⟩ := hb (j + 1) (by omega)
      exact ⟨t, t1, by rw [← t2, show p + 1 + j = p + (j + 1) by omega]⟩) (b_or1 t1 (by omega) hl)
    refine ⟨fun j hj => ?_, fun j hj => ?_⟩
    · rw [k1 j (by omega), b_or2 t1 (by omega) hj]
    · by_cases c : j = 0
      · subst c
        show gt_w _ i = b p
        rw [k1 i (by omega), b_or3 t1 (by omega) hl, t2]
      · have := k2 (j - 1) (by omega)
        rw [show i + 1 + (j - 1) = i + j by omega, show p + 1 + (j - 1) = p + j by omega] at this
        exact this
theorem gLow0 {i : Nat} : gLow 0 i := by
  intro s _
  show (0#64).getLsbD s = false
  simp
/-- a text's number, as the reference puts it together -/
def gw32 (b : Nat → Int32) : Nat → Nat → Nat → Int32 → Int32
  | 0, _, _, v => v
  | r + 1, i, p, v => gw32 b r (i + 1) (p + 1) (v ||| (b p <<< (((8 : Int32) * Int32.ofNat i) &&& 31)))
theorem b_low {S : Int64} {s : Nat} (hs : s < 32) : (Int64.toInt32 S).toBitVec.getLsbD s = S.toBitVec.getLsbD s := by
  show (BitVec.signExtend 32 S.toBitVec).getLsbD s = _
  rw [BitVec.getLsbD_signExtend]
  simp [hs, show s < 64 by omega]
theorem b_or32 {S : Int64} {t i : Nat} (ht : t < 256) (hi : i < 4) : Int64.toInt32 (S ||| ((Int32.toInt64 (Int32.ofNat t)) <<< (Int32.toInt64 ((8 : Int32) * Int32.ofNat i) &&& 63))) = Int64.toInt32 S ||| (Int32.ofNat t <<< (((8 : Int32) * Int32.ofNat i) &&& 31)) := by
  apply Int32.toBitVec_inj.mp
  apply BitVec.eq_of_getLsbD_eq
  intro s hs
  rw [b_low hs, Int64.toBitVec_or, BitVec.getLsbD_or, b_add ht (by omega) (by omega), Int32.toBitVec_or, BitVec.getLsbD_or, b_low hs]
  congr 1
  show _ = ((BitVec.ofNat 32 t) <<< ((((8 : Int32) * Int32.ofNat i) &&& 31).toBitVec.smod 32)).getLsbD s
  rw [BitVec.shiftLeft_eq', BitVec.getLsbD_shiftLeft, b_sh32 i hi]
  by_cases c : 8 * i ≤ s
  · simp [hs, c, show ¬ s < 8 * i by omega]
  · simp [c, show s < 8 * i by omega]
theorem gwd_32 {b : Nat → Int32} : ∀ (r i p : Nat) (S : Int64), i + r ≤ 4 → (∀ j, j < r → ∃ t, t < 256 ∧ b (p + j) = Int32.ofNat t) → Int64.toInt32 (gwd b r i p S) = gw32 b r i p (Int64.toInt32 S) := by
  intro r
  induction r with
  | zero => intro i p S h hb; rfl
  | succ r ih =>
    intro i p S h hb
    obtain ⟨t, t1, t2⟩ := hb 0 (by omega)
    rw [Nat.add_zero] at t2
    unfold gwd gw32
    rw [t2, ih (i + 1) (p + 1) _ (by omega) (fun j hj => by
      obtain ⟨t, t1, t2⟩ := hb (j + 1) (by omega)
      exact ⟨t, t1, by rw [← t2, show p + 1 + j = p + (j + 1) by omega]⟩), b_or32 t1 (by omega)]
theorem gt_w32 {S : Int64} {j : Nat} (hj : j < 4) : gt_w (Int32.toInt64 (Int64.toInt32 S)) j = gt_w S j := by
  apply Int32.toBitVec_inj.mp
  apply BitVec.eq_of_getLsbD_eq
  intro s hs
  rw [b_byte (by omega) hs, b_byte (by omega) hs]
  by_cases c : s < 8
  · have e : (Int32.toInt64 (Int64.toInt32 S)).toBitVec.getLsbD (8 * j + s) = (Int64.toInt32 S).toBitVec.getLsbD (8 * j + s) := by
      show (BitVec.signExtend 64 (Int64.toInt32 S).toBitVec).getLsbD (8 * j + s) = _
      rw [BitVec.getLsbD_signExtend]
      simp [show 8 * j + s < 64 by omega, show 8 * j + s < 32 by omega]
    rw [e, b_low (by omega)]
  · simp [c]
section H
variable {n0 f q m N pos : Nat} {u : gU} {x : gX}
theorem k_settle {a b : Int32} : ∀ y o z, cR_settle (some 187) a b (gH u y o z) = some (gH ((u.1, u.2.1, u.2.2.1, u.2.2.2.1, u.2.2.2.2.1, u.2.2.2.2.2.1, u.2.2.2.2.2.2.1, u.2.2.2.2.2.2.2.1, u.2.2.2.2.2.2.2.2.1, u.2.2.2.2.2.2.2.2.2.1, u.2.2.2.2.2.2.2.2.2.2.1, u.2.2.2.2.2.2.2.2.2.2.2.1, gup (gup u.2.2.2.2.2.2.2.2.2.2.2.2.1 2 a) 3 b, u.2.2.2.2.2.2.2.2.2.2.2.2.2.1, u.2.2.2.2.2.2.2.2.2.2.2.2.2.2) : gU) y o z) := by
  intro y o z
  simp only [cR_settle, hp_187_2, Option.bind_some, hp_187_3]
theorem r_got {a b : Int32} : ∀ y o z, mM_got (some 188) a b (gH y x o z) = some (gH y ((x.1, gup (gup x.2.1 35 a) 36 b, x.2.2.1, x.2.2.2.1, x.2.2.2.2.1, x.2.2.2.2.2.1, x.2.2.2.2.2.2.1, x.2.2.2.2.2.2.2.1, x.2.2.2.2.2.2.2.2.1, x.2.2.2.2.2.2.2.2.2.1, x.2.2.2.2.2.2.2.2.2.2.1, x.2.2.2.2.2.2.2.2.2.2.2.1, x.2.2.2.2.2.2.2.2.2.2.2.2.1, x.2.2.2.2.2.2.2.2.2.2.2.2.2.1, x.2.2.2.2.2.2.2.2.2.2.2.2.2.2.1, x.2.2.2.2.2.2.2.2.2.2.2.2.2.2.2) : gX) o z) := by
  intro y o z
  simp only [mM_got, hp_188_35, Option.bind_some, hp_188_36]
theorem k_chkL {l : Nat} {v : Int32} (hl : l ≤ 4) : ∀ (r i g : Nat) (u : gU), i + r = l → ∃ w, (∀ y o z, cR_readText_18 (g + r + 1) (some 187) (Int32.ofNat l) v (Int32.ofNat i) (gH u y o z) = some (gH ((u.1, u.2.1, u.2.2.1, u.2.2.2.1, u.2.2.2.2.1, u.2.2.2.2.2.1, u.2.2.2.2.2.2.1, u.2.2.2.2.2.2.2.1, u.2.2.2.2.2.2.2.2.1, u.2.2.2.2.2.2.2.2.2.1, u.2.2.2.2.2.2.2.2.2.2.1, u.2.2.2.2.2.2.2.2.2.2.2.1, gup (gup (gup u.2.2.2.2.2.2.2.2.2.2.2.2.1 1 w) 2 5) 3 v, u.2.2.2.2.2.2.2.2.2.2.2.2.2.1, u.2.2.2.2.2.2.2.2.2.2.2.2.2.2) : gU) y o z)) ∧ ((w = u.2.2.2.2.2.2.2.2.2.2.2.2.1 1 ∧ ∀ j, i ≤ j → j < l → ¬ gt_w (Int32.toInt64 v) j = 0) ∨ (w = 1 ∧ (u.2.2.2.2.2.2.2.2.2.2.2.2.1 1 = 1 ∨ ∃ j, i ≤ j ∧ j < l ∧ gt_w (Int32.toInt64 v) j = 0))) := by
  intro r
  induction r with
  | zero =>
    intro i g u e
    refine ⟨u.2.2.2.2.2.2.2.2.2.2.2.2.1 1, fun y o z => ?_, Or.inl ⟨rfl, fun j h1 h2 => by omega⟩⟩
    rw [cR_readText_18, if_neg (n_nltl (by omega) (by omega) (by omega)), ho_187, Option.bind_some, k_settle, Option.bind_some, gup_self]
  | succ r ih =>
    intro i g u e
    by_cases c : gt_w (Int32.toInt64 v) i = 0
    · obtain ⟨w, k1, k2⟩ := ih (i + 1) g ((u.1, u.2.1, u.2.2.1, u.2.2.2.1, u.2.2.2.2.1, u.2.2.2.2.2.1, u.2.2.2.2.2.2.1, u.2.2.2.2.2.2.2.1, u.2.2.2.2.2.2.2.2.1, u.2.2.2.2.2.2.2.2.2.1, u.2.2.2.2.2.2.2.2.2.2.1, u.2.2.2.2.2.2.2.2.2.2.2.1, gup u.2.2.2.2.2.2.2.2.2.2.2.2.1 1 1, u.2.2.2.2.2.2.2.2.2.2.2.2.2.1, u.2.2.2.2.2.2.2.2.2.2.2.2.2.2) : gU) (by omega)
      refine ⟨w, fun y o z => ?_, Or.inr ⟨?_, Or.inr ⟨i, by omega, by omega, c⟩⟩⟩
      · rw [show g + (r + 1) + 1 = (g + r + 1) + 1 by omega, cR_readText_18, if_pos (n_ltl (by omega) (by omega) (by omega)), k_byteOf, Option.bind_some, if_pos c, hp_187_1, Option.bind_some, cR_readText_39, n_succ]
        refine (k1 y o z).trans ?_
        show some (gH ((u.1, u.2.1, u.2.2.1, u.2.2.2.1, u.2.2.2.2.1, u.2.2.2.2.2.1, u.2.2.2.2.2.2.1, u.2.2.2.2.2.2.2.1, u.2.2.2.2.2.2.2.2.1, u.2.2.2.2.2.2.2.2.2.1, u.2.2.2.2.2.2.2.2.2.2.1, u.2.2.2.2.2.2.2.2.2.2.2.1, gup (gup (gup (gup u.2.2.2.2.2.2.2.2.2.2.2.2.1 1 1) 1 w) 2 5) 3 v, u.2.2.2.2.2.2.2.2.2.2.2.2.2.1, u.2.2.2.2.2.2.2.2.2.2.2.2.2.2) : gU) y o z) = _
        rw [gup_gup]
      · rcases k2 with h | h
        · exact h.1
        · exact h.1
    · obtain ⟨w, k1, k2⟩ := ih (i + 1) g u (by omega)
      refine ⟨w, fun y o z => ?_, ?_⟩
      · rw [show g + (r + 1) + 1 = (g + r + 1) + 1 by omega, cR_readText_18, if_pos (n_ltl (by omega) (by omega) (by omega)), k_byteOf, Option.bind_some, if_neg c, cR_readText_39, n_succ]
        exact k1 y o z
      · rcases k2 with ⟨h1, h2⟩ | ⟨h1, h2⟩
        · refine Or.inl ⟨h1, fun j a b => ?_⟩
          by_cases e : j = i
          · subst e; exact c
          · exact h2 j (by omega) b
        · refine Or.inr ⟨h1, ?_⟩
          rcases h2 with h2 | ⟨j, a, b⟩
          · exact Or.inl h2
          · exact Or.inr ⟨j, by omega, b⟩
theorem r_textDead {l : Nat} (hl : l ≤ 4) : ∀ (r i g : Nat) (v : Int32) (x : gX), i + r = l → x.2.1 31 = 0 → ∃ v' s, s 31 = 0 ∧ gKs x.2.1 s ∧ ∀ y o z, mM_text_10 (g + r + 1) (some 188) (Int32.ofNat l) v (Int32.ofNat i) (gH y x o z) = some (v', gH y ((x.1, s, x.2.2.1, x.2.2.2.1, x.2.2.2.2.1, x.2.2.2.2.2.1, x.2.2.2.2.2.2.1, x.2.2.2.2.2.2.2.1, x.2.2.2.2.2.2.2.2.1, x.2.2.2.2.2.2.2.2.2.1, x.2.2.2.2.2.2.2.2.2.2.1, x.2.2.2.2.2.2.2.2.2.2.2.1, x.2.2.2.2.2.2.2.2.2.2.2.2.1, x.2.2.2.2.2.2.2.2.2.2.2.2.2.1, x.2.2.2.2.2.2.2.2.2.2.2.2.2.2.1, x.2.2.2.2.2.2.2.2.2.2.2.2.2.2.2) : gX) o z) := by
  intro r
  induction r with
  | zero =>
    intro i g v x e h
    exact ⟨v, x.2.1, h, gKs_refl, fun y o z => by rw [mM_text_10, if_neg (n_nltl (by omega) (by omega) (by omega))]⟩
  | succ r ih =>
    intro i g v x e h
    obtain ⟨s, s1, s2, s3⟩ := r_nxDead h
    obtain ⟨v', s', t1, t2, t3⟩ := ih (i + 1) g (v ||| ((0 : Int32) <<< (((8 : Int32) * Int32.ofNat i) &&& 31))) ((x.1, gup s 31 0, x.2.2.1, x.2.2.2.1, x.2.2.2.2.1, x.2.2.2.2.2.1, x.2.2.2.2.2.2.1, x.2.2.2.2.2.2.2.1, x.2.2.2.2.2.2.2.2.1, x.2.2.2.2.2.2.2.2.2.1, x.2.2.2.2.2.2.2.2.2.2.1, x.2.2.2.2.2.2.2.2.2.2.2.1, x.2.2.2.2.2.2.2.2.2.2.2.2.1, x.2.2.2.2.2.2.2.2.2.2.2.2.2.1, x.2.2.2.2.2.2.2.2.2.2.2.2.2.2.1, x.2.2.2.2.2.2.2.2.2.2.2.2.2.2.2) : gX) (by omega) rfl
    refine ⟨v', s', t1, gKs_trans s2 (gKs_trans (fun j hj => gup_ne (by omega)) t2), fun y o z => ?_⟩
    rw [show g + (r + 1) + 1 = (g + r + 1) + 1 by omega, mM_text_10, if_pos (n_ltl (by omega) (by omega) (by omega)), ho_188, Option.bind_some, s3, Option.bind_some, hi_188_31, Option.bind_some, if_pos s1]
    simp only [mM_text_38, mM_text_39, true_or, not_true, if_false, hp_188_31, Option.bind_some, n_succ]
    exact t3 y o z
theorem r_textL {l : Nat} (hl : l ≤ 4) : ∀ (r i g : Nat) (v : Int32) (u : gU) (x : gX) (pos : Nat), i + r = l → gD n0 f q m N pos u x → pos + r ≤ m → (∀ j, j < r → ¬ u.2.2.2.2.1 (pos + j) = 0) → ∀ y o z, mM_text_10 (g + r + 1) (some 188) (Int32.ofNat l) v (Int32.ofNat i) (gH y x o z) = some (gw32 u.2.2.2.2.1 r i pos v, gH y (sx x (pos + r)) o z) := by
  intro r
  induction r with
  | zero =>
    intro i g v u x pos e D c nz y o z
    rw [mM_text_10, if_neg (n_nltl (by omega) (by omega) (by omega))]
    have : sx x (pos + 0) = x := by
      unfold sx
      rw [Nat.add_zero, gup_same D.px]
    rw [this]; rfl
  | succ r ih =>
    intro i g v u x pos e D c nz y o z
    have e31 : (sx x (pos + 1)).2.1 31 = 1 := D.gg
    have D1 : gD n0 f q m N (pos + 1) (su u (pos + 1)) (sx x (pos + 1)) := gD_s D (by omega)
    have z0 : ¬ u.2.2.2.2.1 pos = 0 := nz 0 (by omega)
    rw [show g + (r + 1) + 1 = (g + r + 1) + 1 by omega, mM_text_10, if_pos (n_ltl (by omega) (by omega) (by omega)), ho_188, Option.bind_some, r_nx D (by omega), Option.bind_some, hi_188_31, Option.bind_some, if_neg (by rw [e31]; decide), if_neg z0]
    have K := ih (i + 1) g (v ||| (u.2.2.2.2.1 pos <<< (((8 : Int32) * Int32.ofNat i) &&& 31))) (su u (pos + 1)) (sx x (pos + 1)) (pos + 1) (by omega) D1 (by omega) (fun j hj => by
      rw [show pos + 1 + j = pos + (j + 1) by omega]; exact nz (j + 1) (by omega)) y o z
    rw [sx_sx, show pos + 1 + r = pos + (r + 1) by omega] at K
    simp only [mM_text_39, or_true, not_true, if_false, hp_188_31, Option.bind_some, n_succ, gup_same e31]
    exact K
theorem r_textL0 {l : Nat} (hl : l ≤ 4) : ∀ (r i g : Nat) (v : Int32) (u : gU) (x : gX) (pos : Nat), i + r = l → gD n0 f q m N pos u x → ¬ (pos + r ≤ m ∧ ∀ j, j < r → ¬ u.2.2.2.2.1 (pos + j) = 0) → ∃ v' s, s 31 = 0 ∧ gKs x.2.1 s ∧ ∀ y o z, mM_text_10 (g + r + 1) (some 188) (Int32.ofNat l) v (Int32.ofNat i) (gH y x o z) = some (v', gH y ((x.1, s, x.2.2.1, x.2.2.2.1, x.2.2.2.2.1, x.2.2.2.2.2.1, x.2.2.2.2.2.2.1, x.2.2.2.2.2.2.2.1, x.2.2.2.2.2.2.2.2.1, x.2.2.2.2.2.2.2.2.2.1, x.2.2.2.2.2.2.2.2.2.2.1, x.2.2.2.2.2.2.2.2.2.2.2.1, x.2.2.2.2.2.2.2.2.2.2.2.2.1, x.2.2.2.2.2.2.2.2.2.2.2.2.2.1, x.2.2.2.2.2.2.2.2.2.2.2.2.2.2.1, x.2.2.2.2.2.2.2.2.2.2.2.2.2.2.2) : gX) o z) := by
  intro r
  induction r with
  | zero =>
    intro i g v u x pos e D c
    exact absurd ⟨D.hp, fun j hj => by omega⟩ c
  | succ r ih =>
    intro i g v u x pos e D c
    by_cases p : pos < m
    · have e31 : (sx x (pos + 1)).2.1 31 = 1 := D.gg
      have D1 : gD n0 f q m N (pos + 1) (su u (pos + 1)) (sx x (pos + 1)) := gD_s D (by omega)
      have ks : gKs x.2.1 (sx x (pos + 1)).2.1 := fun j hj => gup_ne (by omega)
      by_cases z0 : u.2.2.2.2.1 pos = 0
      · obtain ⟨v', s', t1, t2, t3⟩ := r_textDead hl r (i + 1) g (v ||| (u.2.2.2.2.1 pos <<< (((8 : Int32) * Int32.ofNat i) &&& 31))) (((sx x (pos + 1)).1, gup (sx x (pos + 1)).2.1 31 0, (sx x (pos + 1)).2.2.1, (sx x (pos + 1)).2.2.2.1, (sx x (pos + 1)).2.2.2.2.1, (sx x (pos + 1)).2.2.2.2.2.1, (sx x (pos + 1)).2.2.2.2.2.2.1, (sx x (pos + 1)).2.2.2.2.2.2.2.1, (sx x (pos + 1)).2.2.2.2.2.2.2.2.1, (sx x (pos + 1)).2.2.2.2.2.2.2.2.2.1, (sx x (pos + 1)).2.2.2.2.2.2.2.2.2.2.1, (sx x (pos + 1)).2.2.2.2.2.2.2.2.2.2.2.1, (sx x (pos + 1)).2.2.2.2.2.2.2.2.2.2.2.2.1, (sx x (pos + 1)).2.2.2.2.2.2.2.2.2.2.2.2.2.1, (sx x (pos + 1)).2.2.2.2.2.2.2.2.2.2.2.2.2.2.1, (sx x (pos + 1)).2.2.2.2.2.2.2.2.2.2.2.2.2.2.2) : gX) (by omega) rfl
        refine ⟨v', s', t1, gKs_trans ks (gKs_trans (fun j hj => gup_ne (by omega)) t2), fun y o z => ?_⟩
        rw [show g + (r + 1) + 1 = (g + r + 1) + 1 by omega, mM_text_10, if_pos (n_ltl (by omega) (by omega) (by omega)), ho_188, Option.bind_some, r_nx D p, Option.bind_some, hi_188_31, Option.bind_some, if_neg (by rw [e31]; decide), if_pos z0]
        simp only [mM_text_38, mM_text_39, true_or, not_true, if_false, hp_188_31, Option.bind_some, n_succ]
        exact t3 y o z
      · obtain ⟨v', s', t1, t2, t3⟩ := ih (i + 1) g (v ||| (u.2.2.2.2.1 pos <<< (((8 : Int32) * Int32.ofNat i) &&& 31))) (su u (pos + 1)) (sx x (pos + 1)) (pos + 1) (by omega) D1 (fun ⟨a1, a2⟩ => c ⟨by omega, fun j hj => by
          by_cases e : j = 0
          · subst e; exact z0
          · have := a2 (j - 1) (by omega)
            rw [show pos + 1 + (j - 1) = pos + j by omega] at this
            exact this⟩)
        refine ⟨v', s', t1, gKs_trans ks t2, fun y o z => ?_⟩
        rw [show g + (r + 1) + 1 = (g + r + 1) + 1 by omega, mM_text_10, if_pos (n_ltl (by omega) (by omega) (by omega)), ho_188, Option.bind_some, r_nx D p, Option.bind_some, hi_188_31, Option.bind_some, if_neg (by rw [e31]; decide), if_neg z0]
        simp only [mM_text_39, or_true, not_true, if_false, hp_188_31, Option.bind_some, n_succ, gup_same e31]
        exact t3 y o z
    · have e31 : gup (gup x.2.1 31 0) 32 (Int32.ofNat (pos + 1)) 31 = 0 := rfl
      obtain ⟨v', s', t1, t2, t3⟩ := r_textDead hl r (i + 1) g (v ||| ((0 : Int32) <<< (((8 : Int32) * Int32.ofNat i) &&& 31))) ((x.1, gup (gup (gup x.2.1 31 0) 32 (Int32.ofNat (pos + 1))) 31 0, x.2.2.1, x.2.2.2.1, x.2.2.2.2.1, x.2.2.2.2.2.1, x.2.2.2.2.2.2.1, x.2.2.2.2.2.2.2.1, x.2.2.2.2.2.2.2.2.1, x.2.2.2.2.2.2.2.2.2.1, x.2.2.2.2.2.2.2.2.2.2.1, x.2.2.2.2.2.2.2.2.2.2.2.1, x.2.2.2.2.2.2.2.2.2.2.2.2.1, x.2.2.2.2.2.2.2.2.2.2.2.2.2.1, x.2.2.2.2.2.2.2.2.2.2.2.2.2.2.1, x.2.2.2.2.2.2.2.2.2.2.2.2.2.2.2) : gX) (by omega) rfl
      refine ⟨v', s', t1, gKs_trans (fun j hj => by
        show gup (gup (gup x.2.1 31 0) 32 (Int32.ofNat (pos + 1))) 31 0 j = x.2.1 j
        rw [gup_ne (by omega), gup_ne (by omega), gup_ne (by omega)]) t2, fun y o z => ?_⟩
      rw [show g + (r + 1) + 1 = (g + r + 1) + 1 by omega, mM_text_10, if_pos (n_ltl (by omega) (by omega) (by omega)), ho_188, Option.bind_some, r_nx0 D p, Option.bind_some, hi_188_31, Option.bind_some, if_pos e31]
      simp only [mM_text_38, mM_text_39, true_or, not_true, if_false, hp_188_31, Option.bind_some, n_succ]
      exact t3 y o z
/-- a text -/
theorem d_text (D : gD n0 f q m N pos u x) : (∃ v pos' r s, pos' ≤ m ∧ (∀ y o z, cR_readText (some 187) (some 163) (gH u y o z) = some (gH ((u.1, u.2.1, u.2.2.1, u.2.2.2.1, u.2.2.2.2.1, u.2.2.2.2.2.1, u.2.2.2.2.2.2.1, u.2.2.2.2.2.2.2.1, u.2.2.2.2.2.2.2.2.1, u.2.2.2.2.2.2.2.2.2.1, u.2.2.2.2.2.2.2.2.2.2.1, u.2.2.2.2.2.2.2.2.2.2.2.1, r, u.2.2.2.2.2.2.2.2.2.2.2.2.2.1, u.2.2.2.2.2.2.2.2.2.2.2.2.2.2) : gU) y o z)) ∧ (∀ y o z, mM_text (some 188) (gH y x o z) = some (v, gH y ((x.1, s, x.2.2.1, x.2.2.2.1, x.2.2.2.2.1, x.2.2.2.2.2.1, x.2.2.2.2.2.2.1, x.2.2.2.2.2.2.2.1, x.2.2.2.2.2.2.2.2.1, x.2.2.2.2.2.2.2.2.2.1, x.2.2.2.2.2.2.2.2.2.2.1, x.2.2.2.2.2.2.2.2.2.2.2.1, x.2.2.2.2.2.2.2.2.2.2.2.2.1, x.2.2.2.2.2.2.2.2.2.2.2.2.2.1, x.2.2.2.2.2.2.2.2.2.2.2.2.2.2.1, x.2.2.2.2.2.2.2.2.2.2.2.2.2.2.2) : gX) o z)) ∧ r 0 = Int32.ofNat pos' ∧ r 1 = 0 ∧ r 2 = 5 ∧ r 3 = v ∧ r 4 = u.2.2.2.2.2.2.2.2.2.2.2.2.1 4 ∧ r 5 = u.2.2.2.2.2.2.2.2.2.2.2.2.1 5 ∧ r 6 = u.2.2.2.2.2.2.2.2.2.2.2.2.1 6 ∧ s 31 = 1 ∧ s 32 = Int32.ofNat pos' ∧ s 33 = x.2.1 33 ∧ gKs x.2.1 s) ∨ ∃ v r s, (∀ y o z, cR_readText (some 187) (some 163) (gH u y o z) = some (gH ((u.1, u.2.1, u.2.2.1, u.2.2.2.1, u.2.2.2.2.1, u.2.2.2.2.2.1, u.2.2.2.2.2.2.1, u.2.2.2.2.2.2.2.1, u.2.2.2.2.2.2.2.2.1, u.2.2.2.2.2.2.2.2.2.1, u.2.2.2.2.2.2.2.2.2.2.1, u.2.2.2.2.2.2.2.2.2.2.2.1, r, u.2.2.2.2.2.2.2.2.2.2.2.2.2.1, u.2.2.2.2.2.2.2.2.2.2.2.2.2.2) : gU) y o z)) ∧ (∀ y o z, mM_text (some 188) (gH y x o z) = some (v, gH y ((x.1, s, x.2.2.1, x.2.2.2.1, x.2.2.2.2.1, x.2.2.2.2.2.1, x.2.2.2.2.2.2.1, x.2.2.2.2.2.2.2.1, x.2.2.2.2.2.2.2.2.1, x.2.2.2.2.2.2.2.2.2.1, x.2.2.2.2.2.2.2.2.2.2.1, x.2.2.2.2.2.2.2.2.2.2.2.1, x.2.2.2.2.2.2.2.2.2.2.2.2.1, x.2.2.2.2.2.2.2.2.2.2.2.2.2.1, x.2.2.2.2.2.2.2.2.2.2.2.2.2.2.1, x.2.2.2.2.2.2.2.2.2.2.2.2.2.2.2) : gX) o z)) ∧ r 1 = 1 ∧ s 31 = 0 ∧ gKs x.2.1 s := by
  have hm := D.hm
  by_cases c : pos < m ∧ ∃ j, j ≤ 4 ∧ u.2.2.2.2.1 pos = Int32.ofNat j
  · obtain ⟨p, l, hl, e⟩ := c
    have D1 : gD n0 f q m N (pos + 1) (su u (pos + 1)) (sx x (pos + 1)) := gD_s D (by omega)
    have a1 := k_up (t := 4) D p hl (by omega) e
    have a2 := r_up (t := 4) D p hl (by omega) e
    have ks : gKs x.2.1 (sx x (pos + 1)).2.1 := fun j hj => gup_ne (by omega)
    obtain ⟨G, hG⟩ : ∃ G, 1000000000000000 = G + l + 1 := ⟨999999999999999 - l, by omega⟩
    by_cases c2 : pos + 1 + l ≤ m
    · have b1 := k_word (l := l) (by omega) D1 c2
      rw [su_su] at b1
      have hb : ∀ j, j < l → ∃ t, t < 256 ∧ u.2.2.2.2.1 (pos + 1 + j) = Int32.ofNat t := fun j hj => D.b8 _ (by omega)
      obtain ⟨_, w1⟩ := gwd_byte (b := u.2.2.2.2.1) l 0 (pos + 1) 0 (by omega) hb gLow0
      obtain ⟨w, k1, k2⟩ := k_chkL (l := l) (v := Int64.toInt32 (gwd u.2.2.2.2.1 l 0 (pos + 1) 0)) hl l 0 G (su u (pos + 1 + l)) (by omega)
      have cl : ∀ y o z, cR_readText (some 187) (some 163) (gH u y o z) = some (gH ((u.1, u.2.1, u.2.2.1, u.2.2.2.1, u.2.2.2.2.1, u.2.2.2.2.2.1, u.2.2.2.2.2.2.1, u.2.2.2.2.2.2.2.1, u.2.2.2.2.2.2.2.2.1, u.2.2.2.2.2.2.2.2.2.1, u.2.2.2.2.2.2.2.2.2.2.1, u.2.2.2.2.2.2.2.2.2.2.2.1, gup (gup (gup (su u (pos + 1 + l)).2.2.2.2.2.2.2.2.2.2.2.2.1 1 w) 2 5) 3 (Int64.toInt32 (gwd u.2.2.2.2.1 l 0 (pos + 1) 0)), u.2.2.2.2.2.2.2.2.2.2.2.2.2.1, u.2.2.2.2.2.2.2.2.2.2.2.2.2.2) : gU) y o z) := by
        intro y o z
        unfold cR_readText
        rw [hG, ho_187, Option.bind_some, show (4 : Int32) = Int32.ofNat 4 from rfl, a1, Option.bind_some, ho_187, Option.bind_some]
        show ((cR_nextWord (some 187) (some 163) (Int32.ofNat l) (gH (su u (pos + 1)) y o z)).bind _) = _
        rw [b1, Option.bind_some]
        exact k1 y o z
      have by0 : ∀ j, j < l → gt_w (Int32.toInt64 (Int64.toInt32 (gwd u.2.2.2.2.1 l 0 (pos + 1) 0))) j = u.2.2.2.2.1 (pos + 1 + j) := fun j hj => by
        rw [gt_w32 (by omega)]
        have := w1 j hj
        rw [Nat.zero_add] at this
        exact this
      by_cases nz : ∀ j, j < l → ¬ u.2.2.2.2.1 (pos + 1 + j) = 0
      · have tl := r_textL hl l 0 G 0 (su u (pos + 1)) (sx x (pos + 1)) (pos + 1) (by omega) D1 c2 nz
        rw [sx_sx] at tl
        have w0 : w = 0 := by
          rcases k2 with ⟨h1, _⟩ | ⟨_, h2 | ⟨j, _, h3, h4⟩⟩
          · exact h1.trans D.wr
          · exact absurd (D.wr.symm.trans h2) (by decide)
          · exact absurd ((by0 j h3).symm.trans h4) (nz j h3)
        refine Or.inl ⟨gw32 u.2.2.2.2.1 l 0 (pos + 1) 0, pos + 1 + l, _, (sx x (pos + 1 + l)).2.1, c2, cl, fun y o z => ?_, rfl, w0, rfl, gwd_32 l 0 (pos + 1) 0 (by omega) hb, rfl, rfl, rfl, D.gg, rfl, rfl, fun j hj => gup_ne (v := Int32.ofNat (pos + 1 + l)) (by omega)⟩
        unfold mM_text
        rw [hG, ho_188, Option.bind_some, show (4 : Int32) = Int32.ofNat 4 from rfl, a2, Option.bind_some]
        exact tl y o z
      · obtain ⟨v', s', t1, t2, t3⟩ := r_textL0 hl l 0 G 0 (su u (pos + 1)) (sx x (pos + 1)) (pos + 1) (by omega) D1 (fun h => nz h.2)
        refine Or.inr ⟨v', _, s', cl, fun y o z => ?_, ?_, t1, gKs_trans ks t2⟩
        · unfold mM_text
          rw [hG, ho_188, Option.bind_some, show (4 : Int32) = Int32.ofNat 4 from rfl, a2, Option.bind_some]
          exact t3 y o z
        · show w = 1
          rcases k2 with ⟨_, h2⟩ | h2
          · exact absurd (fun j hj => fun q => h2 j (by omega) hj ((by0 j hj).trans q)) nz
          · exact h2.1
    · obtain ⟨S', r', h1, h2⟩ := k_word0 (l := l) (by omega) D1 c2
      obtain ⟨w, k1, k2⟩ := k_chkL (l := l) (v := Int64.toInt32 S') hl l 0 G (((su u (pos + 1)).1, (su u (pos + 1)).2.1, (su u (pos + 1)).2.2.1, (su u (pos + 1)).2.2.2.1, (su u (pos + 1)).2.2.2.2.1, (su u (pos + 1)).2.2.2.2.2.1, (su u (pos + 1)).2.2.2.2.2.2.1, (su u (pos + 1)).2.2.2.2.2.2.2.1, (su u (pos + 1)).2.2.2.2.2.2.2.2.1, (su u (pos + 1)).2.2.2.2.2.2.2.2.2.1, (su u (pos + 1)).2.2.2.2.2.2.2.2.2.2.1, (su u (pos + 1)).2.2.2.2.2.2.2.2.2.2.2.1, r', (su u (pos + 1)).2.2.2.2.2.2.2.2.2.2.2.2.2.1, (su u (pos + 1)).2.2.2.2.2.2.2.2.2.2.2.2.2.2) : gU) (by omega)
      obtain ⟨v', s', t1, t2, t3⟩ := r_textL0 hl l 0 G 0 (su u (pos + 1)) (sx x (pos + 1)) (pos + 1) (by omega) D1 (fun h => c2 h.1)
      refine Or.inr ⟨v', gup (gup (gup r' 1 w) 2 5) 3 (Int64.toInt32 S'), s', fun y o z => ?_, fun y o z => ?_, ?_, t1, gKs_trans ks t2⟩
      · unfold cR_readText
        rw [hG, ho_187, Option.bind_some, show (4 : Int32) = Int32.ofNat 4 from rfl, a1, Option.bind_some, ho_187, Option.bind_some]
        show ((cR_nextWord (some 187) (some 163) (Int32.ofNat l) (gH (su u (pos + 1)) y o z)).bind _) = _
        rw [h2, Option.bind_some]
        exact k1 y o z
      · unfold mM_text
        rw [hG, ho_188, Option.bind_some, show (4 : Int32) = Int32.ofNat 4 from rfl, a2, Option.bind_some]
        exact t3 y o z
      · show w = 1
        rcases k2 with h | h
        · exact h.1.trans h1
        · exact h.1
  · obtain ⟨r1, r2, a1⟩ := k_up0 (t := 4) D (by omega) c
    obtain ⟨s1, s2, s3, a2⟩ := r_up0 (t := 4) D (by omega) c
    obtain ⟨G, hG⟩ : ∃ G, 1000000000000000 = G + 0 + 1 := ⟨999999999999999, rfl⟩
    obtain ⟨S', b1⟩ := k_wordD (u := ((u.1, u.2.1, u.2.2.1, u.2.2.2.1, u.2.2.2.2.1, u.2.2.2.2.2.1, u.2.2.2.2.2.2.1, u.2.2.2.2.2.2.2.1, u.2.2.2.2.2.2.2.2.1, u.2.2.2.2.2.2.2.2.2.1, u.2.2.2.2.2.2.2.2.2.2.1, u.2.2.2.2.2.2.2.2.2.2.2.1, r1, u.2.2.2.2.2.2.2.2.2.2.2.2.2.1, u.2.2.2.2.2.2.2.2.2.2.2.2.2.2) : gU)) (l := 0) (by omega) r2
    obtain ⟨w, k1, k2⟩ := k_chkL (l := 0) (v := Int64.toInt32 S') (by omega) 0 0 G ((u.1, u.2.1, u.2.2.1, u.2.2.2.1, u.2.2.2.2.1, u.2.2.2.2.2.1, u.2.2.2.2.2.2.1, u.2.2.2.2.2.2.2.1, u.2.2.2.2.2.2.2.2.1, u.2.2.2.2.2.2.2.2.2.1, u.2.2.2.2.2.2.2.2.2.2.1, u.2.2.2.2.2.2.2.2.2.2.2.1, r1, u.2.2.2.2.2.2.2.2.2.2.2.2.2.1, u.2.2.2.2.2.2.2.2.2.2.2.2.2.2) : gU) (by omega)
    refine Or.inr ⟨0, gup (gup (gup r1 1 w) 2 5) 3 (Int64.toInt32 S'), s1, fun y o z => ?_, fun y o z => ?_, ?_, s2, s3⟩
    · unfold cR_readText
      rw [hG, ho_187, Option.bind_some, show (4 : Int32) = Int32.ofNat 4 from rfl, a1, Option.bind_some, ho_187, Option.bind_some]
      show ((cR_nextWord (some 187) (some 163) (Int32.ofNat 0) (gH ((u.1, u.2.1, u.2.2.1, u.2.2.2.1, u.2.2.2.2.1, u.2.2.2.2.2.1, u.2.2.2.2.2.2.1, u.2.2.2.2.2.2.2.1, u.2.2.2.2.2.2.2.2.1, u.2.2.2.2.2.2.2.2.2.1, u.2.2.2.2.2.2.2.2.2.2.1, u.2.2.2.2.2.2.2.2.2.2.2.1, r1, u.2.2.2.2.2.2.2.2.2.2.2.2.2.1, u.2.2.2.2.2.2.2.2.2.2.2.2.2.2) : gU) y o z)).bind _) = _
      rw [b1, Option.bind_some]
      exact k1 y o z
    · unfold mM_text
      rw [hG, ho_188, Option.bind_some, show (4 : Int32) = Int32.ofNat 4 from rfl, a2, Option.bind_some, mM_text_10]
      exact if_neg (show ¬ (0 : Int32) < 0 by decide)
    · show w = 1
      rcases k2 with h | h
      · exact h.1.trans r2
      · exact h.1
end H
end
section
/-! read: frames, turns of the reference's loop, values that are no objects -/
abbrev gUf  (N : Nat) (u u' : gU) : Prop := (∀ k, k < N → u'.1 k = u.1 k) ∧ (u'.2.1 = u.2.1) ∧ (u'.2.2.2.1 = u.2.2.2.1) ∧ (u'.2.2.2.2.1 = u.2.2.2.2.1) ∧ (u'.2.2.2.2.2.1 = u.2.2.2.2.2.1) ∧ (u'.2.2.2.2.2.2.1 = u.2.2.2.2.2.2.1) ∧ (u'.2.2.2.2.2.2.2.1 = u.2.2.2.2.2.2.2.1) ∧ (u'.2.2.2.2.2.2.2.2.2.2.2.2.2.2 = u.2.2.2.2.2.2.2.2.2.2.2.2.2.2)
theorem gUf.uC {N : Nat} {u u' : gU} (h : gUf N u u') : ∀ k, k < N → u'.1 k = u.1 k := h.1
theorem gUf.u0 {N : Nat} {u u' : gU} (h : gUf N u u') : u'.2.1 = u.2.1 := h.2.1
theorem gUf.u3 {N : Nat} {u u' : gU} (h : gUf N u u') : u'.2.2.2.1 = u.2.2.2.1 := h.2.2.1
theorem gUf.u4 {N : Nat} {u u' : gU} (h : gUf N u u') : u'.2.2.2.2.1 = u.2.2.2.2.1 := h.2.2.2.1
theorem gUf.u5 {N : Nat} {u u' : gU} (h : gUf N u u') : u'.2.2.2.2.2.1 = u.2.2.2.2.2.1 := h.2.2.2.2.1
theorem gUf.u6 {N : Nat} {u u' : gU} (h : gUf N u u') : u'.2.2.2.2.2.2.1 = u.2.2.2.2.2.2.1 := h.2.2.2.2.2.1
theorem gUf.u8 {N : Nat} {u u' : gU} (h : gUf N u u') : u'.2.2.2.2.2.2.2.1 = u.2.2.2.2.2.2.2.1 := h.2.2.2.2.2.2.1
theorem gUf.uh {N : Nat} {u u' : gU} (h : gUf N u u') : u'.2.2.2.2.2.2.2.2.2.2.2.2.2.2 = u.2.2.2.2.2.2.2.2.2.2.2.2.2.2 := h.2.2.2.2.2.2.2
abbrev gXd  (N : Nat) (x x' : gX) : Prop := (∀ k, k < N → x'.1 k = x.1 k) ∧ (∀ i, i < 18 → x'.2.1 i = x.2.1 i) ∧ (x'.2.2.1 = x.2.2.1) ∧ (x'.2.2.2.1 = x.2.2.2.1) ∧ (x'.2.2.2.2.1 = x.2.2.2.2.1) ∧ (x'.2.2.2.2.2.1 = x.2.2.2.2.2.1)
theorem gXd.dR {N : Nat} {x x' : gX} (h : gXd N x x') : ∀ k, k < N → x'.1 k = x.1 k := h.1
theorem gXd.dk {N : Nat} {x x' : gX} (h : gXd N x x') : ∀ i, i < 18 → x'.2.1 i = x.2.1 i := h.2.1
theorem gXd.d7 {N : Nat} {x x' : gX} (h : gXd N x x') : x'.2.2.1 = x.2.2.1 := h.2.2.1
theorem gXd.d8 {N : Nat} {x x' : gX} (h : gXd N x x') : x'.2.2.2.1 = x.2.2.2.1 := h.2.2.2.1
theorem gXd.d9 {N : Nat} {x x' : gX} (h : gXd N x x') : x'.2.2.2.2.1 = x.2.2.2.2.1 := h.2.2.2.2.1
theorem gXd.d0 {N : Nat} {x x' : gX} (h : gXd N x x') : x'.2.2.2.2.2.1 = x.2.2.2.2.2.1 := h.2.2.2.2.2
abbrev gXf  (N D : Nat) (x x' : gX) : Prop := (gXd N x x') ∧ (∀ i, i < D → x'.2.2.2.2.2.2.1 i = x.2.2.2.2.2.2.1 i ∧ x'.2.2.2.2.2.2.2.1 i = x.2.2.2.2.2.2.2.1 i ∧ x'.2.2.2.2.2.2.2.2.1 i = x.2.2.2.2.2.2.2.2.1 i) ∧ (∀ j, j < 6 * D → x'.2.2.2.2.2.2.2.2.2.1 j = x.2.2.2.2.2.2.2.2.2.1 j) ∧ (∀ i, i < D → x'.2.2.2.2.2.2.2.2.2.2.1 i = x.2.2.2.2.2.2.2.2.2.2.1 i ∧ x'.2.2.2.2.2.2.2.2.2.2.2.1 i = x.2.2.2.2.2.2.2.2.2.2.2.1 i ∧ x'.2.2.2.2.2.2.2.2.2.2.2.2.1 i = x.2.2.2.2.2.2.2.2.2.2.2.2.1 i)
theorem gXf.fd {N D : Nat} {x x' : gX} (h : gXf N D x x') : gXd N x x' := h.1
theorem gXf.f1 {N D : Nat} {x x' : gX} (h : gXf N D x x') : ∀ i, i < D → x'.2.2.2.2.2.2.1 i = x.2.2.2.2.2.2.1 i ∧ x'.2.2.2.2.2.2.2.1 i = x.2.2.2.2.2.2.2.1 i ∧ x'.2.2.2.2.2.2.2.2.1 i = x.2.2.2.2.2.2.2.2.1 i := h.2.1
theorem gXf.f4 {N D : Nat} {x x' : gX} (h : gXf N D x x') : ∀ j, j < 6 * D → x'.2.2.2.2.2.2.2.2.2.1 j = x.2.2.2.2.2.2.2.2.2.1 j := h.2.2.1
theorem gXf.f5 {N D : Nat} {x x' : gX} (h : gXf N D x x') : ∀ i, i < D → x'.2.2.2.2.2.2.2.2.2.2.1 i = x.2.2.2.2.2.2.2.2.2.2.1 i ∧ x'.2.2.2.2.2.2.2.2.2.2.2.1 i = x.2.2.2.2.2.2.2.2.2.2.2.1 i ∧ x'.2.2.2.2.2.2.2.2.2.2.2.2.1 i = x.2.2.2.2.2.2.2.2.2.2.2.2.1 i := h.2.2.2
theorem gUf_refl {N : Nat} {u : gU} : gUf N u u := ⟨fun _ _ => rfl, rfl, rfl, rfl, rfl, rfl, rfl, rfl⟩
theorem gUf_trans {N N2 : Nat} {u u' u2 : gU} (h : gUf N u u') (k : gUf N2 u' u2) (hN : N ≤ N2) : gUf N u u2 :=
  ⟨fun i hi => (k.uC i (by omega)).trans (h.uC i hi), k.u0.trans h.u0, k.u3.trans h.u3, k.u4.trans h.u4, k.u5.trans h.u5, k.u6.trans h.u6, k.u8.trans h.u8, k.uh.trans h.uh⟩
theorem gUf_mono {N N2 : Nat} {u u' : gU} (h : gUf N2 u u') (hN : N ≤ N2) : gUf N u u' := gUf_trans gUf_refl h hN
theorem gUf_r {N : Nat} {u : gU} {r : Nat → Int32} : gUf N u ((u.1, u.2.1, u.2.2.1, u.2.2.2.1, u.2.2.2.2.1, u.2.2.2.2.2.1, u.2.2.2.2.2.2.1, u.2.2.2.2.2.2.2.1, u.2.2.2.2.2.2.2.2.1, u.2.2.2.2.2.2.2.2.2.1, u.2.2.2.2.2.2.2.2.2.2.1, u.2.2.2.2.2.2.2.2.2.2.2.1, r, u.2.2.2.2.2.2.2.2.2.2.2.2.2.1, u.2.2.2.2.2.2.2.2.2.2.2.2.2.2) : gU) := ⟨fun _ _ => rfl, rfl, rfl, rfl, rfl, rfl, rfl, rfl⟩
theorem gXd_refl {N : Nat} {x : gX} : gXd N x x := ⟨fun _ _ => rfl, fun _ _ => rfl, rfl, rfl, rfl, rfl⟩
theorem gXd_trans {N N2 : Nat} {x x' x2 : gX} (h : gXd N x x') (k : gXd N2 x' x2) (hN : N ≤ N2) : gXd N x x2 :=
  ⟨fun i hi => (k.dR i (by omega)).trans (h.dR i hi), fun i hi => (k.dk i hi).trans (h.dk i hi), k.d7.trans h.d7, k.d8.trans h.d8, k.d9.trans h.d9, k.d0.trans h.d0⟩
theorem gXd_s {N : Nat} {x : gX} {s : Nat → Int32} (h : gKs x.2.1 s) : gXd N x ((x.1, s, x.2.2.1, x.2.2.2.1, x.2.2.2.2.1, x.2.2.2.2.2.1, x.2.2.2.2.2.2.1, x.2.2.2.2.2.2.2.1, x.2.2.2.2.2.2.2.2.1, x.2.2.2.2.2.2.2.2.2.1, x.2.2.2.2.2.2.2.2.2.2.1, x.2.2.2.2.2.2.2.2.2.2.2.1, x.2.2.2.2.2.2.2.2.2.2.2.2.1, x.2.2.2.2.2.2.2.2.2.2.2.2.2.1, x.2.2.2.2.2.2.2.2.2.2.2.2.2.2.1, x.2.2.2.2.2.2.2.2.2.2.2.2.2.2.2) : gX) := ⟨fun _ _ => rfl, fun i hi => h i (by omega), rfl, rfl, rfl, rfl⟩
theorem gXf_refl {N D : Nat} {x : gX} : gXf N D x x := ⟨gXd_refl, fun _ _ => ⟨rfl, rfl, rfl⟩, fun _ _ => rfl, fun _ _ => ⟨rfl, rfl, rfl⟩⟩
theorem gXf_trans {N N2 D D2 : Nat} {x x' x2 : gX} (h : gXf N D x x') (k : gXf N2 D2 x' x2) (hN : N ≤ N2) (hD : D ≤ D2) : gXf N D x x2 := by
  refine ⟨gXd_trans h.fd k.fd hN, fun i hi => ?_, fun j hj => (k.f4 j (by omega)).trans (h.f4 j hj), fun i hi => ?_⟩
  · obtain ⟨a1, a2, a3⟩ := h.f1 i hi
    obtain ⟨b1, b2, b3⟩ := k.f1 i (by omega)
    exact ⟨b1.trans a1, b2.trans a2, b3.trans a3⟩
  · obtain ⟨a1, a2, a3⟩ := h.f5 i hi
    obtain ⟨b1, b2, b3⟩ := k.f5 i (by omega)
    exact ⟨b1.trans a1, b2.trans a2, b3.trans a3⟩
theorem gXf_s {N D : Nat} {x : gX} {s : Nat → Int32} (h : gKs x.2.1 s) : gXf N D x ((x.1, s, x.2.2.1, x.2.2.2.1, x.2.2.2.2.1, x.2.2.2.2.2.1, x.2.2.2.2.2.2.1, x.2.2.2.2.2.2.2.1, x.2.2.2.2.2.2.2.2.1, x.2.2.2.2.2.2.2.2.2.1, x.2.2.2.2.2.2.2.2.2.2.1, x.2.2.2.2.2.2.2.2.2.2.2.1, x.2.2.2.2.2.2.2.2.2.2.2.2.1, x.2.2.2.2.2.2.2.2.2.2.2.2.2.1, x.2.2.2.2.2.2.2.2.2.2.2.2.2.2.1, x.2.2.2.2.2.2.2.2.2.2.2.2.2.2.2) : gX) := ⟨gXd_s h, fun _ _ => ⟨rfl, rfl, rfl⟩, fun _ _ => rfl, fun _ _ => ⟨rfl, rfl, rfl⟩⟩
def gTo (B : Nat) (a b : Int32) (x x' : gX) : Prop := ∃ K, K ≤ B ∧ ∀ G y o z, mM_takeAll_48 (G + K) (some 188) a 0 (gH y x o z) = mM_takeAll_48 G (some 188) b 0 (gH y x' o z)
def gRT (B : Nat) (a : Int32) (x x' : gX) : Prop := ∃ K, K ≤ B ∧ ∀ G y o z, mM_takeAll_48 (G + K) (some 188) a 0 (gH y x o z) = mM_takeAll_103 (mM_takeAll_48 G) (some 188) 0 1 (gH y x' o z)
def gRF (B : Nat) (a : Int32) (x x' : gX) : Prop := x'.2.1 31 = 0 ∧ ∃ K, K ≤ B ∧ ∀ G y o z, mM_takeAll_48 (G + K) (some 188) a 0 (gH y x o z) = some (gH y x' o z)
theorem gTo_refl {a : Int32} {x : gX} : gTo 0 a a x x := ⟨0, by omega, fun _ _ _ _ => rfl⟩
theorem gTo_trans {B B2 : Nat} {a b c : Int32} {x x' x2 : gX} (h : gTo B a b x x') (k : gTo B2 b c x' x2) : gTo (B + B2) a c x x2 := by
  obtain ⟨K, h1, h2⟩ := h
  obtain ⟨L, k1, k2⟩ := k
  refine ⟨L + K, by omega, fun G y o z => ?_⟩
  rw [show G + (L + K) = G + L + K by omega, h2, k2]
theorem gTo_T {B B2 : Nat} {a b : Int32} {x x' x2 : gX} (h : gTo B a b x x') (k : gRT B2 b x' x2) : gRT (B + B2) a x x2 := by
  obtain ⟨K, h1, h2⟩ := h
  obtain ⟨L, k1, k2⟩ := k
  refine ⟨L + K, by omega, fun G y o z => ?_⟩
  rw [show G + (L + K) = G + L + K by omega, h2, k2]
theorem gTo_F {B B2 : Nat} {a b : Int32} {x x' x2 : gX} (h : gTo B a b x x') (k : gRF B2 b x' x2) : gRF (B + B2) a x x2 := by
  obtain ⟨K, h1, h2⟩ := h
  obtain ⟨k0, L, k1, k2⟩ := k
  refine ⟨k0, L + K, by omega, fun G y o z => ?_⟩
  rw [show G + (L + K) = G + L + K by omega, h2, k2]
theorem gTo_mono {B B2 : Nat} {a b : Int32} {x x' : gX} (h : gTo B a b x x') (hb : B ≤ B2) : gTo B2 a b x x' := by
  obtain ⟨K, h1, h2⟩ := h
  exact ⟨K, by omega, h2⟩
theorem gRT_mono {B B2 : Nat} {a : Int32} {x x' : gX} (h : gRT B a x x') (hb : B ≤ B2) : gRT B2 a x x' := by
  obtain ⟨K, h1, h2⟩ := h
  exact ⟨K, by omega, h2⟩
theorem gRF_mono {B B2 : Nat} {a : Int32} {x x' : gX} (h : gRF B a x x') (hb : B ≤ B2) : gRF B2 a x x' := by
  obtain ⟨h0, K, h1, h2⟩ := h
  exact ⟨h0, K, by omega, h2⟩
theorem r_145 {x : gX} (h : x.2.1 31 = 0) : ∀ y o z, mM_takeAll_145 (some 188) (gH y x o z) = some (gH y x o z) := by
  intro y o z
  have e : (((x.1, gup x.2.1 31 0, x.2.2.1, x.2.2.2.1, x.2.2.2.2.1, x.2.2.2.2.2.1, x.2.2.2.2.2.2.1, x.2.2.2.2.2.2.2.1, x.2.2.2.2.2.2.2.2.1, x.2.2.2.2.2.2.2.2.2.1, x.2.2.2.2.2.2.2.2.2.2.1, x.2.2.2.2.2.2.2.2.2.2.2.1, x.2.2.2.2.2.2.2.2.2.2.2.2.1, x.2.2.2.2.2.2.2.2.2.2.2.2.2.1, x.2.2.2.2.2.2.2.2.2.2.2.2.2.2.1, x.2.2.2.2.2.2.2.2.2.2.2.2.2.2.2) : gX) : gX) = x := by rw [gup_same h]
  rw [mM_takeAll_145, hi_188_31, Option.bind_some, if_pos h, hp_188_31, Option.bind_some]
  exact congrArg (fun w => some (gH y w o z)) e
theorem r_48d {x : gX} {a b : Int32} {G : Nat} (h : x.2.1 31 = 0) : ∀ y o z, mM_takeAll_48 (G + 1) (some 188) a b (gH y x o z) = some (gH y x o z) := by
  intro y o z
  rw [mM_takeAll_48, hi_188_31, Option.bind_some, if_pos h]
  exact r_145 h y o z
theorem r_103d {x : gX} {a t : Int32} {G : Nat} (h : x.2.1 31 = 0) : ∀ y o z, mM_takeAll_103 (mM_takeAll_48 (G + 1)) (some 188) a t (gH y x o z) = some (gH y x o z) := by
  intro y o z
  have e : ∀ v, mM_takeAll_119 (mM_takeAll_48 (G + 1)) (some 188) a t v (gH y x o z) = some (gH y x o z) := by
    intro v
    rw [mM_takeAll_119, hi_188_31, Option.bind_some, if_pos h, mM_takeAll_142]
    exact r_48d h y o z
  rw [mM_takeAll_103, mM_takeAll_118, hi_188_18, Option.bind_some, e, e]
  split
  · rfl
  · split <;> rfl
theorem r_103n {x : gX} {a : Int32} {G : Nat} : ∀ y o z, mM_takeAll_103 (mM_takeAll_48 G) (some 188) a 0 (gH y x o z) = mM_takeAll_48 G (some 188) a 0 (gH y x o z) := by
  intro y o z
  rw [mM_takeAll_103, if_pos rfl, mM_takeAll_118, mM_takeAll_119, hi_188_31, Option.bind_some, if_pos rfl, mM_takeAll_142]
  split <;> rfl
theorem i_10 : ¬ (1 : Int32) = 0 := by decide
theorem r_48v {x x1 : gX} {t : Int32} {G : Nat} (h : x.2.1 31 = 1) (k : ∀ y o z, mM_takeValue (some 188) (gH y x o z) = some (t, gH y x1 o z)) : ∀ y o z, mM_takeAll_48 (G + 1) (some 188) 1 0 (gH y x o z) = mM_takeAll_103 (mM_takeAll_48 G) (some 188) 0 t (gH y x1 o z) := by
  intro y o z
  rw [mM_takeAll_48, hi_188_31, Option.bind_some, if_neg (by rw [h]; exact i_10), if_pos rfl, if_neg i_10, ho_188, Option.bind_some, k, Option.bind_some]
theorem r_48g {x x1 : gX} {t : Int32} {G : Nat} (h : x.2.1 31 = 1) (k : ∀ y o z, mM_goesOn (some 188) (gH y x o z) = some (t, gH y x1 o z)) : ∀ y o z, mM_takeAll_48 (G + 1) (some 188) 0 0 (gH y x o z) = if t = 1 then mM_takeAll_90 (mM_takeAll_48 G) (some 188) t 1 (gH y x1 o z) else mM_takeAll_90 (mM_takeAll_48 G) (some 188) t 0 (gH y x1 o z) := by
  intro y o z
  rw [mM_takeAll_48, hi_188_31, Option.bind_some, if_neg (by rw [h]; exact i_10), if_pos rfl, if_pos rfl, ho_188, Option.bind_some, k, Option.bind_some]
theorem gTo_val {x x1 : gX} (h : x.2.1 31 = 1) (k : ∀ y o z, mM_takeValue (some 188) (gH y x o z) = some (0, gH y x1 o z)) : gTo 1 1 0 x x1 :=
  ⟨1, by omega, fun G y o z => by rw [r_48v h k, r_103n]⟩
theorem gRT_val {x x1 : gX} (h : x.2.1 31 = 1) (k : ∀ y o z, mM_takeValue (some 188) (gH y x o z) = some (1, gH y x1 o z)) : gRT 1 1 x x1 :=
  ⟨1, by omega, fun G y o z => by rw [r_48v h k]⟩
theorem gRF_val {x x1 : gX} {t : Int32} (h : x.2.1 31 = 1) (k : ∀ y o z, mM_takeValue (some 188) (gH y x o z) = some (t, gH y x1 o z)) (h1 : x1.2.1 31 = 0) : gRF 2 1 x x1 :=
  ⟨h1, 2, by omega, fun G y o z => by rw [show G + 2 = (G + 1) + 1 by omega, r_48v h k, r_103d h1]⟩
theorem gTo_go1 {x x1 : gX} (h : x.2.1 31 = 1) (k : ∀ y o z, mM_goesOn (some 188) (gH y x o z) = some (1, gH y x1 o z)) : gTo 1 0 1 x x1 :=
  ⟨1, by omega, fun G y o z => by rw [r_48g h k, if_pos rfl, mM_takeAll_90, if_neg (by decide), mM_takeAll_102, r_103n]⟩
theorem gTo_go0 {x x1 : gX} (h : x.2.1 31 = 1) (k : ∀ y o z, mM_goesOn (some 188) (gH y x o z) = some (0, gH y x1 o z)) : gTo 1 0 0 x x1 :=
  ⟨1, by omega, fun G y o z => by rw [r_48g h k, if_neg (by decide), mM_takeAll_90, if_neg (by decide), mM_takeAll_102, r_103n]⟩
theorem gRT_go2 {x x1 : gX} (h : x.2.1 31 = 1) (k : ∀ y o z, mM_goesOn (some 188) (gH y x o z) = some (2, gH y x1 o z)) : gRT 1 0 x x1 :=
  ⟨1, by omega, fun G y o z => by rw [r_48g h k, if_neg (by decide), mM_takeAll_90, if_pos rfl, mM_takeAll_102]⟩
theorem gRF_go {x x1 : gX} {t : Int32} (h : x.2.1 31 = 1) (k : ∀ y o z, mM_goesOn (some 188) (gH y x o z) = some (t, gH y x1 o z)) (h1 : x1.2.1 31 = 0) : gRF 2 0 x x1 := by
  refine ⟨h1, 2, by omega, fun G y o z => ?_⟩
  have e : ∀ v, mM_takeAll_90 (mM_takeAll_48 (G + 1)) (some 188) t v (gH y x1 o z) = some (gH y x1 o z) := by
    intro v
    rw [mM_takeAll_90, mM_takeAll_102, mM_takeAll_102, r_103d h1, r_103d h1]
    split <;> rfl
  rw [show G + 2 = (G + 1) + 1 by omega, r_48g h k, e, e]
  split <;> rfl
theorem r_103dl {D : Nat} {x x1 : gX} {G : Nat} (h : x.2.1 31 = 1) (h18 : x.2.1 18 = Int32.ofNat (D + 1)) (hD : D < 14) (k : ∀ y o z, mM_deliver (some 188) (gH y x o z) = some (gH y x1 o z)) : ∀ y o z, mM_takeAll_103 (mM_takeAll_48 G) (some 188) 0 1 (gH y x o z) = mM_takeAll_48 G (some 188) 0 0 (gH y x1 o z) := by
  intro y o z
  have pz : (0 : Int32) < Int32.ofNat (D + 1) := n_ltl (n := 0) (by omega) (by omega) (by omega)
  have nz : ¬ Int32.ofNat (D + 1) = 0 := fun e => by have := (n_eq (m := 0) (show D + 1 < 2 ^ 31 by omega) (by omega)).mp e; omega
  rw [mM_takeAll_103, if_neg i_10, hi_188_18, Option.bind_some, h18, if_neg nz, mM_takeAll_118, mM_takeAll_119, hi_188_31, Option.bind_some, if_neg (by rw [h]; exact i_10), if_neg i_10, hi_188_18, Option.bind_some, h18, if_pos pz, ho_188, Option.bind_some, k, Option.bind_some, mM_takeAll_142]
theorem gRT_dl {D B : Nat} {a : Int32} {x x1 x2 : gX} (hr : gRT B a x x1) (h : x1.2.1 31 = 1) (h18 : x1.2.1 18 = Int32.ofNat (D + 1)) (hD : D < 14) (k : ∀ y o z, mM_deliver (some 188) (gH y x1 o z) = some (gH y x2 o z)) : gTo B a 0 x x2 := by
  obtain ⟨K, h1, h2⟩ := hr
  exact ⟨K, h1, fun G y o z => by rw [h2, r_103dl h h18 hD k]⟩
theorem gRF_dead {a : Int32} {x : gX} (h : x.2.1 31 = 0) : gRF 1 a x x := ⟨h, 1, by omega, fun G y o z => r_48d h y o z⟩
/-- a kind and a number that can be read -/
def gV1 (n0 N : Nat) (k v : Int32) : Prop := ∃ j, j < 8 ∧ k = Int32.ofNat j ∧ gcn k v = v ∧ (j = 6 → ∃ b, n0 ≤ b ∧ b < N ∧ v = Int32.ofNat b)
theorem gV1_V {n0 N s : Nat} {k v : Int32} (h : gV1 n0 N k v) : gV N s k v := by
  obtain ⟨j, h1, h2, h3, h4⟩ := h
  refine Or.inr (Or.inr ⟨j, h1, h2, fun e => ?_⟩)
  obtain ⟨b, b1, b2, b3⟩ := h4 e
  exact ⟨b, b2, b3⟩
theorem gV1_cn {n0 N : Nat} {k v : Int32} (h : gV1 n0 N k v) : gcn k v = v := by
  obtain ⟨j, h1, h2, h3, h4⟩ := h
  exact h3
def gOk (n0 f q m D N : Nat) (u' : gU) (x x' : gX) : Prop := ∃ N' pos', gD n0 f q m N' pos' u' x' ∧ N ≤ N' ∧ gXf N D x x' ∧ x'.2.1 18 = Int32.ofNat D ∧ x'.2.1 35 = u'.2.2.2.2.2.2.2.2.2.2.2.2.1 2 ∧ x'.2.1 36 = u'.2.2.2.2.2.2.2.2.2.2.2.2.1 3 ∧ gV1 n0 N' (u'.2.2.2.2.2.2.2.2.2.2.2.2.1 2) (u'.2.2.2.2.2.2.2.2.2.2.2.2.1 3)
/-- one value, or the rest of an object, at pile D: both have it, or both refuse -/
def gVal (n0 f q m D B N : Nat) (a : Int32) (u : gU) (x : gX) (F : gx_H → Option gx_H) : Prop := ∃ u', (∀ y o z, F (gH u y o z) = some (gH u' y o z)) ∧ gUf N u u' ∧ ((∃ x', gRT B a x x' ∧ gOk n0 f q m D N u' x x') ∨ (u'.2.2.2.2.2.2.2.2.2.2.2.2.1 1 = 1 ∧ ∃ x', gRF B a x x' ∧ gXd N x x'))
section H
variable {n0 f q m N pos : Nat} {u : gU} {x : gX}
theorem d_set {a b : Int32} {r s : Nat → Int32} (D : gD n0 f q m N pos ((u.1, u.2.1, u.2.2.1, u.2.2.2.1, u.2.2.2.2.1, u.2.2.2.2.2.1, u.2.2.2.2.2.2.1, u.2.2.2.2.2.2.2.1, u.2.2.2.2.2.2.2.2.1, u.2.2.2.2.2.2.2.2.2.1, u.2.2.2.2.2.2.2.2.2.2.1, u.2.2.2.2.2.2.2.2.2.2.2.1, r, u.2.2.2.2.2.2.2.2.2.2.2.2.2.1, u.2.2.2.2.2.2.2.2.2.2.2.2.2.2) : gU) ((x.1, s, x.2.2.1, x.2.2.2.1, x.2.2.2.2.1, x.2.2.2.2.2.1, x.2.2.2.2.2.2.1, x.2.2.2.2.2.2.2.1, x.2.2.2.2.2.2.2.2.1, x.2.2.2.2.2.2.2.2.2.1, x.2.2.2.2.2.2.2.2.2.2.1, x.2.2.2.2.2.2.2.2.2.2.2.1, x.2.2.2.2.2.2.2.2.2.2.2.2.1, x.2.2.2.2.2.2.2.2.2.2.2.2.2.1, x.2.2.2.2.2.2.2.2.2.2.2.2.2.2.1, x.2.2.2.2.2.2.2.2.2.2.2.2.2.2.2) : gX)) : gD n0 f q m N pos ((u.1, u.2.1, u.2.2.1, u.2.2.2.1, u.2.2.2.2.1, u.2.2.2.2.2.1, u.2.2.2.2.2.2.1, u.2.2.2.2.2.2.2.1, u.2.2.2.2.2.2.2.2.1, u.2.2.2.2.2.2.2.2.2.1, u.2.2.2.2.2.2.2.2.2.2.1, u.2.2.2.2.2.2.2.2.2.2.2.1, gup (gup r 2 a) 3 b, u.2.2.2.2.2.2.2.2.2.2.2.2.2.1, u.2.2.2.2.2.2.2.2.2.2.2.2.2.2) : gU) ((x.1, gup (gup s 35 a) 36 b, x.2.2.1, x.2.2.2.1, x.2.2.2.2.1, x.2.2.2.2.2.1, x.2.2.2.2.2.2.1, x.2.2.2.2.2.2.2.1, x.2.2.2.2.2.2.2.2.1, x.2.2.2.2.2.2.2.2.2.1, x.2.2.2.2.2.2.2.2.2.2.1, x.2.2.2.2.2.2.2.2.2.2.2.1, x.2.2.2.2.2.2.2.2.2.2.2.2.1, x.2.2.2.2.2.2.2.2.2.2.2.2.2.1, x.2.2.2.2.2.2.2.2.2.2.2.2.2.2.1, x.2.2.2.2.2.2.2.2.2.2.2.2.2.2.2) : gX) :=
  gD_r (u := ((u.1, u.2.1, u.2.2.1, u.2.2.2.1, u.2.2.2.2.1, u.2.2.2.2.2.1, u.2.2.2.2.2.2.1, u.2.2.2.2.2.2.2.1, u.2.2.2.2.2.2.2.2.1, u.2.2.2.2.2.2.2.2.2.1, u.2.2.2.2.2.2.2.2.2.2.1, u.2.2.2.2.2.2.2.2.2.2.2.1, r, u.2.2.2.2.2.2.2.2.2.2.2.2.2.1, u.2.2.2.2.2.2.2.2.2.2.2.2.2.2) : gU)) (x := ((x.1, s, x.2.2.1, x.2.2.2.1, x.2.2.2.2.1, x.2.2.2.2.2.1, x.2.2.2.2.2.2.1, x.2.2.2.2.2.2.2.1, x.2.2.2.2.2.2.2.2.1, x.2.2.2.2.2.2.2.2.2.1, x.2.2.2.2.2.2.2.2.2.2.1, x.2.2.2.2.2.2.2.2.2.2.2.1, x.2.2.2.2.2.2.2.2.2.2.2.2.1, x.2.2.2.2.2.2.2.2.2.2.2.2.2.1, x.2.2.2.2.2.2.2.2.2.2.2.2.2.2.1, x.2.2.2.2.2.2.2.2.2.2.2.2.2.2.2) : gX)) D D.wr D.pu D.hp rfl rfl rfl D.gg D.px rfl (fun i hi => by rw [gup_ne (by omega), gup_ne (by omega)])
def gPr (n0 f q m N : Nat) (u : gU) (x : gX) (A M : gx_H → Option gx_H) : Prop := (∃ pos' r s, (∀ y o z, A (gH u y o z) = some (gH ((u.1, u.2.1, u.2.2.1, u.2.2.2.1, u.2.2.2.2.1, u.2.2.2.2.2.1, u.2.2.2.2.2.2.1, u.2.2.2.2.2.2.2.1, u.2.2.2.2.2.2.2.2.1, u.2.2.2.2.2.2.2.2.2.1, u.2.2.2.2.2.2.2.2.2.2.1, u.2.2.2.2.2.2.2.2.2.2.2.1, r, u.2.2.2.2.2.2.2.2.2.2.2.2.2.1, u.2.2.2.2.2.2.2.2.2.2.2.2.2.2) : gU) y o z)) ∧ (∀ y o z, M (gH y x o z) = some (gH y ((x.1, s, x.2.2.1, x.2.2.2.1, x.2.2.2.2.1, x.2.2.2.2.2.1, x.2.2.2.2.2.2.1, x.2.2.2.2.2.2.2.1, x.2.2.2.2.2.2.2.2.1, x.2.2.2.2.2.2.2.2.2.1, x.2.2.2.2.2.2.2.2.2.2.1, x.2.2.2.2.2.2.2.2.2.2.2.1, x.2.2.2.2.2.2.2.2.2.2.2.2.1, x.2.2.2.2.2.2.2.2.2.2.2.2.2.1, x.2.2.2.2.2.2.2.2.2.2.2.2.2.2.1, x.2.2.2.2.2.2.2.2.2.2.2.2.2.2.2) : gX) o z)) ∧ gD n0 f q m N pos' ((u.1, u.2.1, u.2.2.1, u.2.2.2.1, u.2.2.2.2.1, u.2.2.2.2.2.1, u.2.2.2.2.2.2.1, u.2.2.2.2.2.2.2.1, u.2.2.2.2.2.2.2.2.1, u.2.2.2.2.2.2.2.2.2.1, u.2.2.2.2.2.2.2.2.2.2.1, u.2.2.2.2.2.2.2.2.2.2.2.1, r, u.2.2.2.2.2.2.2.2.2.2.2.2.2.1, u.2.2.2.2.2.2.2.2.2.2.2.2.2.2) : gU) ((x.1, s, x.2.2.1, x.2.2.2.1, x.2.2.2.2.1, x.2.2.2.2.2.1, x.2.2.2.2.2.2.1, x.2.2.2.2.2.2.2.1, x.2.2.2.2.2.2.2.2.1, x.2.2.2.2.2.2.2.2.2.1, x.2.2.2.2.2.2.2.2.2.2.1, x.2.2.2.2.2.2.2.2.2.2.2.1, x.2.2.2.2.2.2.2.2.2.2.2.2.1, x.2.2.2.2.2.2.2.2.2.2.2.2.2.1, x.2.2.2.2.2.2.2.2.2.2.2.2.2.2.1, x.2.2.2.2.2.2.2.2.2.2.2.2.2.2.2) : gX) ∧ gKs x.2.1 s ∧ s 35 = r 2 ∧ s 36 = r 3 ∧ gV1 n0 N (r 2) (r 3)) ∨ ∃ r s, (∀ y o z, A (gH u y o z) = some (gH ((u.1, u.2.1, u.2.2.1, u.2.2.2.1, u.2.2.2.2.1, u.2.2.2.2.2.1, u.2.2.2.2.2.2.1, u.2.2.2.2.2.2.2.1, u.2.2.2.2.2.2.2.2.1, u.2.2.2.2.2.2.2.2.2.1, u.2.2.2.2.2.2.2.2.2.2.1, u.2.2.2.2.2.2.2.2.2.2.2.1, r, u.2.2.2.2.2.2.2.2.2.2.2.2.2.1, u.2.2.2.2.2.2.2.2.2.2.2.2.2.2) : gU) y o z)) ∧ (∀ y o z, M (gH y x o z) = some (gH y ((x.1, s, x.2.2.1, x.2.2.2.1, x.2.2.2.2.1, x.2.2.2.2.2.1, x.2.2.2.2.2.2.1, x.2.2.2.2.2.2.2.1, x.2.2.2.2.2.2.2.2.1, x.2.2.2.2.2.2.2.2.2.1, x.2.2.2.2.2.2.2.2.2.2.1, x.2.2.2.2.2.2.2.2.2.2.2.1, x.2.2.2.2.2.2.2.2.2.2.2.2.1, x.2.2.2.2.2.2.2.2.2.2.2.2.2.1, x.2.2.2.2.2.2.2.2.2.2.2.2.2.2.1, x.2.2.2.2.2.2.2.2.2.2.2.2.2.2.2) : gX) o z)) ∧ r 1 = 1 ∧ s 31 = 0 ∧ gKs x.2.1 s
theorem p_int (D : gD n0 f q m N pos u x) : gPr n0 f q m N u x (fun h => (cR_nextInt (some 187) (some 163) h).bind fun r => cR_settle (some 187) 4 r.1 r.2) (fun h => (mM_lengthy (some 188) 32 h).bind fun r => (mM_plain r.1).bind fun v => mM_got (some 188) 4 (Int64.toInt32 v) r.2) := by
  rcases d_int D with ⟨a, b, r, s, pos', k1, k2, rfl, k4, k5, k6, k7⟩ | ⟨a, b, r, s, k1, k2, k3, k4, k5⟩
  · refine Or.inl ⟨pos', gup (gup r 2 4) 3 (Int64.toInt32 (gzz b)), gup (gup s 35 4) 36 (Int64.toInt32 (gzz b)), fun y o z => ?_, fun y o z => ?_, d_set k4, fun i hi => ?_, rfl, rfl, ⟨4, by omega, rfl, rfl, fun e => by omega⟩⟩
    · simp only [k1, Option.bind_some, k_settle]
    · simp only [k2, Option.bind_some, m_plain, r_got]
    · rw [gup_ne (by omega), gup_ne (by omega)]; exact k5 i hi
  · refine Or.inr ⟨gup (gup r 2 4) 3 a, gup (gup s 35 4) 36 (Int64.toInt32 (gzz b)), fun y o z => ?_, fun y o z => ?_, k3, k4, fun i hi => ?_⟩
    · simp only [k1, Option.bind_some, k_settle]
    · simp only [k2, Option.bind_some, m_plain, r_got]
    · rw [gup_ne (by omega), gup_ne (by omega)]; exact k5 i hi
theorem p_text (D : gD n0 f q m N pos u x) : gPr n0 f q m N u x (cR_readText (some 187) (some 163)) (fun h => (mM_text (some 188) h).bind fun r => mM_got (some 188) 5 r.1 r.2) := by
  rcases d_text D with ⟨v, pos', r, s, k0, k1, k2, r0, r1, r2, r3, r4, r5, r6, s1, s2, s3, ks⟩ | ⟨v, r, s, k1, k2, r1, s1, ks⟩
  · refine Or.inl ⟨pos', r, gup (gup s 35 5) 36 v, k1, fun y o z => ?_, gD_r D r1 r0 k0 r4 r5 r6 s1 s2 s3 (fun i hi => ?_), fun i hi => ?_, r2.symm, r3.symm, ⟨5, by omega, r2, by rw [r2]; rfl, fun e => by omega⟩⟩
    · simp only [k2, Option.bind_some, r_got]
    · rw [gup_ne (by omega), gup_ne (by omega)]; exact ks i hi
    · rw [gup_ne (by omega), gup_ne (by omega)]; exact ks i hi
  · refine Or.inr ⟨r, gup (gup s 35 5) 36 v, k1, fun y o z => ?_, r1, s1, fun i hi => ?_⟩
    · simp only [k2, Option.bind_some, r_got]
    · rw [gup_ne (by omega), gup_ne (by omega)]; exact ks i hi
theorem i_pl {a : Int64} {c : Nat} (hc : c ≤ 32) (h0 : ¬ a < 0) (h1 : a < Int32.toInt64 (Int32.ofNat c)) : ∃ j, j < c ∧ Int64.toInt32 a = Int32.ofNat j := by
  rw [Int64.lt_iff_toInt_lt, Int32.toInt_toInt64, Int32.toInt_ofNat_of_lt (show c < 2 ^ 31 by omega)] at h1
  rw [Int64.lt_iff_toInt_lt] at h0
  have h0' : ¬ a.toInt < 0 := h0
  refine ⟨a.toInt.toNat, by omega, ?_⟩
  rw [← Int32.toInt_inj, Int64.toInt_toInt32, Int32.toInt_ofNat_of_lt (by omega), Int.bmod_eq_of_le_mul_two (by omega) (by omega)]
  omega
theorem r_pl33 {s : Nat → Int32} {fl : Int32} {a : Int64} (h : s 31 = 0 ∨ True) : ∃ s', s' 31 = 0 ∧ gKs s s' ∧ ∀ y o z, mM_takePlace_33 (some 188) fl a (some 188) 0 (gH y ((x.1, s, x.2.2.1, x.2.2.2.1, x.2.2.2.2.1, x.2.2.2.2.2.1, x.2.2.2.2.2.2.1, x.2.2.2.2.2.2.2.1, x.2.2.2.2.2.2.2.2.1, x.2.2.2.2.2.2.2.2.2.1, x.2.2.2.2.2.2.2.2.2.2.1, x.2.2.2.2.2.2.2.2.2.2.2.1, x.2.2.2.2.2.2.2.2.2.2.2.2.1, x.2.2.2.2.2.2.2.2.2.2.2.2.2.1, x.2.2.2.2.2.2.2.2.2.2.2.2.2.2.1, x.2.2.2.2.2.2.2.2.2.2.2.2.2.2.2) : gX) o z) = some (gH y ((x.1, s', x.2.2.1, x.2.2.2.1, x.2.2.2.2.1, x.2.2.2.2.2.1, x.2.2.2.2.2.2.1, x.2.2.2.2.2.2.2.1, x.2.2.2.2.2.2.2.2.1, x.2.2.2.2.2.2.2.2.2.1, x.2.2.2.2.2.2.2.2.2.2.1, x.2.2.2.2.2.2.2.2.2.2.2.1, x.2.2.2.2.2.2.2.2.2.2.2.2.1, x.2.2.2.2.2.2.2.2.2.2.2.2.2.1, x.2.2.2.2.2.2.2.2.2.2.2.2.2.2.1, x.2.2.2.2.2.2.2.2.2.2.2.2.2.2.2) : gX) o z) := by
  have e31 : gup s 31 0 31 = 0 := rfl
  refine ⟨gup (gup (gup s 31 0) 35 6) 36 0, rfl, fun i hi => by rw [gup_ne (by omega), gup_ne (by omega), gup_ne (by omega)], fun y o z => ?_⟩
  rw [mM_takePlace_33, if_neg (by decide), hp_188_31, Option.bind_some, hi_188_31, Option.bind_some]
  rw [if_pos (show gup s 31 0 31 = 0 from e31), mM_takePlace_71, ho_188, Option.bind_some, r_got, Option.bind_some]
theorem p_place {c base : Nat} {fl : Int32} (D : gD n0 f q m N pos u x) (hf : (fl = 0 ∧ base = f ∧ c = N - f) ∨ (fl = 1 ∧ base = n0 ∧ c = q)) : gPr n0 f q m N u x (cR_readPlace (some 187) (some 163) (Int32.ofNat base) (Int32.ofNat c)) (mM_takePlace (some 188) (Int32.ofNat c) fl) := by
  have hN := D.hN
  have nf := D.nf
  have fN := D.fN
  have hc : c ≤ 32 := by omega
  rcases d_len64 D with ⟨a, b, r, s, pos', k1, k2, rfl, k4, k5, k6, k7⟩ | ⟨a, b, r, s, k1, k2, k3, k4, k5⟩
  · have g31 : s 31 = 1 := k4.gg
    have badC : ∀ (h : a < 0 ∨ ¬ a < Int32.toInt64 (Int32.ofNat c)) y o z, cR_readPlace (some 187) (some 163) (Int32.ofNat base) (Int32.ofNat c) (gH u y o z) = some (gH ((u.1, u.2.1, u.2.2.1, u.2.2.2.1, u.2.2.2.2.1, u.2.2.2.2.2.1, u.2.2.2.2.2.2.1, u.2.2.2.2.2.2.2.1, u.2.2.2.2.2.2.2.2.1, u.2.2.2.2.2.2.2.2.2.1, u.2.2.2.2.2.2.2.2.2.2.1, u.2.2.2.2.2.2.2.2.2.2.2.1, gup r 1 1, u.2.2.2.2.2.2.2.2.2.2.2.2.2.1, u.2.2.2.2.2.2.2.2.2.2.2.2.2.2) : gU) y o z) := by
      intro h y o z
      unfold cR_readPlace
      rw [ho_187, Option.bind_some, k1, Option.bind_some]
      by_cases c0 : a < 0
      · rw [if_pos c0, hp_187_1, Option.bind_some]
      · rw [if_neg c0, if_neg (by rcases h with h | h; exact absurd h c0; exact h), hp_187_1, Option.bind_some]
    obtain ⟨s', t1, t2, t3⟩ := r_pl33 (x := x) (s := s) (fl := fl) (a := a) (Or.inr trivial)
    have badR : ∀ (h : a < 0 ∨ ¬ a < Int32.toInt64 (Int32.ofNat c)) y o z, mM_takePlace (some 188) (Int32.ofNat c) fl (gH y x o z) = some (gH y ((x.1, s', x.2.2.1, x.2.2.2.1, x.2.2.2.2.1, x.2.2.2.2.2.1, x.2.2.2.2.2.2.1, x.2.2.2.2.2.2.2.1, x.2.2.2.2.2.2.2.2.1, x.2.2.2.2.2.2.2.2.2.1, x.2.2.2.2.2.2.2.2.2.2.1, x.2.2.2.2.2.2.2.2.2.2.2.1, x.2.2.2.2.2.2.2.2.2.2.2.2.1, x.2.2.2.2.2.2.2.2.2.2.2.2.2.1, x.2.2.2.2.2.2.2.2.2.2.2.2.2.2.1, x.2.2.2.2.2.2.2.2.2.2.2.2.2.2.2) : gX) o z) := by
      intro h y o z
      unfold mM_takePlace
      rw [ho_188, Option.bind_some, k2, Option.bind_some, hi_188_31, Option.bind_some, if_neg (by show ¬ s 31 = 0; rw [g31]; exact i_10)]
      by_cases c0 : a < 0
      · rw [if_pos c0]; exact t3 y o z
      · rw [if_neg c0, if_neg (by rcases h with h | h; exact absurd h c0; exact h)]; exact t3 y o z
    by_cases c0 : a < 0
    · exact Or.inr ⟨gup r 1 1, s', badC (Or.inl c0), badR (Or.inl c0), rfl, t1, gKs_trans k5 t2⟩
    · by_cases c1 : a < Int32.toInt64 (Int32.ofNat c)
      · obtain ⟨j, j1, j2⟩ := i_pl hc c0 c1
        have vv : gV1 n0 N 6 (Int32.ofNat (base + j)) := ⟨6, by omega, rfl, rfl, fun _ => ⟨base + j, by omega, by omega, rfl⟩⟩
        refine Or.inl ⟨pos', gup (gup r 2 6) 3 (Int32.ofNat (base + j)), gup (gup s 35 6) 36 (Int32.ofNat (base + j)), fun y o z => ?_, fun y o z => ?_, d_set k4, fun i hi => ?_, rfl, rfl, vv⟩
        · unfold cR_readPlace
          rw [ho_187, Option.bind_some, k1, Option.bind_some, if_neg c0, if_pos c1, ho_187, Option.bind_some, k_settle, Option.bind_some]
          show some (gH ((u.1, u.2.1, u.2.2.1, u.2.2.2.1, u.2.2.2.2.1, u.2.2.2.2.2.1, u.2.2.2.2.2.2.1, u.2.2.2.2.2.2.2.1, u.2.2.2.2.2.2.2.2.1, u.2.2.2.2.2.2.2.2.2.1, u.2.2.2.2.2.2.2.2.2.2.1, u.2.2.2.2.2.2.2.2.2.2.2.1, gup (gup r 2 6) 3 (Int32.ofNat base + Int64.toInt32 a), u.2.2.2.2.2.2.2.2.2.2.2.2.2.1, u.2.2.2.2.2.2.2.2.2.2.2.2.2.2) : gU) y o z) = _
          rw [j2, n_add]
        · unfold mM_takePlace
          rw [ho_188, Option.bind_some, k2, Option.bind_some, hi_188_31, Option.bind_some, if_neg (by show ¬ s 31 = 0; rw [g31]; exact i_10), if_neg c0, if_pos c1]
          show mM_takePlace_33 (some 188) fl a (some 188) 1 (gH y ((x.1, s, x.2.2.1, x.2.2.2.1, x.2.2.2.2.1, x.2.2.2.2.2.1, x.2.2.2.2.2.2.1, x.2.2.2.2.2.2.2.1, x.2.2.2.2.2.2.2.2.1, x.2.2.2.2.2.2.2.2.2.1, x.2.2.2.2.2.2.2.2.2.2.1, x.2.2.2.2.2.2.2.2.2.2.2.1, x.2.2.2.2.2.2.2.2.2.2.2.2.1, x.2.2.2.2.2.2.2.2.2.2.2.2.2.1, x.2.2.2.2.2.2.2.2.2.2.2.2.2.2.1, x.2.2.2.2.2.2.2.2.2.2.2.2.2.2.2) : gX) o z) = _
          have es : (((x.1, gup s 31 1, x.2.2.1, x.2.2.2.1, x.2.2.2.2.1, x.2.2.2.2.2.1, x.2.2.2.2.2.2.1, x.2.2.2.2.2.2.2.1, x.2.2.2.2.2.2.2.2.1, x.2.2.2.2.2.2.2.2.2.1, x.2.2.2.2.2.2.2.2.2.2.1, x.2.2.2.2.2.2.2.2.2.2.2.1, x.2.2.2.2.2.2.2.2.2.2.2.2.1, x.2.2.2.2.2.2.2.2.2.2.2.2.2.1, x.2.2.2.2.2.2.2.2.2.2.2.2.2.2.1, x.2.2.2.2.2.2.2.2.2.2.2.2.2.2.2) : gX) : gX) = ((x.1, s, x.2.2.1, x.2.2.2.1, x.2.2.2.2.1, x.2.2.2.2.2.1, x.2.2.2.2.2.2.1, x.2.2.2.2.2.2.2.1, x.2.2.2.2.2.2.2.2.1, x.2.2.2.2.2.2.2.2.2.1, x.2.2.2.2.2.2.2.2.2.2.1, x.2.2.2.2.2.2.2.2.2.2.2.1, x.2.2.2.2.2.2.2.2.2.2.2.2.1, x.2.2.2.2.2.2.2.2.2.2.2.2.2.1, x.2.2.2.2.2.2.2.2.2.2.2.2.2.2.1, x.2.2.2.2.2.2.2.2.2.2.2.2.2.2.2) : gX) := by rw [gup_same g31]
          have hx : gv_pV (gH y ((x.1, s, x.2.2.1, x.2.2.2.1, x.2.2.2.2.1, x.2.2.2.2.2.1, x.2.2.2.2.2.2.1, x.2.2.2.2.2.2.2.1, x.2.2.2.2.2.2.2.2.1, x.2.2.2.2.2.2.2.2.2.1, x.2.2.2.2.2.2.2.2.2.2.1, x.2.2.2.2.2.2.2.2.2.2.2.1, x.2.2.2.2.2.2.2.2.2.2.2.2.1, x.2.2.2.2.2.2.2.2.2.2.2.2.2.1, x.2.2.2.2.2.2.2.2.2.2.2.2.2.2.1, x.2.2.2.2.2.2.2.2.2.2.2.2.2.2.2) : gX) o z) (some 188) 7 31 (.int 1) = some (gH y ((x.1, s, x.2.2.1, x.2.2.2.1, x.2.2.2.2.1, x.2.2.2.2.2.1, x.2.2.2.2.2.2.1, x.2.2.2.2.2.2.2.1, x.2.2.2.2.2.2.2.2.1, x.2.2.2.2.2.2.2.2.2.1, x.2.2.2.2.2.2.2.2.2.2.1, x.2.2.2.2.2.2.2.2.2.2.2.1, x.2.2.2.2.2.2.2.2.2.2.2.2.1, x.2.2.2.2.2.2.2.2.2.2.2.2.2.1, x.2.2.2.2.2.2.2.2.2.2.2.2.2.2.1, x.2.2.2.2.2.2.2.2.2.2.2.2.2.2.2) : gX) o z) := by
            rw [hp_188_31]
            exact congrArg (fun w => some (gH y w o z)) es
          rw [mM_takePlace_33, if_neg (by decide), hx, Option.bind_some, hi_188_31, Option.bind_some, if_neg (by show ¬ s 31 = 0; rw [g31]; exact i_10), j2]
          rcases hf with ⟨rfl, h2, h3⟩ | ⟨rfl, h2, h3⟩
          · rw [if_pos rfl, hr_188_34, Option.bind_some, ha_210 (by omega), Option.bind_some, mM_takePlace_71, ho_188, Option.bind_some, r_got, Option.bind_some]
            show some (gH y ((x.1, gup (gup s 35 6) 36 (x.2.2.2.2.2.2.2.2.2.2.2.2.2.2.2 j), x.2.2.1, x.2.2.2.1, x.2.2.2.2.1, x.2.2.2.2.2.1, x.2.2.2.2.2.2.1, x.2.2.2.2.2.2.2.1, x.2.2.2.2.2.2.2.2.1, x.2.2.2.2.2.2.2.2.2.1, x.2.2.2.2.2.2.2.2.2.2.1, x.2.2.2.2.2.2.2.2.2.2.2.1, x.2.2.2.2.2.2.2.2.2.2.2.2.1, x.2.2.2.2.2.2.2.2.2.2.2.2.2.1, x.2.2.2.2.2.2.2.2.2.2.2.2.2.2.1, x.2.2.2.2.2.2.2.2.2.2.2.2.2.2.2) : gX) o z) = _
            rw [D.ro j (by omega), h2]
          · have e1 : s 1 = Int32.ofNat n0 := (k5 1 (by omega)).trans D.xo
            rw [if_neg i_10, hi_188_1, Option.bind_some, mM_takePlace_71, ho_188, Option.bind_some, r_got, Option.bind_some]
            show some (gH y ((x.1, gup (gup s 35 6) 36 (s 1 + Int32.ofNat j), x.2.2.1, x.2.2.2.1, x.2.2.2.2.1, x.2.2.2.2.2.1, x.2.2.2.2.2.2.1, x.2.2.2.2.2.2.2.1, x.2.2.2.2.2.2.2.2.1, x.2.2.2.2.2.2.2.2.2.1, x.2.2.2.2.2.2.2.2.2.2.1, x.2.2.2.2.2.2.2.2.2.2.2.1, x.2.2.2.2.2.2.2.2.2.2.2.2.1, x.2.2.2.2.2.2.2.2.2.2.2.2.2.1, x.2.2.2.2.2.2.2.2.2.2.2.2.2.2.1, x.2.2.2.2.2.2.2.2.2.2.2.2.2.2.2) : gX) o z) = _
            rw [e1, n_add, h2]
        · rw [gup_ne (by omega), gup_ne (by omega)]; exact k5 i hi
      · exact Or.inr ⟨gup r 1 1, s', badC (Or.inr c1), badR (Or.inr c1), rfl, t1, gKs_trans k5 t2⟩
  · obtain ⟨s', t1, t2, t3⟩ := r_pl33 (x := x) (s := s) (fl := fl) (a := b) (Or.inr trivial)
    have rf : ∀ y o z, mM_takePlace (some 188) (Int32.ofNat c) fl (gH y x o z) = some (gH y ((x.1, s', x.2.2.1, x.2.2.2.1, x.2.2.2.2.1, x.2.2.2.2.2.1, x.2.2.2.2.2.2.1, x.2.2.2.2.2.2.2.1, x.2.2.2.2.2.2.2.2.1, x.2.2.2.2.2.2.2.2.2.1, x.2.2.2.2.2.2.2.2.2.2.1, x.2.2.2.2.2.2.2.2.2.2.2.1, x.2.2.2.2.2.2.2.2.2.2.2.2.1, x.2.2.2.2.2.2.2.2.2.2.2.2.2.1, x.2.2.2.2.2.2.2.2.2.2.2.2.2.2.1, x.2.2.2.2.2.2.2.2.2.2.2.2.2.2.2) : gX) o z) := by
      intro y o z
      unfold mM_takePlace
      rw [ho_188, Option.bind_some, k2, Option.bind_some, hi_188_31, Option.bind_some, if_pos (show s 31 = 0 from k4)]
      exact t3 y o z
    have cl : ∃ r', r' 1 = 1 ∧ ∀ y o z, cR_readPlace (some 187) (some 163) (Int32.ofNat base) (Int32.ofNat c) (gH u y o z) = some (gH ((u.1, u.2.1, u.2.2.1, u.2.2.2.1, u.2.2.2.2.1, u.2.2.2.2.2.1, u.2.2.2.2.2.2.1, u.2.2.2.2.2.2.2.1, u.2.2.2.2.2.2.2.2.1, u.2.2.2.2.2.2.2.2.2.1, u.2.2.2.2.2.2.2.2.2.2.1, u.2.2.2.2.2.2.2.2.2.2.2.1, r', u.2.2.2.2.2.2.2.2.2.2.2.2.2.1, u.2.2.2.2.2.2.2.2.2.2.2.2.2.2) : gU) y o z) := by
      by_cases c0 : a < 0
      · refine ⟨gup r 1 1, rfl, fun y o z => ?_⟩
        unfold cR_readPlace
        rw [ho_187, Option.bind_some, k1, Option.bind_some, if_pos c0, hp_187_1, Option.bind_some]
      · by_cases c1 : a < Int32.toInt64 (Int32.ofNat c)
        · refine ⟨gup (gup r 2 6) 3 (Int32.ofNat base + Int64.toInt32 a), k3, fun y o z => ?_⟩
          unfold cR_readPlace
          rw [ho_187, Option.bind_some, k1, Option.bind_some, if_neg c0, if_pos c1, ho_187, Option.bind_some, k_settle, Option.bind_some]
        · refine ⟨gup r 1 1, rfl, fun y o z => ?_⟩
          unfold cR_readPlace
          rw [ho_187, Option.bind_some, k1, Option.bind_some, if_neg c0, if_neg c1, hp_187_1, Option.bind_some]
    obtain ⟨r', r1, r2⟩ := cl
    exact Or.inr ⟨r', s', r2, rf, r1, t1, gKs_trans k5 t2⟩
end H
end
