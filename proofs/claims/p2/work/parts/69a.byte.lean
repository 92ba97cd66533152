/-! read: what ties both sides while bytes are read -/
abbrev gD  (n0 f q m N pos : Nat) (u : gU) (x : gX) : Prop := (N ≤ 32) ∧ (f = n0 + q) ∧ (f ≤ N) ∧ (u.2.2.1 1 = Int32.ofNat N) ∧ (x.2.1 33 = Int32.ofNat N) ∧ (x.2.1 1 = Int32.ofNat n0) ∧ (∀ k, k < N → ∃ s c, gO N s c (u.1 k) (x.1 k)) ∧ (∀ k, n0 ≤ k → k < N → (u.1 k).2.2.2.2.1 6 = 0) ∧ (u.2.2.2.2.2.2.2.2.2.2.2.2.1 1 = 0) ∧ (x.2.1 31 = 1) ∧ (u.2.2.2.2.2.2.2.2.2.2.2.2.1 0 = Int32.ofNat pos) ∧ (x.2.1 32 = Int32.ofNat pos) ∧ (pos ≤ m) ∧ (m ≤ 300) ∧ (u.2.2.2.1 1 = Int32.ofNat m) ∧ (x.2.1 15 = Int32.ofNat m) ∧ (∀ i, i < m → x.2.2.2.2.2.1 i = u.2.2.2.2.1 i) ∧ (∀ i, i < m → ∃ b, b < 256 ∧ u.2.2.2.2.1 i = Int32.ofNat b) ∧ (u.2.2.2.2.2.2.2.2.2.2.2.2.1 6 = Int32.ofNat f) ∧ (u.2.2.2.2.2.2.2.2.2.2.2.2.1 4 = Int32.ofNat n0) ∧ (u.2.2.2.2.2.2.2.2.2.2.2.2.1 5 = Int32.ofNat q) ∧ (x.2.1 12 = Int32.ofNat q) ∧ (x.2.1 29 = Int32.ofNat (N - f)) ∧ (∀ i, i < N - f → x.2.2.2.2.2.2.2.2.2.2.2.2.2.2.2 i = Int32.ofNat (f + i))
theorem gD.hN {n0 f q m N pos : Nat} {u : gU} {x : gX} (h : gD n0 f q m N pos u x) : N ≤ 32 := h.1
theorem gD.nf {n0 f q m N pos : Nat} {u : gU} {x : gX} (h : gD n0 f q m N pos u x) : f = n0 + q := h.2.1
theorem gD.fN {n0 f q m N pos : Nat} {u : gU} {x : gX} (h : gD n0 f q m N pos u x) : f ≤ N := h.2.2.1
theorem gD.un {n0 f q m N pos : Nat} {u : gU} {x : gX} (h : gD n0 f q m N pos u x) : u.2.2.1 1 = Int32.ofNat N := h.2.2.2.1
theorem gD.xn {n0 f q m N pos : Nat} {u : gU} {x : gX} (h : gD n0 f q m N pos u x) : x.2.1 33 = Int32.ofNat N := h.2.2.2.2.1
theorem gD.xo {n0 f q m N pos : Nat} {u : gU} {x : gX} (h : gD n0 f q m N pos u x) : x.2.1 1 = Int32.ofNat n0 := h.2.2.2.2.2.1
theorem gD.ob {n0 f q m N pos : Nat} {u : gU} {x : gX} (h : gD n0 f q m N pos u x) : ∀ k, k < N → ∃ s c, gO N s c (u.1 k) (x.1 k) := h.2.2.2.2.2.2.1
theorem gD.nd {n0 f q m N pos : Nat} {u : gU} {x : gX} (h : gD n0 f q m N pos u x) : ∀ k, n0 ≤ k → k < N → (u.1 k).2.2.2.2.1 6 = 0 := h.2.2.2.2.2.2.2.1
theorem gD.wr {n0 f q m N pos : Nat} {u : gU} {x : gX} (h : gD n0 f q m N pos u x) : u.2.2.2.2.2.2.2.2.2.2.2.2.1 1 = 0 := h.2.2.2.2.2.2.2.2.1
theorem gD.gg {n0 f q m N pos : Nat} {u : gU} {x : gX} (h : gD n0 f q m N pos u x) : x.2.1 31 = 1 := h.2.2.2.2.2.2.2.2.2.1
theorem gD.pu {n0 f q m N pos : Nat} {u : gU} {x : gX} (h : gD n0 f q m N pos u x) : u.2.2.2.2.2.2.2.2.2.2.2.2.1 0 = Int32.ofNat pos := h.2.2.2.2.2.2.2.2.2.2.1
theorem gD.px {n0 f q m N pos : Nat} {u : gU} {x : gX} (h : gD n0 f q m N pos u x) : x.2.1 32 = Int32.ofNat pos := h.2.2.2.2.2.2.2.2.2.2.2.1
theorem gD.hp {n0 f q m N pos : Nat} {u : gU} {x : gX} (h : gD n0 f q m N pos u x) : pos ≤ m := h.2.2.2.2.2.2.2.2.2.2.2.2.1
theorem gD.hm {n0 f q m N pos : Nat} {u : gU} {x : gX} (h : gD n0 f q m N pos u x) : m ≤ 300 := h.2.2.2.2.2.2.2.2.2.2.2.2.2.1
theorem gD.um {n0 f q m N pos : Nat} {u : gU} {x : gX} (h : gD n0 f q m N pos u x) : u.2.2.2.1 1 = Int32.ofNat m := h.2.2.2.2.2.2.2.2.2.2.2.2.2.2.1
theorem gD.xm {n0 f q m N pos : Nat} {u : gU} {x : gX} (h : gD n0 f q m N pos u x) : x.2.1 15 = Int32.ofNat m := h.2.2.2.2.2.2.2.2.2.2.2.2.2.2.2.1
theorem gD.bs {n0 f q m N pos : Nat} {u : gU} {x : gX} (h : gD n0 f q m N pos u x) : ∀ i, i < m → x.2.2.2.2.2.1 i = u.2.2.2.2.1 i := h.2.2.2.2.2.2.2.2.2.2.2.2.2.2.2.2.1
theorem gD.b8 {n0 f q m N pos : Nat} {u : gU} {x : gX} (h : gD n0 f q m N pos u x) : ∀ i, i < m → ∃ b, b < 256 ∧ u.2.2.2.2.1 i = Int32.ofNat b := h.2.2.2.2.2.2.2.2.2.2.2.2.2.2.2.2.2.1
theorem gD.fi {n0 f q m N pos : Nat} {u : gU} {x : gX} (h : gD n0 f q m N pos u x) : u.2.2.2.2.2.2.2.2.2.2.2.2.1 6 = Int32.ofNat f := h.2.2.2.2.2.2.2.2.2.2.2.2.2.2.2.2.2.2.1
theorem gD.fh {n0 f q m N pos : Nat} {u : gU} {x : gX} (h : gD n0 f q m N pos u x) : u.2.2.2.2.2.2.2.2.2.2.2.2.1 4 = Int32.ofNat n0 := h.2.2.2.2.2.2.2.2.2.2.2.2.2.2.2.2.2.2.2.1
theorem gD.hc {n0 f q m N pos : Nat} {u : gU} {x : gX} (h : gD n0 f q m N pos u x) : u.2.2.2.2.2.2.2.2.2.2.2.2.1 5 = Int32.ofNat q := h.2.2.2.2.2.2.2.2.2.2.2.2.2.2.2.2.2.2.2.2.1
theorem gD.xq {n0 f q m N pos : Nat} {u : gU} {x : gX} (h : gD n0 f q m N pos u x) : x.2.1 12 = Int32.ofNat q := h.2.2.2.2.2.2.2.2.2.2.2.2.2.2.2.2.2.2.2.2.2.1
theorem gD.be {n0 f q m N pos : Nat} {u : gU} {x : gX} (h : gD n0 f q m N pos u x) : x.2.1 29 = Int32.ofNat (N - f) := h.2.2.2.2.2.2.2.2.2.2.2.2.2.2.2.2.2.2.2.2.2.2.1
theorem gD.ro {n0 f q m N pos : Nat} {u : gU} {x : gX} (h : gD n0 f q m N pos u x) : ∀ i, i < N - f → x.2.2.2.2.2.2.2.2.2.2.2.2.2.2.2 i = Int32.ofNat (f + i) := h.2.2.2.2.2.2.2.2.2.2.2.2.2.2.2.2.2.2.2.2.2.2.2
/-- what the reference's fields keep when bytes are read -/
def gKs (s t : Nat → Int32) : Prop := ∀ i, i < 31 → t i = s i
theorem gKs_refl {s : Nat → Int32} : gKs s s := fun _ _ => rfl
theorem gKs_trans {s t r : Nat → Int32} (h : gKs s t) (k : gKs t r) : gKs s r := fun i hi => (k i hi).trans (h i hi)
section H
variable {n0 f q m N pos : Nat} {u : gU} {x : gX}
/-- the same but for the reader's own fields -/
theorem gD_r {pos' : Nat} {r s : Nat → Int32} (D : gD n0 f q m N pos u x) (h0 : r 1 = 0) (h1 : r 0 = Int32.ofNat pos') (h2 : pos' ≤ m) (h3 : r 4 = u.2.2.2.2.2.2.2.2.2.2.2.2.1 4) (h4 : r 5 = u.2.2.2.2.2.2.2.2.2.2.2.2.1 5) (h5 : r 6 = u.2.2.2.2.2.2.2.2.2.2.2.2.1 6) (k0 : s 31 = 1) (k1 : s 32 = Int32.ofNat pos') (k2 : s 33 = x.2.1 33) (k3 : gKs x.2.1 s) : gD n0 f q m N pos' ((u.1, u.2.1, u.2.2.1, u.2.2.2.1, u.2.2.2.2.1, u.2.2.2.2.2.1, u.2.2.2.2.2.2.1, u.2.2.2.2.2.2.2.1, u.2.2.2.2.2.2.2.2.1, u.2.2.2.2.2.2.2.2.2.1, u.2.2.2.2.2.2.2.2.2.2.1, u.2.2.2.2.2.2.2.2.2.2.2.1, r, u.2.2.2.2.2.2.2.2.2.2.2.2.2.1, u.2.2.2.2.2.2.2.2.2.2.2.2.2.2) : gU) ((x.1, s, x.2.2.1, x.2.2.2.1, x.2.2.2.2.1, x.2.2.2.2.2.1, x.2.2.2.2.2.2.1, x.2.2.2.2.2.2.2.1, x.2.2.2.2.2.2.2.2.1, x.2.2.2.2.2.2.2.2.2.1, x.2.2.2.2.2.2.2.2.2.2.1, x.2.2.2.2.2.2.2.2.2.2.2.1, x.2.2.2.2.2.2.2.2.2.2.2.2.1, x.2.2.2.2.2.2.2.2.2.2.2.2.2.1, x.2.2.2.2.2.2.2.2.2.2.2.2.2.2.1, x.2.2.2.2.2.2.2.2.2.2.2.2.2.2.2) : gX) :=
  ⟨D.hN, D.nf, D.fN, D.un, k2.trans D.xn, (k3 1 (by omega)).trans D.xo, D.ob, D.nd, h0, k0, h1, k1, h2, D.hm, D.um, (k3 15 (by omega)).trans D.xm, D.bs, D.b8, h5.trans D.fi, h3.trans D.fh, h4.trans D.hc, (k3 12 (by omega)).trans D.xq, (k3 29 (by omega)).trans D.be, D.ro⟩
/-- one byte: both have it, or both refuse -/
theorem d_byte (D : gD n0 f q m N pos u x) : (∃ b, b < 256 ∧ pos < m ∧ (∀ y o z, cR_nextByte (some 187) (some 163) (gH u y o z) = some (Int32.ofNat b, gH ((u.1, u.2.1, u.2.2.1, u.2.2.2.1, u.2.2.2.2.1, u.2.2.2.2.2.1, u.2.2.2.2.2.2.1, u.2.2.2.2.2.2.2.1, u.2.2.2.2.2.2.2.2.1, u.2.2.2.2.2.2.2.2.2.1, u.2.2.2.2.2.2.2.2.2.2.1, u.2.2.2.2.2.2.2.2.2.2.2.1, gup u.2.2.2.2.2.2.2.2.2.2.2.2.1 0 (Int32.ofNat (pos + 1)), u.2.2.2.2.2.2.2.2.2.2.2.2.2.1, u.2.2.2.2.2.2.2.2.2.2.2.2.2.2) : gU) y o z)) ∧ (∀ y o z, mM_next (some 188) (gH y x o z) = some (Int32.ofNat b, gH y ((x.1, gup (gup x.2.1 31 1) 32 (Int32.ofNat (pos + 1)), x.2.2.1, x.2.2.2.1, x.2.2.2.2.1, x.2.2.2.2.2.1, x.2.2.2.2.2.2.1, x.2.2.2.2.2.2.2.1, x.2.2.2.2.2.2.2.2.1, x.2.2.2.2.2.2.2.2.2.1, x.2.2.2.2.2.2.2.2.2.2.1, x.2.2.2.2.2.2.2.2.2.2.2.1, x.2.2.2.2.2.2.2.2.2.2.2.2.1, x.2.2.2.2.2.2.2.2.2.2.2.2.2.1, x.2.2.2.2.2.2.2.2.2.2.2.2.2.2.1, x.2.2.2.2.2.2.2.2.2.2.2.2.2.2.2) : gX) o z)) ∧ gD n0 f q m N (pos + 1) ((u.1, u.2.1, u.2.2.1, u.2.2.2.1, u.2.2.2.2.1, u.2.2.2.2.2.1, u.2.2.2.2.2.2.1, u.2.2.2.2.2.2.2.1, u.2.2.2.2.2.2.2.2.1, u.2.2.2.2.2.2.2.2.2.1, u.2.2.2.2.2.2.2.2.2.2.1, u.2.2.2.2.2.2.2.2.2.2.2.1, gup u.2.2.2.2.2.2.2.2.2.2.2.2.1 0 (Int32.ofNat (pos + 1)), u.2.2.2.2.2.2.2.2.2.2.2.2.2.1, u.2.2.2.2.2.2.2.2.2.2.2.2.2.2) : gU) ((x.1, gup (gup x.2.1 31 1) 32 (Int32.ofNat (pos + 1)), x.2.2.1, x.2.2.2.1, x.2.2.2.2.1, x.2.2.2.2.2.1, x.2.2.2.2.2.2.1, x.2.2.2.2.2.2.2.1, x.2.2.2.2.2.2.2.2.1, x.2.2.2.2.2.2.2.2.2.1, x.2.2.2.2.2.2.2.2.2.2.1, x.2.2.2.2.2.2.2.2.2.2.2.1, x.2.2.2.2.2.2.2.2.2.2.2.2.1, x.2.2.2.2.2.2.2.2.2.2.2.2.2.1, x.2.2.2.2.2.2.2.2.2.2.2.2.2.2.1, x.2.2.2.2.2.2.2.2.2.2.2.2.2.2.2) : gX)) ∨ ((∀ y o z, cR_nextByte (some 187) (some 163) (gH u y o z) = some (0, gH ((u.1, u.2.1, u.2.2.1, u.2.2.2.1, u.2.2.2.2.1, u.2.2.2.2.2.1, u.2.2.2.2.2.2.1, u.2.2.2.2.2.2.2.1, u.2.2.2.2.2.2.2.2.1, u.2.2.2.2.2.2.2.2.2.1, u.2.2.2.2.2.2.2.2.2.2.1, u.2.2.2.2.2.2.2.2.2.2.2.1, gup u.2.2.2.2.2.2.2.2.2.2.2.2.1 1 1, u.2.2.2.2.2.2.2.2.2.2.2.2.2.1, u.2.2.2.2.2.2.2.2.2.2.2.2.2.2) : gU) y o z)) ∧ ∀ y o z, mM_next (some 188) (gH y x o z) = some (0, gH y ((x.1, gup (gup x.2.1 31 0) 32 (Int32.ofNat (pos + 1)), x.2.2.1, x.2.2.2.1, x.2.2.2.2.1, x.2.2.2.2.2.1, x.2.2.2.2.2.2.1, x.2.2.2.2.2.2.2.1, x.2.2.2.2.2.2.2.2.1, x.2.2.2.2.2.2.2.2.2.1, x.2.2.2.2.2.2.2.2.2.2.1, x.2.2.2.2.2.2.2.2.2.2.2.1, x.2.2.2.2.2.2.2.2.2.2.2.2.1, x.2.2.2.2.2.2.2.2.2.2.2.2.2.1, x.2.2.2.2.2.2.2.2.2.2.2.2.2.2.1, x.2.2.2.2.2.2.2.2.2.2.2.2.2.2.2) : gX) o z)) := by
  have hp := D.hp
  have hm := D.hm
  have d10 : ¬ (1 : Int32) = 0 := by decide
  by_cases c : pos < m
  · left
    obtain ⟨b, b1, b2⟩ := D.b8 pos c
    have l : Int32.ofNat pos < Int32.ofNat m := n_ltl (by omega) (by omega) c
    refine ⟨b, b1, c, fun y o z => ?_, fun y o z => ?_, gD_r D D.wr rfl (by omega) rfl rfl rfl rfl rfl rfl (fun i hi => ?_)⟩
    · simp only [cR_nextByte, hi_187_1, Option.bind_some, D.wr, if_true, hi_187_0, D.pu, hi_163_1, D.um, if_pos l, n_succ, hp_187_0, hr_163_0, gup_eq, n_pred, ha_164 (show pos < 300 by omega), b2]
    · have e31 : gup x.2.1 31 1 31 = 1 := rfl
      have e32 : gup x.2.1 31 1 32 = Int32.ofNat pos := D.px
      simp only [mM_next, hi_188_31, Option.bind_some, D.gg, if_neg d10, hi_188_32, D.px, hi_188_15, D.xm, if_pos l, mM_next_24, or_true, not_true, if_false, hp_188_31, e31, hr_188_16, e32, ha_200 (show pos < 300 by omega), D.bs pos c, b2, mM_next_47, n_succ, hp_188_32]
    · rw [gup_ne (by omega), gup_ne (by omega)]
  · right
    obtain rfl : pos = m := by omega
    have l : ¬ Int32.ofNat pos < Int32.ofNat pos := n_nltl (by omega) (by omega) (by omega)
    refine ⟨fun y o z => ?_, fun y o z => ?_⟩
    · simp only [cR_nextByte, hi_187_1, Option.bind_some, D.wr, if_true, hi_187_0, D.pu, hi_163_1, D.um, if_neg l, hp_187_1]
    · have e31 : gup x.2.1 31 0 31 = 0 := rfl
      have e32 : gup x.2.1 31 0 32 = Int32.ofNat pos := D.px
      simp only [mM_next, hi_188_31, Option.bind_some, D.gg, if_neg d10, hi_188_32, D.px, hi_188_15, D.xm, if_neg l, mM_next_23, mM_next_24, true_or, not_true, if_false, hp_188_31, e31, if_true, mM_next_47, e32, n_succ, hp_188_32]
/-- once refused, no byte comes any more -/
theorem k_byteDead {y : gX} {o : Nat → Int64} {z : gx_H} (h : u.2.2.2.2.2.2.2.2.2.2.2.2.1 1 = 1) : cR_nextByte (some 187) (some 163) (gH u y o z) = some (0, gH u y o z) := by
  have e : gup u.2.2.2.2.2.2.2.2.2.2.2.2.1 1 1 = u.2.2.2.2.2.2.2.2.2.2.2.2.1 := gup_same h
  simp only [cR_nextByte, hi_187_1, Option.bind_some, h, show ¬ (1 : Int32) = 0 by decide, if_false, hp_187_1, e]
theorem k_uptoDead {y : gX} {o : Nat → Int64} {z : gx_H} {t : Nat} (h : u.2.2.2.2.2.2.2.2.2.2.2.2.1 1 = 1) (ht : t < 2 ^ 31) : cR_nextUpTo (some 187) (some 163) (Int32.ofNat t) (gH u y o z) = some (0, gH u y o z) := by
  simp only [cR_nextUpTo, ho_187, Option.bind_some, k_byteDead h, if_neg (show ¬ Int32.ofNat t < 0 from n_nn ht)]
/-- reads of one number: both sides have v, w, or both refuse -/
def gNx (n0 f q m N pos : Nat) (u : gU) (x : gX) {α β : Type} (A : gx_H → Option (α × gx_H)) (M : gx_H → Option (β × gx_H)) (ok : α → β → Prop) : Prop := (∃ a b r s pos', (∀ y o z, A (gH u y o z) = some (a, gH ((u.1, u.2.1, u.2.2.1, u.2.2.2.1, u.2.2.2.2.1, u.2.2.2.2.2.1, u.2.2.2.2.2.2.1, u.2.2.2.2.2.2.2.1, u.2.2.2.2.2.2.2.2.1, u.2.2.2.2.2.2.2.2.2.1, u.2.2.2.2.2.2.2.2.2.2.1, u.2.2.2.2.2.2.2.2.2.2.2.1, r, u.2.2.2.2.2.2.2.2.2.2.2.2.2.1, u.2.2.2.2.2.2.2.2.2.2.2.2.2.2) : gU) y o z)) ∧ (∀ y o z, M (gH y x o z) = some (b, gH y ((x.1, s, x.2.2.1, x.2.2.2.1, x.2.2.2.2.1, x.2.2.2.2.2.1, x.2.2.2.2.2.2.1, x.2.2.2.2.2.2.2.1, x.2.2.2.2.2.2.2.2.1, x.2.2.2.2.2.2.2.2.2.1, x.2.2.2.2.2.2.2.2.2.2.1, x.2.2.2.2.2.2.2.2.2.2.2.1, x.2.2.2.2.2.2.2.2.2.2.2.2.1, x.2.2.2.2.2.2.2.2.2.2.2.2.2.1, x.2.2.2.2.2.2.2.2.2.2.2.2.2.2.1, x.2.2.2.2.2.2.2.2.2.2.2.2.2.2.2) : gX) o z)) ∧ ok a b ∧ gD n0 f q m N pos' ((u.1, u.2.1, u.2.2.1, u.2.2.2.1, u.2.2.2.2.1, u.2.2.2.2.2.1, u.2.2.2.2.2.2.1, u.2.2.2.2.2.2.2.1, u.2.2.2.2.2.2.2.2.1, u.2.2.2.2.2.2.2.2.2.1, u.2.2.2.2.2.2.2.2.2.2.1, u.2.2.2.2.2.2.2.2.2.2.2.1, r, u.2.2.2.2.2.2.2.2.2.2.2.2.2.1, u.2.2.2.2.2.2.2.2.2.2.2.2.2.2) : gU) ((x.1, s, x.2.2.1, x.2.2.2.1, x.2.2.2.2.1, x.2.2.2.2.2.1, x.2.2.2.2.2.2.1, x.2.2.2.2.2.2.2.1, x.2.2.2.2.2.2.2.2.1, x.2.2.2.2.2.2.2.2.2.1, x.2.2.2.2.2.2.2.2.2.2.1, x.2.2.2.2.2.2.2.2.2.2.2.1, x.2.2.2.2.2.2.2.2.2.2.2.2.1, x.2.2.2.2.2.2.2.2.2.2.2.2.2.1, x.2.2.2.2.2.2.2.2.2.2.2.2.2.2.1, x.2.2.2.2.2.2.2.2.2.2.2.2.2.2.2) : gX) ∧ gKs x.2.1 s ∧ r 2 = u.2.2.2.2.2.2.2.2.2.2.2.2.1 2 ∧ r 3 = u.2.2.2.2.2.2.2.2.2.2.2.2.1 3) ∨ ∃ a b r s, (∀ y o z, A (gH u y o z) = some (a, gH ((u.1, u.2.1, u.2.2.1, u.2.2.2.1, u.2.2.2.2.1, u.2.2.2.2.2.1, u.2.2.2.2.2.2.1, u.2.2.2.2.2.2.2.1, u.2.2.2.2.2.2.2.2.1, u.2.2.2.2.2.2.2.2.2.1, u.2.2.2.2.2.2.2.2.2.2.1, u.2.2.2.2.2.2.2.2.2.2.2.1, r, u.2.2.2.2.2.2.2.2.2.2.2.2.2.1, u.2.2.2.2.2.2.2.2.2.2.2.2.2.2) : gU) y o z)) ∧ (∀ y o z, M (gH y x o z) = some (b, gH y ((x.1, s, x.2.2.1, x.2.2.2.1, x.2.2.2.2.1, x.2.2.2.2.2.1, x.2.2.2.2.2.2.1, x.2.2.2.2.2.2.2.1, x.2.2.2.2.2.2.2.2.1, x.2.2.2.2.2.2.2.2.2.1, x.2.2.2.2.2.2.2.2.2.2.1, x.2.2.2.2.2.2.2.2.2.2.2.1, x.2.2.2.2.2.2.2.2.2.2.2.2.1, x.2.2.2.2.2.2.2.2.2.2.2.2.2.1, x.2.2.2.2.2.2.2.2.2.2.2.2.2.2.1, x.2.2.2.2.2.2.2.2.2.2.2.2.2.2.2) : gX) o z)) ∧ r 1 = 1 ∧ s 31 = 0 ∧ gKs x.2.1 s
theorem d_next (D : gD n0 f q m N pos u x) : gNx n0 f q m N pos u x (cR_nextByte (some 187) (some 163)) (mM_next (some 188)) (fun a b => a = b ∧ ∃ t, t < 256 ∧ a = Int32.ofNat t) := by
  rcases d_byte D with ⟨b, b1, _, b3, b4, b5⟩ | ⟨b3, b4⟩
  · exact Or.inl ⟨_, _, _, _, pos + 1, b3, b4, ⟨rfl, b, b1, rfl⟩, b5, fun i hi => by rw [gup_ne (by omega), gup_ne (by omega)], rfl, rfl⟩
  · exact Or.inr ⟨_, _, _, _, b3, b4, rfl, rfl, fun i hi => by rw [gup_ne (by omega), gup_ne (by omega)]⟩
theorem d_upto {t : Nat} (ht : t < 256) (D : gD n0 f q m N pos u x) : gNx n0 f q m N pos u x (cR_nextUpTo (some 187) (some 163) (Int32.ofNat t)) (mM_nextUpTo (some 188) (Int32.ofNat t)) (fun a b => a = b ∧ ∃ j, j ≤ t ∧ a = Int32.ofNat j) := by
  have d10 : ¬ (1 : Int32) = 0 := by decide
  rcases d_byte D with ⟨b, b1, _, b3, b4, b5⟩ | ⟨b3, b4⟩
  · have e31 : gup (gup x.2.1 31 1) 32 (Int32.ofNat (pos + 1)) 31 = 1 := rfl
    by_cases c : b ≤ t
    · have l : ¬ Int32.ofNat t < Int32.ofNat b := n_nltl (by omega) (by omega) c
      refine Or.inl ⟨Int32.ofNat b, Int32.ofNat b, gup u.2.2.2.2.2.2.2.2.2.2.2.2.1 0 (Int32.ofNat (pos + 1)), gup (gup (gup x.2.1 31 1) 32 (Int32.ofNat (pos + 1))) 31 1, pos + 1, fun y o z => ?_, fun y o z => ?_, ⟨rfl, b, c, rfl⟩, ?_, fun i hi => by rw [gup_ne (by omega), gup_ne (by omega), gup_ne (by omega)], rfl, rfl⟩
      · simp only [cR_nextUpTo, ho_187, Option.bind_some, b3, if_neg l]
      · have e31' : gup (gup (gup x.2.1 31 1) 32 (Int32.ofNat (pos + 1))) 31 1 31 = 1 := rfl
        simp only [mM_nextUpTo, ho_188, Option.bind_some, b4, hi_188_31, e31, if_neg d10, if_neg l, mM_nextUpTo_23, or_true, not_true, if_false, hp_188_31, e31']
      · have := D.hm
        exact gD_r D D.wr rfl b5.hp rfl rfl rfl rfl rfl rfl (fun i hi => by rw [gup_ne (by omega), gup_ne (by omega), gup_ne (by omega)])
    · have l : Int32.ofNat t < Int32.ofNat b := n_ltl (by omega) (by omega) (by omega)
      refine Or.inr ⟨0, 0, gup (gup u.2.2.2.2.2.2.2.2.2.2.2.2.1 0 (Int32.ofNat (pos + 1))) 1 1, gup (gup (gup x.2.1 31 1) 32 (Int32.ofNat (pos + 1))) 31 0, fun y o z => ?_, fun y o z => ?_, rfl, rfl, fun i hi => by rw [gup_ne (by omega), gup_ne (by omega), gup_ne (by omega)]⟩
      · simp only [cR_nextUpTo, ho_187, Option.bind_some, b3, if_pos l, hp_187_1]
      · have e31' : gup (gup (gup x.2.1 31 1) 32 (Int32.ofNat (pos + 1))) 31 0 31 = 0 := rfl
        simp only [mM_nextUpTo, ho_188, Option.bind_some, b4, hi_188_31, e31, if_neg d10, if_pos l, mM_nextUpTo_22, mM_nextUpTo_23, true_or, not_true, if_false, hp_188_31, e31', if_true]
  · have e31 : gup (gup x.2.1 31 0) 32 (Int32.ofNat (pos + 1)) 31 = 0 := rfl
    have l : ¬ Int32.ofNat t < 0 := n_nn (by omega)
    refine Or.inr ⟨0, 0, gup u.2.2.2.2.2.2.2.2.2.2.2.2.1 1 1, gup (gup (gup x.2.1 31 0) 32 (Int32.ofNat (pos + 1))) 31 0, fun y o z => ?_, fun y o z => ?_, rfl, rfl, fun i hi => by rw [gup_ne (by omega), gup_ne (by omega), gup_ne (by omega)]⟩
    · simp only [cR_nextUpTo, ho_187, Option.bind_some, b3, if_neg l]
    · have e31' : gup (gup (gup x.2.1 31 0) 32 (Int32.ofNat (pos + 1))) 31 0 31 = 0 := rfl
      simp only [mM_nextUpTo, ho_188, Option.bind_some, b4, hi_188_31, e31, if_true, mM_nextUpTo_22, mM_nextUpTo_23, true_or, not_true, if_false, hp_188_31, e31']
end H
