/-! what ties both sides while a value is written -/
abbrev gW  (n m p q e g : Nat) (u : gU) (x : gX) : Prop := (gTi n m p q u x) ∧ (x.2.1 26 = u.2.2.2.2.2.2.2.2.1 4) ∧ (u.2.2.2.2.2.2.2.2.1 4 = 0 ∨ u.2.2.2.2.2.2.2.2.1 4 = 1 ∨ u.2.2.2.2.2.2.2.2.1 4 = 2) ∧ (u.2.2.2.2.2.2.2.2.1 4 = 0 → e ≤ 300) ∧ (u.2.2.2.2.2.2.2.2.1 4 = 0 → g ≤ e) ∧ (u.2.2.2.2.2.2.2.2.1 4 = 0 → u.2.2.2.2.2.2.2.2.2.1 1 = Int32.ofNat e) ∧ (u.2.2.2.2.2.2.2.2.1 4 = 0 → x.2.1 27 = Int32.ofNat e) ∧ (u.2.2.2.2.2.2.2.2.1 4 = 0 → ∀ i, i < e → x.2.2.2.2.2.2.2.2.2.2.2.2.2.1 i = u.2.2.2.2.2.2.2.2.2.2.1 i ∧ ∃ b, b < 256 ∧ u.2.2.2.2.2.2.2.2.2.2.1 i = Int32.ofNat b) ∧ (u.2.2.2.2.2.2.2.2.1 4 = 0 → u.2.2.2.2.2.2.2.2.1 2 = Int32.ofNat g) ∧ (u.2.2.2.2.2.2.2.2.1 4 = 0 → x.2.1 29 = Int32.ofNat g) ∧ (u.2.2.2.2.2.2.2.2.1 4 = 0 → ∀ i, i < 32 → x.2.2.2.2.2.2.2.2.2.2.2.2.2.2.1 i = u.2.2.2.2.2.2.2.2.2.2.2.1 i ∧ (u.2.2.2.2.2.2.2.2.2.2.2.1 i = -1 ∨ ∃ j, j < 1000 ∧ u.2.2.2.2.2.2.2.2.2.2.2.1 i = Int32.ofNat j))
theorem gW.T {n m p q e g : Nat} {u : gU} {x : gX} (h : gW n m p q e g u x) : gTi n m p q u x := h.1
theorem gW.oc {n m p q e g : Nat} {u : gU} {x : gX} (h : gW n m p q e g u x) : x.2.1 26 = u.2.2.2.2.2.2.2.2.1 4 := h.2.1
theorem gW.o2 {n m p q e g : Nat} {u : gU} {x : gX} (h : gW n m p q e g u x) : u.2.2.2.2.2.2.2.2.1 4 = 0 ∨ u.2.2.2.2.2.2.2.2.1 4 = 1 ∨ u.2.2.2.2.2.2.2.2.1 4 = 2 := h.2.2.1
theorem gW.he {n m p q e g : Nat} {u : gU} {x : gX} (h : gW n m p q e g u x) : u.2.2.2.2.2.2.2.2.1 4 = 0 → e ≤ 300 := h.2.2.2.1
theorem gW.hg {n m p q e g : Nat} {u : gU} {x : gX} (h : gW n m p q e g u x) : u.2.2.2.2.2.2.2.2.1 4 = 0 → g ≤ e := h.2.2.2.2.1
theorem gW.dE {n m p q e g : Nat} {u : gU} {x : gX} (h : gW n m p q e g u x) : u.2.2.2.2.2.2.2.2.1 4 = 0 → u.2.2.2.2.2.2.2.2.2.1 1 = Int32.ofNat e := h.2.2.2.2.2.1
theorem gW.xe {n m p q e g : Nat} {u : gU} {x : gX} (h : gW n m p q e g u x) : u.2.2.2.2.2.2.2.2.1 4 = 0 → x.2.1 27 = Int32.ofNat e := h.2.2.2.2.2.2.1
theorem gW.dr {n m p q e g : Nat} {u : gU} {x : gX} (h : gW n m p q e g u x) : u.2.2.2.2.2.2.2.2.1 4 = 0 → ∀ i, i < e → x.2.2.2.2.2.2.2.2.2.2.2.2.2.1 i = u.2.2.2.2.2.2.2.2.2.2.1 i ∧ ∃ b, b < 256 ∧ u.2.2.2.2.2.2.2.2.2.2.1 i = Int32.ofNat b := h.2.2.2.2.2.2.2.1
theorem gW.ug {n m p q e g : Nat} {u : gU} {x : gX} (h : gW n m p q e g u x) : u.2.2.2.2.2.2.2.2.1 4 = 0 → u.2.2.2.2.2.2.2.2.1 2 = Int32.ofNat g := h.2.2.2.2.2.2.2.2.1
theorem gW.xg {n m p q e g : Nat} {u : gU} {x : gX} (h : gW n m p q e g u x) : u.2.2.2.2.2.2.2.2.1 4 = 0 → x.2.1 29 = Int32.ofNat g := h.2.2.2.2.2.2.2.2.2.1
theorem gW.pl {n m p q e g : Nat} {u : gU} {x : gX} (h : gW n m p q e g u x) : u.2.2.2.2.2.2.2.2.1 4 = 0 → ∀ i, i < 32 → x.2.2.2.2.2.2.2.2.2.2.2.2.2.2.1 i = u.2.2.2.2.2.2.2.2.2.2.2.1 i ∧ (u.2.2.2.2.2.2.2.2.2.2.2.1 i = -1 ∨ ∃ j, j < 1000 ∧ u.2.2.2.2.2.2.2.2.2.2.2.1 i = Int32.ofNat j) := h.2.2.2.2.2.2.2.2.2.2
/-- what a write of bytes leaves as it was -/
abbrev gBy  (u u' : gU) (x x' : gX) : Prop := (u'.1 = u.1) ∧ (u'.2.2.2.2.2.2.2.2.2.2.2.2.2.1 = u.2.2.2.2.2.2.2.2.2.2.2.2.2.1) ∧ (u'.2.2.2.2.2.2.2.2.2.2.2.1 = u.2.2.2.2.2.2.2.2.2.2.2.1) ∧ (u'.2.1 = u.2.1) ∧ (u'.2.2.1 = u.2.2.1) ∧ (u'.2.2.2.1 = u.2.2.2.1) ∧ (u'.2.2.2.2.1 = u.2.2.2.2.1) ∧ (u'.2.2.2.2.2.1 = u.2.2.2.2.2.1) ∧ (u'.2.2.2.2.2.2.1 = u.2.2.2.2.2.2.1) ∧ (u'.2.2.2.2.2.2.2.1 = u.2.2.2.2.2.2.2.1) ∧ (u'.2.2.2.2.2.2.2.2.2.2.2.2.2.2 = u.2.2.2.2.2.2.2.2.2.2.2.2.2.2) ∧ (u'.2.2.2.2.2.2.2.2.1 2 = u.2.2.2.2.2.2.2.2.1 2) ∧ (x'.1 = x.1) ∧ (∀ i, ¬ i = 26 → ¬ i = 27 → x'.2.1 i = x.2.1 i) ∧ (x'.2.2.1 = x.2.2.1) ∧ (x'.2.2.2.1 = x.2.2.2.1) ∧ (x'.2.2.2.2.1 = x.2.2.2.2.1) ∧ (x'.2.2.2.2.2.1 = x.2.2.2.2.2.1) ∧ (x'.2.2.2.2.2.2.1 = x.2.2.2.2.2.2.1) ∧ (x'.2.2.2.2.2.2.2.1 = x.2.2.2.2.2.2.2.1) ∧ (x'.2.2.2.2.2.2.2.2.1 = x.2.2.2.2.2.2.2.2.1) ∧ (x'.2.2.2.2.2.2.2.2.2.1 = x.2.2.2.2.2.2.2.2.2.1) ∧ (x'.2.2.2.2.2.2.2.2.2.2.2.2.2.2.1 = x.2.2.2.2.2.2.2.2.2.2.2.2.2.2.1) ∧ (¬ u.2.2.2.2.2.2.2.2.1 4 = 0 → u' = u ∧ x' = x)
theorem gBy.bC {u u' : gU} {x x' : gX} (h : gBy u u' x x') : u'.1 = u.1 := h.1
theorem gBy.bkd {u u' : gU} {x x' : gX} (h : gBy u u' x x') : u'.2.2.2.2.2.2.2.2.2.2.2.2.2.1 = u.2.2.2.2.2.2.2.2.2.2.2.2.2.1 := h.2.1
theorem gBy.b172 {u u' : gU} {x x' : gX} (h : gBy u u' x x') : u'.2.2.2.2.2.2.2.2.2.2.2.1 = u.2.2.2.2.2.2.2.2.2.2.2.1 := h.2.2.1
theorem gBy.u0 {u u' : gU} {x x' : gX} (h : gBy u u' x x') : u'.2.1 = u.2.1 := h.2.2.2.1
theorem gBy.u1 {u u' : gU} {x x' : gX} (h : gBy u u' x x') : u'.2.2.1 = u.2.2.1 := h.2.2.2.2.1
theorem gBy.u3 {u u' : gU} {x x' : gX} (h : gBy u u' x x') : u'.2.2.2.1 = u.2.2.2.1 := h.2.2.2.2.2.1
theorem gBy.u4 {u u' : gU} {x x' : gX} (h : gBy u u' x x') : u'.2.2.2.2.1 = u.2.2.2.2.1 := h.2.2.2.2.2.2.1
theorem gBy.u5 {u u' : gU} {x x' : gX} (h : gBy u u' x x') : u'.2.2.2.2.2.1 = u.2.2.2.2.2.1 := h.2.2.2.2.2.2.2.1
theorem gBy.u6 {u u' : gU} {x x' : gX} (h : gBy u u' x x') : u'.2.2.2.2.2.2.1 = u.2.2.2.2.2.2.1 := h.2.2.2.2.2.2.2.2.1
theorem gBy.u8 {u u' : gU} {x x' : gX} (h : gBy u u' x x') : u'.2.2.2.2.2.2.2.1 = u.2.2.2.2.2.2.2.1 := h.2.2.2.2.2.2.2.2.2.1
theorem gBy.uh {u u' : gU} {x x' : gX} (h : gBy u u' x x') : u'.2.2.2.2.2.2.2.2.2.2.2.2.2.2 = u.2.2.2.2.2.2.2.2.2.2.2.2.2.2 := h.2.2.2.2.2.2.2.2.2.2.1
theorem gBy.p2 {u u' : gU} {x x' : gX} (h : gBy u u' x x') : u'.2.2.2.2.2.2.2.2.1 2 = u.2.2.2.2.2.2.2.2.1 2 := h.2.2.2.2.2.2.2.2.2.2.2.1
theorem gBy.bR {u u' : gU} {x x' : gX} (h : gBy u u' x x') : x'.1 = x.1 := h.2.2.2.2.2.2.2.2.2.2.2.2.1
theorem gBy.b188 {u u' : gU} {x x' : gX} (h : gBy u u' x x') : ∀ i, ¬ i = 26 → ¬ i = 27 → x'.2.1 i = x.2.1 i := h.2.2.2.2.2.2.2.2.2.2.2.2.2.1
theorem gBy.b197 {u u' : gU} {x x' : gX} (h : gBy u u' x x') : x'.2.2.1 = x.2.2.1 := h.2.2.2.2.2.2.2.2.2.2.2.2.2.2.1
theorem gBy.b198 {u u' : gU} {x x' : gX} (h : gBy u u' x x') : x'.2.2.2.1 = x.2.2.2.1 := h.2.2.2.2.2.2.2.2.2.2.2.2.2.2.2.1
theorem gBy.b199 {u u' : gU} {x x' : gX} (h : gBy u u' x x') : x'.2.2.2.2.1 = x.2.2.2.2.1 := h.2.2.2.2.2.2.2.2.2.2.2.2.2.2.2.2.1
theorem gBy.b200 {u u' : gU} {x x' : gX} (h : gBy u u' x x') : x'.2.2.2.2.2.1 = x.2.2.2.2.2.1 := h.2.2.2.2.2.2.2.2.2.2.2.2.2.2.2.2.2.1
theorem gBy.b201 {u u' : gU} {x x' : gX} (h : gBy u u' x x') : x'.2.2.2.2.2.2.1 = x.2.2.2.2.2.2.1 := h.2.2.2.2.2.2.2.2.2.2.2.2.2.2.2.2.2.2.1
theorem gBy.b202 {u u' : gU} {x x' : gX} (h : gBy u u' x x') : x'.2.2.2.2.2.2.2.1 = x.2.2.2.2.2.2.2.1 := h.2.2.2.2.2.2.2.2.2.2.2.2.2.2.2.2.2.2.2.1
theorem gBy.b203 {u u' : gU} {x x' : gX} (h : gBy u u' x x') : x'.2.2.2.2.2.2.2.2.1 = x.2.2.2.2.2.2.2.2.1 := h.2.2.2.2.2.2.2.2.2.2.2.2.2.2.2.2.2.2.2.2.1
theorem gBy.b204 {u u' : gU} {x x' : gX} (h : gBy u u' x x') : x'.2.2.2.2.2.2.2.2.2.1 = x.2.2.2.2.2.2.2.2.2.1 := h.2.2.2.2.2.2.2.2.2.2.2.2.2.2.2.2.2.2.2.2.2.1
theorem gBy.b209 {u u' : gU} {x x' : gX} (h : gBy u u' x x') : x'.2.2.2.2.2.2.2.2.2.2.2.2.2.2.1 = x.2.2.2.2.2.2.2.2.2.2.2.2.2.2.1 := h.2.2.2.2.2.2.2.2.2.2.2.2.2.2.2.2.2.2.2.2.2.2.1
theorem gBy.dead {u u' : gU} {x x' : gX} (h : gBy u u' x x') : ¬ u.2.2.2.2.2.2.2.2.1 4 = 0 → u' = u ∧ x' = x := h.2.2.2.2.2.2.2.2.2.2.2.2.2.2.2.2.2.2.2.2.2.2.2
theorem gBy_refl {u : gU} {x : gX} : gBy u u x x := ⟨rfl, rfl, rfl, rfl, rfl, rfl, rfl, rfl, rfl, rfl, rfl, rfl, rfl, fun _ _ _ => rfl, rfl, rfl, rfl, rfl, rfl, rfl, rfl, rfl, rfl, fun _ => ⟨rfl, rfl⟩⟩
theorem gBy_trans {u u' u2 : gU} {x x' x2 : gX} (h : gBy u u' x x') (k : gBy u' u2 x' x2) : gBy u u2 x x2 :=
  ⟨k.bC.trans h.bC, k.bkd.trans h.bkd, k.b172.trans h.b172, k.u0.trans h.u0, k.u1.trans h.u1, k.u3.trans h.u3, k.u4.trans h.u4, k.u5.trans h.u5, k.u6.trans h.u6, k.u8.trans h.u8, k.uh.trans h.uh, k.p2.trans h.p2, k.bR.trans h.bR, fun i a b => (k.b188 i a b).trans (h.b188 i a b), k.b197.trans h.b197, k.b198.trans h.b198, k.b199.trans h.b199, k.b200.trans h.b200, k.b201.trans h.b201, k.b202.trans h.b202, k.b203.trans h.b203, k.b204.trans h.b204, k.b209.trans h.b209, fun a => by
    obtain ⟨h1, h2⟩ := h.dead a
    subst h1 h2
    exact k.dead a⟩
theorem gT_by {n m p q : Nat} {u u' : gU} {x x' : gX} (T : gTi n m p q u x) (h : gBy u u' x x') : gTi n m p q u' x' := by
  refine ⟨T.hn, by rw [h.u1]; exact T.un, by rw [h.b188 1 (by omega) (by omega)]; exact T.xn, by rw [h.bC, h.bR]; exact T.ob, T.hm, by rw [h.u3]; exact T.um, by rw [h.b188 15 (by omega) (by omega)]; exact T.xm, by rw [h.u4, h.b200]; exact T.bs, by rw [h.u4]; exact T.b8, T.hp, by rw [h.u5]; exact T.up, by rw [h.b188 10 (by omega) (by omega)]; exact T.xp, by rw [h.u6, h.b197]; exact T.pa, by rw [h.u6]; exact T.pb, T.hq, by rw [h.u5]; exact T.uq, by rw [h.b188 12 (by omega) (by omega)]; exact T.xq, by rw [h.u8, h.b198, h.b199, h.uh]; exact T.ho, by rw [h.u0, h.b188 17 (by omega) (by omega)]; exact T.fo⟩
section H
variable {u : gU} {x : gX} {o : Nat → Int64} {z : gx_H} {n m p q e g : Nat}
theorem w_byte {b : Int32} (W : gW n m p q e g u x) (hb : ∃ j, j < 256 ∧ b = Int32.ofNat j) : ∃ u' x' e', (∀ y o z, cW_writeByte (some 169) b (gH u y o z) = some (gH u' y o z)) ∧ (∀ y o z, mM_say (some 188) b (gH y x o z) = some (gH y x' o z)) ∧ gW n m p q e' g u' x' ∧ (u'.2.2.2.2.2.2.2.2.1 4 = 0 → e' = e + 1) ∧ gBy u u' x x' := by
  have d10 : ¬ (1 : Int32) = 0 := by decide
  by_cases c0 : u.2.2.2.2.2.2.2.2.1 4 = 0
  · have he := W.he c0
    have de := W.dE c0
    have xe := W.xe c0
    have oc : x.2.1 26 = 0 := W.oc.trans c0
    by_cases c3 : e < 300
    · have l3 : Int32.ofNat e < 300 := n_ltl (m := 300) (by omega) (by omega) c3
      have n3 : ¬ Int32.ofNat e = 300 := fun q => by have := (n_eq (m := 300) (by omega) (by omega)).mp q; omega
      have B : gBy u ((u.1, u.2.1, u.2.2.1, u.2.2.2.1, u.2.2.2.2.1, u.2.2.2.2.2.1, u.2.2.2.2.2.2.1, u.2.2.2.2.2.2.2.1, u.2.2.2.2.2.2.2.2.1, gup u.2.2.2.2.2.2.2.2.2.1 1 (Int32.ofNat (e + 1)), gup u.2.2.2.2.2.2.2.2.2.2.1 e b, u.2.2.2.2.2.2.2.2.2.2.2.1, u.2.2.2.2.2.2.2.2.2.2.2.2.1, u.2.2.2.2.2.2.2.2.2.2.2.2.2.1, u.2.2.2.2.2.2.2.2.2.2.2.2.2.2) : gU) x ((x.1, gup x.2.1 27 (Int32.ofNat (e + 1)), x.2.2.1, x.2.2.2.1, x.2.2.2.2.1, x.2.2.2.2.2.1, x.2.2.2.2.2.2.1, x.2.2.2.2.2.2.2.1, x.2.2.2.2.2.2.2.2.1, x.2.2.2.2.2.2.2.2.2.1, x.2.2.2.2.2.2.2.2.2.2.1, x.2.2.2.2.2.2.2.2.2.2.2.1, x.2.2.2.2.2.2.2.2.2.2.2.2.1, gup x.2.2.2.2.2.2.2.2.2.2.2.2.2.1 e b, x.2.2.2.2.2.2.2.2.2.2.2.2.2.2.1, x.2.2.2.2.2.2.2.2.2.2.2.2.2.2.2) : gX) :=
        ⟨rfl, rfl, rfl, rfl, rfl, rfl, rfl, rfl, rfl, rfl, rfl, rfl, rfl, fun i _ h => gup_ne h, rfl, rfl, rfl, rfl, rfl, rfl, rfl, rfl, rfl, fun h => absurd c0 h⟩
      refine ⟨((u.1, u.2.1, u.2.2.1, u.2.2.2.1, u.2.2.2.2.1, u.2.2.2.2.2.1, u.2.2.2.2.2.2.1, u.2.2.2.2.2.2.2.1, u.2.2.2.2.2.2.2.2.1, gup u.2.2.2.2.2.2.2.2.2.1 1 (Int32.ofNat (e + 1)), gup u.2.2.2.2.2.2.2.2.2.2.1 e b, u.2.2.2.2.2.2.2.2.2.2.2.1, u.2.2.2.2.2.2.2.2.2.2.2.2.1, u.2.2.2.2.2.2.2.2.2.2.2.2.2.1, u.2.2.2.2.2.2.2.2.2.2.2.2.2.2) : gU), ((x.1, gup x.2.1 27 (Int32.ofNat (e + 1)), x.2.2.1, x.2.2.2.1, x.2.2.2.2.1, x.2.2.2.2.2.1, x.2.2.2.2.2.2.1, x.2.2.2.2.2.2.2.1, x.2.2.2.2.2.2.2.2.1, x.2.2.2.2.2.2.2.2.2.1, x.2.2.2.2.2.2.2.2.2.2.1, x.2.2.2.2.2.2.2.2.2.2.2.1, x.2.2.2.2.2.2.2.2.2.2.2.2.1, gup x.2.2.2.2.2.2.2.2.2.2.2.2.2.1 e b, x.2.2.2.2.2.2.2.2.2.2.2.2.2.2.1, x.2.2.2.2.2.2.2.2.2.2.2.2.2.2.2) : gX), e + 1, fun y o z => ?_, fun y o z => ?_, ?_, fun _ => rfl, B⟩
      · simp only [cW_writeByte, hi_169_4, Option.bind_some, c0, if_true, hr_169_0, ho_170, cB_append, hi_170_1, de, if_pos l3, hr_170_0, hb_171 c3, hp_170_1, n_succ, if_neg d10]
      · simp only [mM_say, mM_say_22, hi_188_26, Option.bind_some, oc, if_true, hi_188_27, xe, if_neg n3, hr_188_28, hb_208 c3, hp_188_27, n_succ]
      · refine ⟨gT_by W.T B, W.oc, W.o2, fun _ => by omega, fun _ => by have := W.hg c0; omega, fun _ => rfl, fun _ => rfl, fun _ i hi => ?_, W.ug, W.xg, W.pl⟩
        show gup x.2.2.2.2.2.2.2.2.2.2.2.2.2.1 e b i = gup u.2.2.2.2.2.2.2.2.2.2.1 e b i ∧ ∃ j, j < 256 ∧ gup u.2.2.2.2.2.2.2.2.2.2.1 e b i = Int32.ofNat j
        by_cases c : i = e
        · subst c; rw [gup_eq, gup_eq]; exact ⟨rfl, hb⟩
        · rw [gup_ne c, gup_ne c]; exact W.dr c0 i (by omega)
    · obtain rfl : e = 300 := by omega
      have B : gBy u ((u.1, u.2.1, u.2.2.1, u.2.2.2.1, u.2.2.2.2.1, u.2.2.2.2.2.1, u.2.2.2.2.2.2.1, u.2.2.2.2.2.2.2.1, gup u.2.2.2.2.2.2.2.2.1 4 1, u.2.2.2.2.2.2.2.2.2.1, u.2.2.2.2.2.2.2.2.2.2.1, u.2.2.2.2.2.2.2.2.2.2.2.1, u.2.2.2.2.2.2.2.2.2.2.2.2.1, u.2.2.2.2.2.2.2.2.2.2.2.2.2.1, u.2.2.2.2.2.2.2.2.2.2.2.2.2.2) : gU) x ((x.1, gup x.2.1 26 1, x.2.2.1, x.2.2.2.1, x.2.2.2.2.1, x.2.2.2.2.2.1, x.2.2.2.2.2.2.1, x.2.2.2.2.2.2.2.1, x.2.2.2.2.2.2.2.2.1, x.2.2.2.2.2.2.2.2.2.1, x.2.2.2.2.2.2.2.2.2.2.1, x.2.2.2.2.2.2.2.2.2.2.2.1, x.2.2.2.2.2.2.2.2.2.2.2.2.1, x.2.2.2.2.2.2.2.2.2.2.2.2.2.1, x.2.2.2.2.2.2.2.2.2.2.2.2.2.2.1, x.2.2.2.2.2.2.2.2.2.2.2.2.2.2.2) : gX) :=
        ⟨rfl, rfl, rfl, rfl, rfl, rfl, rfl, rfl, rfl, rfl, rfl, rfl, rfl, fun i h _ => gup_ne h, rfl, rfl, rfl, rfl, rfl, rfl, rfl, rfl, rfl, fun h => absurd c0 h⟩
      refine ⟨((u.1, u.2.1, u.2.2.1, u.2.2.2.1, u.2.2.2.2.1, u.2.2.2.2.2.1, u.2.2.2.2.2.2.1, u.2.2.2.2.2.2.2.1, gup u.2.2.2.2.2.2.2.2.1 4 1, u.2.2.2.2.2.2.2.2.2.1, u.2.2.2.2.2.2.2.2.2.2.1, u.2.2.2.2.2.2.2.2.2.2.2.1, u.2.2.2.2.2.2.2.2.2.2.2.2.1, u.2.2.2.2.2.2.2.2.2.2.2.2.2.1, u.2.2.2.2.2.2.2.2.2.2.2.2.2.2) : gU), ((x.1, gup x.2.1 26 1, x.2.2.1, x.2.2.2.1, x.2.2.2.2.1, x.2.2.2.2.2.1, x.2.2.2.2.2.2.1, x.2.2.2.2.2.2.2.1, x.2.2.2.2.2.2.2.2.1, x.2.2.2.2.2.2.2.2.2.1, x.2.2.2.2.2.2.2.2.2.2.1, x.2.2.2.2.2.2.2.2.2.2.2.1, x.2.2.2.2.2.2.2.2.2.2.2.2.1, x.2.2.2.2.2.2.2.2.2.2.2.2.2.1, x.2.2.2.2.2.2.2.2.2.2.2.2.2.2.1, x.2.2.2.2.2.2.2.2.2.2.2.2.2.2.2) : gX), 300, fun y o z => ?_, fun y o z => ?_, ?_, fun h => absurd h d10, B⟩
      · simp only [cW_writeByte, hi_169_4, Option.bind_some, c0, if_true, hr_169_0, ho_170, cB_append, hi_170_1, de, if_neg (show ¬ Int32.ofNat 300 < 300 by decide), hp_169_4]
      · simp only [mM_say, mM_say_22, hi_188_26, Option.bind_some, oc, if_true, hi_188_27, xe, show Int32.ofNat 300 = (300 : Int32) from rfl, hp_188_26, gup_eq, if_neg d10]
      · exact ⟨gT_by W.T B, rfl, Or.inr (Or.inl rfl), fun h => absurd h d10, fun h => absurd h d10, fun h => absurd h d10, fun h => absurd h d10, fun h => absurd h d10, fun h => absurd h d10, fun h => absurd h d10, fun h => absurd h d10⟩
  · have oc : ¬ x.2.1 26 = 0 := fun h => c0 (W.oc.symm.trans h)
    refine ⟨u, x, e, fun y o z => ?_, fun y o z => ?_, W, fun h => absurd h c0, gBy_refl⟩
    · simp only [cW_writeByte, hi_169_4, Option.bind_some, if_neg c0]
    · simp only [mM_say, mM_say_22, hi_188_26, Option.bind_some, if_neg oc]
theorem l_of (v : Int64) : v = Int64.ofNat v.toUInt64.toNat := by
  apply Int64.toBitVec_inj.mp
  show v.toBitVec = (Int64.ofNat v.toBitVec.toNat).toBitVec
  rw [Int64.toBitVec_ofNat', BitVec.ofNat_toNat, BitVec.setWidth_eq]
theorem l_small {v : Int64} (h : v.toUInt64.toNat < 128) : ∃ j, j < 128 ∧ Int64.toInt32 v = Int32.ofNat j :=
  ⟨v.toUInt64.toNat, h, by
    have e := congrArg Int64.toInt32 (l_of v)
    rw [Int64.toInt32_ofNat'] at e
    exact e⟩
theorem l_and (v : Int64) : (v &&& 127).toUInt64.toNat < 128 := by
  rw [Int64.toUInt64_and, UInt64.toNat_and]
  show v.toUInt64.toNat &&& 127 < 128
  rw [show (127 : Nat) = 2 ^ 7 - 1 from rfl, Nat.and_two_pow_sub_one_eq_mod]
  omega
theorem l_b1 (v : Int64) : ∃ j, j < 256 ∧ Int64.toInt32 (v &&& 127) + 128 = Int32.ofNat j := by
  obtain ⟨j, h1, h2⟩ := l_small (l_and v)
  exact ⟨j + 128, by omega, by rw [h2]; exact n_add (b := 128)⟩
theorem l_b0 {v : Int64} (h : v.toUInt64.toNat < 128) : ∃ j, j < 256 ∧ Int64.toInt32 v = Int32.ofNat j := by
  obtain ⟨j, h1, h2⟩ := l_small h
  exact ⟨j, by omega, h2⟩
theorem gl_lt {v : Int64} (h : gl_s v = 0) : v.toUInt64.toNat < 128 := by
  have := gl_nat v
  rw [h] at this
  have h3 : (0 : Int64).toUInt64.toNat = 0 := rfl
  omega
theorem w_lengthyL : ∀ (t f f2 : Nat) (u : gU) (x : gX) (e : Nat) (v : Int64), t ≤ 9 → t < f → t + 1 < f2 → v.toUInt64.toNat < 128 ^ (t + 1) → gW n m p q e g u x → ∃ u' x' e', (∀ y o z, cW_writeLengthy_5 f (some 169) v (Int32.ofNat (10 - t)) (gH u y o z) = some (gH u' y o z)) ∧ (∀ y o z, mM_sayLengthy_5 f2 (some 188) v 1 (gH y x o z) = some (gH y x' o z)) ∧ gW n m p q e' g u' x' ∧ (u'.2.2.2.2.2.2.2.2.1 4 = 0 → e + 1 ≤ e') ∧ gBy u u' x x' := by
  have d10 : ¬ (1 : Int32) = 0 := by decide
  have last : ∀ (t f f2 : Nat) (u : gU) (x : gX) (e : Nat) (v : Int64), t ≤ 9 → 0 < f → 1 < f2 → gl_s v = 0 → gW n m p q e g u x → ∃ u' x' e', (∀ y o z, cW_writeLengthy_5 f (some 169) v (Int32.ofNat (10 - t)) (gH u y o z) = some (gH u' y o z)) ∧ (∀ y o z, mM_sayLengthy_5 f2 (some 188) v 1 (gH y x o z) = some (gH y x' o z)) ∧ gW n m p q e' g u' x' ∧ (u'.2.2.2.2.2.2.2.2.1 4 = 0 → e + 1 ≤ e') ∧ gBy u u' x x' := by
    intro t f f2 u x e v ht hf hf2 hs W
    obtain ⟨f, rfl⟩ : ∃ g, f = g + 1 := ⟨f - 1, by omega⟩
    obtain ⟨f2, rfl⟩ : ∃ g, f2 = g + 2 := ⟨f2 - 2, by omega⟩
    obtain ⟨u', x', e', h1, h2, h3, h4, h5⟩ := w_byte W (l_b0 (gl_lt hs))
    have hs2 := hs
    unfold gl_s at hs
    refine ⟨u', x', e', fun y o z => ?_, fun y o z => ?_, h3, fun q => by have := h4 q; omega, h5⟩
    · rw [cW_writeLengthy_5]
      by_cases c : Int32.ofNat (10 - t) < 10
      · simp only [if_pos c, if_pos hs, cW_writeLengthy_46, ho_169, Option.bind_some, h1]
      · simp only [if_neg c, cW_writeLengthy_46, ho_169, Option.bind_some, h1]
    · rw [mM_sayLengthy_5, if_neg d10, if_pos hs]
      simp only [mM_sayLengthy_37, mM_sayLengthy_53, ho_188, Option.bind_some, gl_and hs2, Int32.add_zero, h2, if_pos hs]
      rw [mM_sayLengthy_5, if_pos rfl]
  intro t
  induction t with
  | zero =>
    intro f f2 u x e v h9 hf hf2 hv W
    exact last 0 f f2 u x e v h9 (by omega) (by omega) (gl_zero (by rw [gl_nat]; omega)) W
  | succ t ih =>
    intro f f2 u x e v h9 hf hf2 hv W
    by_cases hs : gl_s v = 0
    · exact last (t + 1) f f2 u x e v h9 (by omega) (by omega) hs W
    · obtain ⟨f, rfl⟩ : ∃ g, f = g + 1 := ⟨f - 1, by omega⟩
      obtain ⟨f2, rfl⟩ : ∃ g, f2 = g + 1 := ⟨f2 - 1, by omega⟩
      obtain ⟨u1, x1, e1, h1, h2, h3, h4, h5⟩ := w_byte W (l_b1 v)
      obtain ⟨u', x', e', k1, k2, k3, k4, k5⟩ := ih f f2 u1 x1 e1 (gl_s v) (by omega) (by omega) (by omega) (by rw [gl_nat]; rw [Nat.pow_succ] at hv; omega) h3
      have hs2 := hs
      unfold gl_s at hs
      have h10 : Int32.ofNat (10 - (t + 1)) < 10 := n_ltl (m := 10) (by omega) (by omega) (by omega)
      refine ⟨u', x', e', fun y o z => ?_, fun y o z => ?_, k3, fun q => ?_, gBy_trans h5 k5⟩
      · rw [cW_writeLengthy_5, if_pos h10, if_neg hs]
        simp only [ho_169, Option.bind_some, h1, n_succ, show 10 - (t + 1) + 1 = 10 - t by omega]
        exact k1 y o z
      · rw [mM_sayLengthy_5, if_neg d10, if_neg hs]
        simp only [mM_sayLengthy_37, mM_sayLengthy_53, ho_188, Option.bind_some, h2, if_neg hs]
        exact k2 y o z
      · have a1 : u1.2.2.2.2.2.2.2.2.1 4 = 0 := Decidable.byContradiction fun c => by
          have := (k5.dead c).1
          subst this
          exact c q
        have := h4 a1
        have := k4 q
        omega
theorem w_lengthy {v : Int64} (W : gW n m p q e g u x) : ∃ u' x' e', (∀ y o z, cW_writeLengthy (some 169) v (gH u y o z) = some (gH u' y o z)) ∧ (∀ y o z, mM_sayLengthy (some 188) v (gH y x o z) = some (gH y x' o z)) ∧ gW n m p q e' g u' x' ∧ (u'.2.2.2.2.2.2.2.2.1 4 = 0 → e + 1 ≤ e') ∧ gBy u u' x x' :=
  w_lengthyL 9 1000000000000000 1000000000000000 u x e v (by omega) (by omega) (by omega) (by have := v.toUInt64.toNat_lt; omega) W
theorem w_zigzag {v : Int64} (W : gW n m p q e g u x) : ∃ u' x' e', (∀ y o z, cW_writeZigzag (some 169) v (gH u y o z) = some (gH u' y o z)) ∧ (∀ y o z, ((mM_zigzag v).bind fun w => mM_sayLengthy (some 188) w (gH y x o z)) = some (gH y x' o z)) ∧ gW n m p q e' g u' x' ∧ (u'.2.2.2.2.2.2.2.2.1 4 = 0 → e + 1 ≤ e') ∧ gBy u u' x x' := by
  obtain ⟨u', x', e', h1, h2, h3, h4, h5⟩ := w_lengthy (v := (v <<< (Int32.toInt64 (1 : Int32) &&& 63)) ^^^ (v >>> (Int32.toInt64 (63 : Int32) &&& 63))) W
  refine ⟨u', x', e', fun y o z => ?_, fun y o z => ?_, h3, h4, h5⟩
  · simp only [cW_writeZigzag, ho_169, Option.bind_some, h1]
  · simp only [mM_zigzag, Option.bind_some, h2]
end H
