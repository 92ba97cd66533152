section
/-! sevens of bits -/
def gl_s (v : Int64) : Int64 := (Int64.toUInt64 v >>> ((Int32.toInt64 (7 : Int32)).toUInt64 &&& Int64.toUInt64 63)).toInt64
theorem gl_sh7 : ((Int32.toInt64 (7 : Int32)).toUInt64 &&& Int64.toUInt64 63) = 7 := by decide
theorem gl_div (u : UInt64) : (u >>> 7).toNat = u.toNat / 128 := by
  rw [UInt64.toNat_shiftRight, Nat.shiftRight_eq_div_pow]; rfl
theorem gl_nat (v : Int64) : (gl_s v).toUInt64.toNat = v.toUInt64.toNat / 128 := by
  unfold gl_s; rw [gl_sh7]
  have : ((v.toUInt64 >>> 7).toInt64).toUInt64 = v.toUInt64 >>> 7 := by simp
  rw [this, gl_div]
theorem gl_zero {v : Int64} (h : v.toUInt64.toNat = 0) : v = 0 := by
  have h1 : v.toUInt64 = 0 := UInt64.toNat_inj.mp h
  have := congrArg UInt64.toInt64 h1
  simpa using this
theorem gl_and {v : Int64} (h : gl_s v = 0) : v &&& 127 = v := by
  have h2 : v.toUInt64.toNat < 128 := by
    have := gl_nat v
    rw [h] at this
    have h3 : (0 : Int64).toUInt64.toNat = 0 := rfl
    omega
  have h4 : (v &&& 127).toUInt64 = v.toUInt64 := by
    rw [Int64.toUInt64_and]
    apply UInt64.toNat_inj.mp
    rw [UInt64.toNat_and]
    show v.toUInt64.toNat &&& 127 = _
    rw [show (127 : Nat) = 2 ^ 7 - 1 from rfl, Nat.and_two_pow_sub_one_eq_mod]
    omega
  have := congrArg UInt64.toInt64 h4
  simpa using this
end
section
/-! what ties both sides while a value is written -/
abbrev gW  (n m p q e g : Nat) (u : gU) (x : gX) : Prop := (gTi n m p q u x) ∧ (x.2.1 26 = u.2.2.2.2.2.2.2.2.1 4) ∧ (u.2.2.2.2.2.2.2.2.1 4 = 0 ∨ u.2.2.2.2.2.2.2.2.1 4 = 1 ∨ u.2.2.2.2.2.2.2.2.1 4 = 2) ∧ (u.2.2.2.2.2.2.2.2.1 4 = 0 → e ≤ 300) ∧ (u.2.2.2.2.2.2.2.2.1 4 = 0 → g ≤ e) ∧ (u.2.2.2.2.2.2.2.2.1 4 = 0 → u.2.2.2.2.2.2.2.2.2.1 1 = Int32.ofNat e) ∧ (u.2.2.2.2.2.2.2.2.1 4 = 0 → x.2.1 27 = Int32.ofNat e) ∧ (u.2.2.2.2.2.2.2.2.1 4 = 0 → ∀ i, i < e → x.2.2.2.2.2.2.2.2.2.2.2.2.2.1 i = u.2.2.2.2.2.2.2.2.2.2.1 i ∧ ∃ b, b < 256 ∧ u.2.2.2.2.2.2.2.2.2.2.1 i = Int32.ofNat b) ∧ (u.2.2.2.2.2.2.2.2.1 4 = 0 → u.2.2.2.2.2.2.2.2.1 2 = Int32.ofNat g) ∧ (u.2.2.2.2.2.2.2.2.1 4 = 0 → x.2.1 29 = Int32.ofNat g) ∧ (u.2.2.2.2.2.2.2.2.1 4 = 0 → ∀ i, i < 32 → x.2.2.2.2.2.2.2.2.2.2.2.2.2.2.1 i = u.2.2.2.2.2.2.2.2.2.2.2.1 i ∧ (u.2.2.2.2.2.2.2.2.2.2.2.1 i = -1 ∨ ∃ j, j < 1000 ∧ u.2.2.2.2.2.2.2.2.2.2.2.1 i = Int32.ofNat j))
theorem gW.T {n m p q e g : Nat} {u : gU} {x : gX} (h : gW n m p q e g u x) : gTi n m p q u x := h.1
theorem gW.oc {n m p q e g : Nat} {u : gU} {x : gX} (h : gW n m p q e g u x) : x.2.1 26 = u.2.2.2.2.2.2.2.2.1 4 := h.2.1
theorem gW.o2 {n m p q e g : Nat} {u : gU} {x : gX} (h : gW n m p q e g u x) : u.2.2.2.2.2.2.2.2.1 4 = 0 ∨ u.2.2.2.2.2.2.2.2.1 4 = 1 ∨ u.2.2.2.2.2.2.2.2.1 4 = 2 := h.2.2.1
theorem gW.he {n m p q e g : Nat} {u : gU} {x : gX} (h : gW n m p q e g u x) : u.2.2.2.2.2.2.2.2.1 4 = 0 → e ≤ 300 := h.2.2.2.1
theorem gW.hg {n m p q e g : Nat} {u : gU} {x : gX} (h : gW n m p q e g u x) : u.2.2.2.2.2.2.2.2.1 4 = 0 → g ≤ e := h.2.2.2.2.1
theorem gW.dE {n m p q e g : Nat} {u : gU} {x : gX} (h : gW n m p q e g u x) : u.2.2.2.2.2.2.2.2.1 4 = 0 → u.2.2.2.2.2.2.2.2.2.1 1 = Int32.ofNat e := h.2.2.2.2.2.1
theorem gW.xe {n m p q e g : Nat} {u : gU} {x : gX} (h : gW n m p q e g u x) : u.2.2.2.2.2.2.2.2.1 4 = 0 → x.2.1 27 = Int32.ofNat e := h.2.2.2.2.2.2.1
theorem gW.dr {n m p q e g : Nat} {u : gU} {x : gX} (h : gW n m p q e g u x) : u.2.2.2.2.2.2.2.2.1 4 = 0 → ∀ i, i < e → x.2.2.2.2.2.2.2.2.2.2.2.2.2.1 i = u.2.2.2.2.2.2.2.2.2.2.1 i ∧ ∃ b, b < 256 ∧ u.2.2.2.2.2.2.2.2.2.2.1 i = Int32.ofNat b := h.2.2.2.2.2.2.2.1
theorem gW.ug {n m p q e g : Nat} {u : gU} {x : gX} (h : gW n m p q e g u x) : u.2.2.2.2.2.2.2.2.1 4 = 0 → u.2.2.2.2.2.2.2.2.1 2 = Int32.ofNat g := h.2.2.2.2.2.2.2.2.1
theorem gW.xg {n m p q e g : Nat} {u : gU} {x : gX} (h : gW n m p q e g u x) : u.2.2.2.2.2.2.2.2.1 4 = 0 → x.2.1 29 = Int32.ofNat g := h.2.2.2.2.2.2.2.2.2.1
theorem gW.pl {n m p q e g : Nat} {u : gU} {x : gX} (h : gW n m p q e g u x) : u.2.2.2.2.2.2.2.2.1 4 = 0 → ∀ i, i < 32 → x.2.2.2.2.2.2.2.2.2.2.2.2.2.2.1 i = u.2.2.2.2.2.2.2.2.2.2.2.1 i ∧ (u.2.2.2.2.2.2.2.2.2.2.2.1 i = -1 ∨ ∃ j, j < 1000 ∧ u.2.2.2.2.2.2.2.2.2.2.2.1 i = Int32.ofNat j) := h.2.2.2.2.2.2.2.2.2.2
/-- what a write of bytes leaves as it was -/
abbrev gBy  (u u' : gU) (x x' : gX) : Prop := (u'.1 = u.1) ∧ (u'.2.2.2.2.2.2.2.2.2.2.2.2.2.1 = u.2.2.2.2.2.2.2.2.2.2.2.2.2.1) ∧ (u'.2.2.2.2.2.2.2.2.2.2.2.1 = u.2.2.2.2.2.2.2.2.2.2.2.1) ∧ (u'.2.1 = u.2.1) ∧ (u'.2.2.1 = u.2.2.1) ∧ (u'.2.2.2.1 = u.2.2.2.1) ∧ (u'.2.2.2.2.1 = u.2.2.2.2.1) ∧ (u'.2.2.2.2.2.1 = u.2.2.2.2.2.1) ∧ (u'.2.2.2.2.2.2.1 = u.2.2.2.2.2.2.1) ∧ (u'.2.2.2.2.2.2.2.1 = u.2.2.2.2.2.2.2.1) ∧ (u'.2.2.2.2.2.2.2.2.2.2.2.2.2.2 = u.2.2.2.2.2.2.2.2.2.2.2.2.2.2) ∧ (u'.2.2.2.2.2.2.2.2.1 2 = u.2.2.2.2.2.2.2.2.1 2) ∧ (x'.1 = x.1) ∧ (∀ i, ¬ i = 26 → ¬ i = 27 → x'.2.1 i = x.2.1 i) ∧ (x'.2.2.1 = x.2.2.1) ∧ (x'.2.2.2.1 = x.2.2.2.1) ∧ (x'.2.2.2.2.1 = x.2.2.2.2.1) ∧ (x'.2.2.2.2.2.1 = x.2.2.2.2.2.1) ∧ (x'.2.2.2.2.2.2.1 = x.2.2.2.2.2.2.1) ∧ (x'.2.2.2.2.2.2.2.1 = x.2.2.2.2.2.2.2.1) ∧ (x'.2.2.2.2.2.2.2.2.1 = x.2.2.2.2.2.2.2.2.1) ∧ (x'.2.2.2.2.2.2.2.2.2.1 = x.2.2.2.2.2.2.2.2.2.1) ∧ (x'.2.2.2.2.2.2.2.2.2.2.2.2.2.2.1 = x.2.2.2.2.2.2.2.2.2.2.2.2.2.2.1) ∧ (¬ u.2.2.2.2.2.2.2.2.1 4 = 0 → u' = u ∧ x' = x)
theorem gBy.bC {u u' : gU} {x x' : gX} (h : gBy u u' x x') : u'.1 = u.1 := h.1
theorem gBy.bkd {u u' : gU} {x x' : gX} (h : gBy u u' x x') : u'.2.2.2.2.2.2.2.2.2.2.2.2.2.1 = u.2.2.2.2.2.2.2.2.2.2.2.2.2.1 := h.2.1
theorem gBy.b172 {u u' : gU} {x x' : gX} (h : gBy u u' x x') : u'.2.2.2.2.2.2.2.2.2.2.2.1 = u.2.2.2.2.2.2.2.2.2.2.2.1 := h.2.2.1
theorem gBy.u0 {u u' : gU} {x x' : gX} (h : gBy u u' x x') : u'.2.1 = u.2.1 := h.2.2.2.1
theorem gBy.u1 {u u' : gU} {x x' : gX} (h : gBy u u' x x') : u'.2.2.1 = u.2.2.1 := h.2.2.2.2.1
theorem gBy.u3 {u u' : gU} {x x' : gX} (h : gBy u u' x x') : u'.2.2.2.1 = u.2.2.2.1 := h.2.2.2.2.2.1
theorem gBy.u4 {u u' : gU} {x x' : gX} (h : gBy u u' x x') : u'.2.2.2.2.1 = u.2.2.2.2.1 := h.2.2.2.2.2.2.1
theorem gBy.u5 {u u' : gU} {x x' : gX} (h : gBy u u' x x') : u'.2.2.2.2.2.1 = u.2.2.2.2.2.1 := h.2.2.2.2.2.2.2.1
theorem gBy.u6 {u u' : gU} {x x' : gX} (h : gBy u u' x x') : u'.2.2.2.2.2.2.1 = u.2.2.2.2.2.2.1 := h.2.2.2.2.2.2.2.2.1
theorem gBy.u8 {u u' : gU} {x x' : gX} (h : gBy u u' x x') : u'.2.2.2.2.2.2.2.1 = u.2.2.2.2.2.2.2.1 := h.2.2.2.2.2.2.2.2.2.1
theorem gBy.uh {u u' : gU} {x x' : gX} (h : gBy u u' x x') : u'.2.2.2.2.2.2.2.2.2.2.2.2.2.2 = u.2.2.2.2.2.2.2.2.2.2.2.2.2.2 := h.2.2.2.2.2.2.2.2.2.2.1
theorem gBy.p2 {u u' : gU} {x x' : gX} (h : gBy u u' x x') : u'.2.2.2.2.2.2.2.2.1 2 = u.2.2.2.2.2.2.2.2.1 2 := h.2.2.2.2.2.2.2.2.2.2.2.1
theorem gBy.bR {u u' : gU} {x x' : gX} (h : gBy u u' x x') : x'.1 = x.1 := h.2.2.2.2.2.2.2.2.2.2.2.2.1
theorem gBy.b188 {u u' : gU} {x x' : gX} (h : gBy u u' x x') : ∀ i, ¬ i = 26 → ¬ i = 27 → x'.2.1 i = x.2.1 i := h.2.2.2.2.2.2.2.2.2.2.2.2.2.1
theorem gBy.b197 {u u' : gU} {x x' : gX} (h : gBy u u' x x') : x'.2.2.1 = x.2.2.1 := h.2.2.2.2.2.2.2.2.2.2.2.2.2.2.1
theorem gBy.b198 {u u' : gU} {x x' : gX} (h : gBy u u' x x') : x'.2.2.2.1 = x.2.2.2.1 := h.2.2.2.2.2.2.2.2.2.2.2.2.2.2.2.1
theorem gBy.b199 {u u' : gU} {x x' : gX} (h : gBy u u' x x') : x'.2.2.2.2.1 = x.2.2.2.2.1 := h.2.2.2.2.2.2.2.2.2.2.2.2.2.2.2.2.1
theorem gBy.b200 {u u' : gU} {x x' : gX} (h : gBy u u' x x') : x'.2.2.2.2.2.1 = x.2.2.2.2.2.1 := h.2.2.2.2.2.2.2.2.2.2.2.2.2.2.2.2.2.1
theorem gBy.b201 {u u' : gU} {x x' : gX} (h : gBy u u' x x') : x'.2.2.2.2.2.2.1 = x.2.2.2.2.2.2.1 := h.2.2.2.2.2.2.2.2.2.2.2.2.2.2.2.2.2.2.1
theorem gBy.b202 {u u' : gU} {x x' : gX} (h : gBy u u' x x') : x'.2.2.2.2.2.2.2.1 = x.2.2.2.2.2.2.2.1 := h.2.2.2.2.2.2.2.2.2.2.2.2.2.2.2.2.2.2.2.1
theorem gBy.b203 {u u' : gU} {x x' : gX} (h : gBy u u' x x') : x'.2.2.2.2.2.2.2.2.1 = x.2.2.2.2.2.2.2.2.1 := h.2.2.2.2.2.2.2.2.2.2.2.2.2.2.2.2.2.2.2.2.1
theorem gBy.b204 {u u' : gU} {x x' : gX} (h : gBy u u' x x') : x'.2.2.2.2.2.2.2.2.2.1 = x.2.2.2.2.2.2.2.2.2.1 := h.2.2.2.2.2.2.2.2.2.2.2.2.2.2.2.2.2.2.2.2.2.1
theorem gBy.b209 {u u' : gU} {x x' : gX} (h : gBy u u' x x') : x'.2.2.2.2.2.2.2.2.2.2.2.2.2.2.1 = x.2.2.2.2.2.2.2.2.2.2.2.2.2.2.1 := h.2.2.2.2.2.2.2.2.2.2.2.2.2.2.2.2.2.2.2.2.2.2.1
theorem gBy.dead {u u' : gU} {x x' : gX} (h : gBy u u' x x') : ¬ u.2.2.2.2.2.2.2.2.1 4 = 0 → u' = u ∧ x' = x := h.2.2.2.2.2.2.2.2.2.2.2.2.2.2.2.2.2.2.2.2.2.2.2
theorem gBy_refl {u : gU} {x : gX} : gBy u u x x := ⟨rfl, rfl, rfl, rfl, rfl, rfl, rfl, rfl, rfl, rfl, rfl, rfl, rfl, fun _ _ _ => rfl, rfl, rfl, rfl, rfl, rfl, rfl, rfl, rfl, rfl, fun _ => ⟨rfl, rfl⟩⟩
theorem gBy_trans {u u' u2 : gU} {x x' x2 : gX} (h : gBy u u' x x') (k : gBy u' u2 x' x2) : gBy u u2 x x2 :=
  ⟨k.bC.trans h.bC, k.bkd.trans h.bkd, k.b172.trans h.b172, k.u0.trans h.u0, k.u1.trans h.u1, k.u3.trans h.u3, k.u4.trans h.u4, k.u5.trans h.u5, k.u6.trans h.u6, k.u8.trans h.u8, k.uh.trans h.uh, k.p2.trans h.p2, k.bR.trans h.bR, fun i a b => (k.b188 i a b).trans (h.b188 i a b), k.b197.trans h.b197, k.b198.trans h.b198, k.b199.trans h.b199, k.b200.trans h.b200, k.b201.trans h.b201, k.b202.trans h.b202, k.b203.trans h.b203, k.b204.trans h.b204, k.b209.trans h.b209, fun a => by
    obtain ⟨h1, h2⟩ := h.dead a
    subst h1 h2
    exact k.dead a⟩
theorem gT_by {n m p q : Nat} {u u' : gU} {x x' : gX} (T : gTi n m p q u x) (h : gBy u u' x x') : gTi n m p q u' x' := by
  refine ⟨T.hn, by rw [h.u1]; exact T.un, by rw [h.b188 1 (by omega) (by omega)]; exact T.xn, by rw [h.bC, h.bR]; exact T.ob, T.hm, by rw [h.u3]; exact T.um, by rw [h.b188 15 (by omega) (by omega)]; exact T.xm, by rw [h.u4, h.b200]; exact T.bs, by rw [h.u4]; exact T.b8, T.hp, by rw [h.u5]; exact T.up, by rw [h.b188 10 (by omega) (by omega)]; exact T.xp, by rw [h.u6, h.b197]; exact T.pa, by rw [h.u6]; exact T.pb, T.hq, by rw [h.u5]; exact T.uq, by rw [h.b188 12 (by omega) (by omega)]; exact T.xq, by rw [h.u8, h.b198, h.b199, h.uh]; exact T.ho, by rw [h.u0, h.b188 17 (by omega) (by omega)]; exact T.fo⟩
section H
variable {u : gU} {x : gX} {o : Nat → Int64} {z : gx_H} {n m p q e g : Nat}
theorem w_byte {b : Int32} (W : gW n m p q e g u x) (hb : ∃ j, j < 256 ∧ b = Int32.ofNat j) : ∃ u' x' e', (∀ y o z, cW_writeByte (some 169) b (gH u y o z) = some (gH u' y o z)) ∧ (∀ y o z, mM_say (some 188) b (gH y x o z) = some (gH y x' o z)) ∧ gW n m p q e' g u' x' ∧ (u'.2.2.2.2.2.2.2.2.1 4 = 0 → e' = e + 1) ∧ gBy u u' x x' := by
  have d10 : ¬ (1 : Int32) = 0 := by decide
  by_cases c0 : u.2.2.2.2.2.2.2.2.1 4 = 0
  · have he := W.he c0
    have de := W.dE c0
    have xe := W.xe c0
    have oc : x.2.1 26 = 0 := W.oc.trans c0
    by_cases c3 : e < 300
    · have l3 : Int32.ofNat e < 300 := n_ltl (m := 300) (by omega) (by omega) c3
      have n3 : ¬ Int32.ofNat e = 300 := fun q => by have := (n_eq (m := 300) (by omega) (by omega)).mp q; omega
      have B : gBy u ((u.1, u.2.1, u.2.2.1, u.2.2.2.1, u.2.2.2.2.1, u.2.2.2.2.2.1, u.2.2.2.2.2.2.1, u.2.2.2.2.2.2.2.1, u.2.2.2.2.2.2.2.2.1, gup u.2.2.2.2.2.2.2.2.2.1 1 (Int32.ofNat (e + 1)), gup u.2.2.2.2.2.2.2.2.2.2.1 e b, u.2.2.2.2.2.2.2.2.2.2.2.1, u.2.2.2.2.2.2.2.2.2.2.2.2.1, u.2.2.2.2.2.2.2.2.2.2.2.2.2.1, u.2.2.2.2.2.2.2.2.2.2.2.2.2.2) : gU) x ((x.1, gup x.2.1 27 (Int32.ofNat (e + 1)), x.2.2.1, x.2.2.2.1, x.2.2.2.2.1, x.2.2.2.2.2.1, x.2.2.2.2.2.2.1, x.2.2.2.2.2.2.2.1, x.2.2.2.2.2.2.2.2.1, x.2.2.2.2.2.2.2.2.2.1, x.2.2.2.2.2.2.2.2.2.2.1, x.2.2.2.2.2.2.2.2.2.2.2.1, x.2.2.2.2.2.2.2.2.2.2.2.2.1, gup x.2.2.2.2.2.2.2.2.2.2.2.2.2.1 e b, x.2.2.2.2.2.2.2.2.2.2.2.2.2.2.1, x.2.2.2.2.2.2.2.2.2.2.2.2.2.2.2) : gX) :=
        ⟨rfl, rfl, rfl, rfl, rfl, rfl, rfl, rfl, rfl, rfl, rfl, rfl, rfl, fun i _ h => gup_ne h, rfl, rfl, rfl, rfl, rfl, rfl, rfl, rfl, rfl, fun h => absurd c0 h⟩
      refine ⟨((u.1, u.2.1, u.2.2.1, u.2.2.2.1, u.2.2.2.2.1, u.2.2.2.2.2.1, u.2.2.2.2.2.2.1, u.2.2.2.2.2.2.2.1, u.2.2.2.2.2.2.2.2.1, gup u.2.2.2.2.2.2.2.2.2.1 1 (Int32.ofNat (e + 1)), gup u.2.2.2.2.2.2.2.2.2.2.1 e b, u.2.2.2.2.2.2.2.2.2.2.2.1, u.2.2.2.2.2.2.2.2.2.2.2.2.1, u.2.2.2.2.2.2.2.2.2.2.2.2.2.1, u.2.2.2.2.2.2.2.2.2.2.2.2.2.2) : gU), ((x.1, gup x.2.1 27 (Int32.ofNat (e + 1)), x.2.2.1, x.2.2.2.1, x.2.2.2.2.1, x.2.2.2.2.2.1, x.2.2.2.2.2.2.1, x.2.2.2.2.2.2.2.1, x.2.2.2.2.2.2.2.2.1, x.2.2.2.2.2.2.2.2.2.1, x.2.2.2.2.2.2.2.2.2.2.1, x.2.2.2.2.2.2.2.2.2.2.2.1, x.2.2.2.2.2.2.2.2.2.2.2.2.1, gup x.2.2.2.2.2.2.2.2.2.2.2.2.2.1 e b, x.2.2.2.2.2.2.2.2.2.2.2.2.2.2.1, x.2.2.2.2.2.2.2.2.2.2.2.2.2.2.2) : gX), e + 1, fun y o z => ?_, fun y o z => ?_, ?_, fun _ => rfl, B⟩
      · simp only [cW_writeByte, hi_169_4, Option.bind_some, c0, if_true, hr_169_0, ho_170, cB_append, hi_170_1, de, if_pos l3, hr_170_0, hb_171 c3, hp_170_1, n_succ, if_neg d10]
      · simp only [mM_say, mM_say_22, hi_188_26, Option.bind_some, oc, if_true, hi_188_27, xe, if_neg n3, hr_188_28, hb_208 c3, hp_188_27, n_succ]
      · refine ⟨gT_by W.T B, W.oc, W.o2, fun _ => by omega, fun _ => by have := W.hg c0; omega, fun _ => rfl, fun _ => rfl, fun _ i hi => ?_, W.ug, W.xg, W.pl⟩
        show gup x.2.2.2.2.2.2.2.2.2.2.2.2.2.1 e b i = gup u.2.2.2.2.2.2.2.2.2.2.1 e b i ∧ ∃ j, j < 256 ∧ gup u.2.2.2.2.2.2.2.2.2.2.1 e b i = Int32.ofNat j
        by_cases c : i = e
        · subst c; rw [gup_eq, gup_eq]; exact ⟨rfl, hb⟩
        · rw [gup_ne c, gup_ne c]; exact W.dr c0 i (by omega)
    · obtain rfl : e = 300 := by omega
      have B : gBy u ((u.1, u.2.1, u.2.2.1, u.2.2.2.1, u.2.2.2.2.1, u.2.2.2.2.2.1, u.2.2.2.2.2.2.1, u.2.2.2.2.2.2.2.1, gup u.2.2.2.2.2.2.2.2.1 4 1, u.2.2.2.2.2.2.2.2.2.1, u.2.2.2.2.2.2.2.2.2.2.1, u.2.2.2.2.2.2.2.2.2.2.2.1, u.2.2.2.2.2.2.2.2.2.2.2.2.1, u.2.2.2.2.2.2.2.2.2.2.2.2.2.1, u.2.2.2.2.2.2.2.2.2.2.2.2.2.2) : gU) x ((x.1, gup x.2.1 26 1, x.2.2.1, x.2.2.2.1, x.2.2.2.2.1, x.2.2.2.2.2.1, x.2.2.2.2.2.2.1, x.2.2.2.2.2.2.2.1, x.2.2.2.2.2.2.2.2.1, x.2.2.2.2.2.2.2.2.2.1, x.2.2.2.2.2.2.2.2.2.2.1, x.2.2.2.2.2.2.2.2.2.2.2.1, x.2.2.2.2.2.2.2.2.2.2.2.2.1, x.2.2.2.2.2.2.2.2.2.2.2.2.2.1, x.2.2.2.2.2.2.2.2.2.2.2.2.2.2.1, x.2.2.2.2.2.2.2.2.2.2.2.2.2.2.2) : gX) :=
        ⟨rfl, rfl, rfl, rfl, rfl, rfl, rfl, rfl, rfl, rfl, rfl, rfl, rfl, fun i h _ => gup_ne h, rfl, rfl, rfl, rfl, rfl, rfl, rfl, rfl, rfl, fun h => absurd c0 h⟩
      refine ⟨((u.1, u.2.1, u.2.2.1, u.2.2.2.1, u.2.2.2.2.1, u.2.2.2.2.2.1, u.2.2.2.2.2.2.1, u.2.2.2.2.2.2.2.1, gup u.2.2.2.2.2.2.2.2.1 4 1, u.2.2.2.2.2.2.2.2.2.1, u.2.2.2.2.2.2.2.2.2.2.1, u.2.2.2.2.2.2.2.2.2.2.2.1, u.2.2.2.2.2.2.2.2.2.2.2.2.1, u.2.2.2.2.2.2.2.2.2.2.2.2.2.1, u.2.2.2.2.2.2.2.2.2.2.2.2.2.2) : gU), ((x.1, gup x.2.1 26 1, x.2.2.1, x.2.2.2.1, x.2.2.2.2.1, x.2.2.2.2.2.1, x.2.2.2.2.2.2.1, x.2.2.2.2.2.2.2.1, x.2.2.2.2.2.2.2.2.1, x.2.2.2.2.2.2.2.2.2.1, x.2.2.2.2.2.2.2.2.2.2.1, x.2.2.2.2.2.2.2.2.2.2.2.1, x.2.2.2.2.2.2.2.2.2.2.2.2.1, x.2.2.2.2.2.2.2.2.2.2.2.2.2.1, x.2.2.2.2.2.2.2.2.2.2.2.2.2.2.1, x.2.2.2.2.2.2.2.2.2.2.2.2.2.2.2) : gX), 300, fun y o z => ?_, fun y o z => ?_, ?_, fun h => absurd h d10, B⟩
      · simp only [cW_writeByte, hi_169_4, Option.bind_some, c0, if_true, hr_169_0, ho_170, cB_append, hi_170_1, de, if_neg (show ¬ Int32.ofNat 300 < 300 by decide), hp_169_4]
      · simp only [mM_say, mM_say_22, hi_188_26, Option.bind_some, oc, if_true, hi_188_27, xe, show Int32.ofNat 300 = (300 : Int32) from rfl, hp_188_26, gup_eq, if_neg d10]
      · exact ⟨gT_by W.T B, rfl, Or.inr (Or.inl rfl), fun h => absurd h d10, fun h => absurd h d10, fun h => absurd h d10, fun h => absurd h d10, fun h => absurd h d10, fun h => absurd h d10, fun h => absurd h d10, fun h => absurd h d10⟩
  · have oc : ¬ x.2.1 26 = 0 := fun h => c0 (W.oc.symm.trans h)
    refine ⟨u, x, e, fun y o z => ?_, fun y o z => ?_, W, fun h => absurd h c0, gBy_refl⟩
    · simp only [cW_writeByte, hi_169_4, Option.bind_some, if_neg c0]
    · simp only [mM_say, mM_say_22, hi_188_26, Option.bind_some, if_neg oc]
theorem l_of (v : Int64) : v = Int64.ofNat v.toUInt64.toNat := by
  apply Int64.toBitVec_inj.mp
  show v.toBitVec = (Int64.ofNat v.toBitVec.toNat).toBitVec
  rw [Int64.toBitVec_ofNat', BitVec.ofNat_toNat, BitVec.setWidth_eq]
theorem l_small {v : Int64} (h : v.toUInt64.toNat < 128) : ∃ j, j < 128 ∧ Int64.toInt32 v = Int32.ofNat j :=
  ⟨v.toUInt64.toNat, h, by
    have e := congrArg Int64.toInt32 (l_of v)
    rw [Int64.toInt32_ofNat'] at e
    exact e⟩
theorem l_and (v : Int64) : (v &&& 127).toUInt64.toNat < 128 := by
  rw [Int64.toUInt64_and, UInt64.toNat_and]
  show v.toUInt64.toNat &&& 127 < 128
  rw [show (127 : Nat) = 2 ^ 7 - 1 from rfl, Nat.and_two_pow_sub_one_eq_mod]
  omega
theorem l_b1 (v : Int64) : ∃ j, j < 256 ∧ Int64.toInt32 (v &&& 127) + 128 = Int32.ofNat j := by
  obtain ⟨j, h1, h2⟩ := l_small (l_and v)
  exact ⟨j + 128, by omega, by rw [h2]; exact n_add (b := 128)⟩
theorem l_b0 {v : Int64} (h : v.toUInt64.toNat < 128) : ∃ j, j < 256 ∧ Int64.toInt32 v = Int32.ofNat j := by
  obtain ⟨j, h1, h2⟩ := l_small h
  exact ⟨j, by omega, h2⟩
theorem gl_lt {v : Int64} (h : gl_s v = 0) : v.toUInt64.toNat < 128 := by
  have := gl_nat v
  rw [h] at this
  have h3 : (0 : Int64).toUInt64.toNat = 0 := rfl
  omega
theorem w_lengthyL : ∀ (t f f2 : Nat) (u : gU) (x : gX) (e : Nat) (v : Int64), t ≤ 9 → t < f → t + 1 < f2 → v.toUInt64.toNat < 128 ^ (t + 1) → gW n m p q e g u x → ∃ u' x' e', (∀ y o z, cW_writeLengthy_5 f (some 169) v (Int32.ofNat (10 - t)) (gH u y o z) = some (gH u' y o z)) ∧ (∀ y o z, mM_sayLengthy_5 f2 (some 188) v 1 (gH y x o z) = some (gH y x' o z)) ∧ gW n m p q e' g u' x' ∧ (u'.2.2.2.2.2.2.2.2.1 4 = 0 → e + 1 ≤ e') ∧ gBy u u' x x' := by
  have d10 : ¬ (1 : Int32) = 0 := by decide
  have last : ∀ (t f f2 : Nat) (u : gU) (x : gX) (e : Nat) (v : Int64), t ≤ 9 → 0 < f → 1 < f2 → gl_s v = 0 → gW n m p q e g u x → ∃ u' x' e', (∀ y o z, cW_writeLengthy_5 f (some 169) v (Int32.ofNat (10 - t)) (gH u y o z) = some (gH u' y o z)) ∧ (∀ y o z, mM_sayLengthy_5 f2 (some 188) v 1 (gH y x o z) = some (gH y x' o z)) ∧ gW n m p q e' g u' x' ∧ (u'.2.2.2.2.2.2.2.2.1 4 = 0 → e + 1 ≤ e') ∧ gBy u u' x x' := by
    intro t f f2 u x e v ht hf hf2 hs W
    obtain ⟨f, rfl⟩ : ∃ g, f = g + 1 := ⟨f - 1, by omega⟩
    obtain ⟨f2, rfl⟩ : ∃ g, f2 = g + 2 := ⟨f2 - 2, by omega⟩
    obtain ⟨u', x', e', h1, h2, h3, h4, h5⟩ := w_byte W (l_b0 (gl_lt hs))
    have hs2 := hs
    unfold gl_s at hs
    refine ⟨u', x', e', fun y o z => ?_, fun y o z => ?_, h3, fun q => by have := h4 q; omega, h5⟩
    · rw [cW_writeLengthy_5]
      by_cases c : Int32.ofNat (10 - t) < 10
      · simp only [if_pos c, if_pos hs, cW_writeLengthy_46, ho_169, Option.bind_some, h1]
      · simp only [if_neg c, cW_writeLengthy_46, ho_169, Option.bind_some, h1]
    · rw [mM_sayLengthy_5, if_neg d10, if_pos hs]
      simp only [mM_sayLengthy_37, mM_sayLengthy_53, ho_188, Option.bind_some, gl_and hs2, Int32.add_zero, h2, if_pos hs]
      rw [mM_sayLengthy_5, if_pos rfl]
  intro t
  induction t with
  | zero =>
    intro f f2 u x e v h9 hf hf2 hv W
    exact last 0 f f2 u x e v h9 (by omega) (by omega) (gl_zero (by rw [gl_nat]; omega)) W
  | succ t ih =>
    intro f f2 u x e v h9 hf hf2 hv W
    by_cases hs : gl_s v = 0
    · exact last (t + 1) f f2 u x e v h9 (by omega) (by omega) hs W
    · obtain ⟨f, rfl⟩ : ∃ g, f = g + 1 := ⟨f - 1, by omega⟩
      obtain ⟨f2, rfl⟩ : ∃ g, f2 = g + 1 := ⟨f2 - 1, by omega⟩
      obtain ⟨u1, x1, e1, h1, h2, h3, h4, h5⟩ := w_byte W (l_b1 v)
      obtain ⟨u', x', e', k1, k2, k3, k4, k5⟩ := ih f f2 u1 x1 e1 (gl_s v) (by omega) (by omega) (by omega) (by rw [gl_nat]; rw [Nat.pow_succ] at hv; omega) h3
      have hs2 := hs
      unfold gl_s at hs
      have h10 : Int32.ofNat (10 - (t + 1)) < 10 := n_ltl (m := 10) (by omega) (by omega) (by omega)
      refine ⟨u', x', e', fun y o z => ?_, fun y o z => ?_, k3, fun q => ?_, gBy_trans h5 k5⟩
      · rw [cW_writeLengthy_5, if_pos h10, if_neg hs]
        simp only [ho_169, Option.bind_some, h1, n_succ, show 10 - (t + 1) + 1 = 10 - t by omega]
        exact k1 y o z
      · rw [mM_sayLengthy_5, if_neg d10, if_neg hs]
        simp only [mM_sayLengthy_37, mM_sayLengthy_53, ho_188, Option.bind_some, h2, if_neg hs]
        exact k2 y o z
      · have a1 : u1.2.2.2.2.2.2.2.2.1 4 = 0 := Decidable.byContradiction fun c => by
          have := (k5.dead c).1
          subst this
          exact c q
        have := h4 a1
        have := k4 q
        omega
theorem w_lengthy {v : Int64} (W : gW n m p q e g u x) : ∃ u' x' e', (∀ y o z, cW_writeLengthy (some 169) v (gH u y o z) = some (gH u' y o z)) ∧ (∀ y o z, mM_sayLengthy (some 188) v (gH y x o z) = some (gH y x' o z)) ∧ gW n m p q e' g u' x' ∧ (u'.2.2.2.2.2.2.2.2.1 4 = 0 → e + 1 ≤ e') ∧ gBy u u' x x' :=
  w_lengthyL 9 1000000000000000 1000000000000000 u x e v (by omega) (by omega) (by omega) (by have := v.toUInt64.toNat_lt; omega) W
theorem w_zigzag {v : Int64} (W : gW n m p q e g u x) : ∃ u' x' e', (∀ y o z, cW_writeZigzag (some 169) v (gH u y o z) = some (gH u' y o z)) ∧ (∀ y o z, ((mM_zigzag v).bind fun w => mM_sayLengthy (some 188) w (gH y x o z)) = some (gH y x' o z)) ∧ gW n m p q e' g u' x' ∧ (u'.2.2.2.2.2.2.2.2.1 4 = 0 → e + 1 ≤ e') ∧ gBy u u' x x' := by
  obtain ⟨u', x', e', h1, h2, h3, h4, h5⟩ := w_lengthy (v := (v <<< (Int32.toInt64 (1 : Int32) &&& 63)) ^^^ (v >>> (Int32.toInt64 (63 : Int32) &&& 63))) W
  refine ⟨u', x', e', fun y o z => ?_, fun y o z => ?_, h3, h4, h5⟩
  · simp only [cW_writeZigzag, ho_169, Option.bind_some, h1]
  · simp only [mM_zigzag, Option.bind_some, h2]
end H
end
section
/-! values that are no objects -/
def gt_L (v : Int32) : Int32 := if gt_b v 0 = 0 then 0 else if gt_b v 1 = 0 then 1 else if gt_b v 2 = 0 then 2 else if gt_b v 3 = 0 then 3 else 4
theorem gt_Ln (v : Int32) : ∃ l, l ≤ 4 ∧ gt_L v = Int32.ofNat l := by
  unfold gt_L
  repeat' split
  · exact ⟨0, by omega, rfl⟩
  · exact ⟨1, by omega, rfl⟩
  · exact ⟨2, by omega, rfl⟩
  · exact ⟨3, by omega, rfl⟩
  · exact ⟨4, by omega, rfl⟩
theorem c_textLength {v : Int32} : cW_textLength v = some (gt_L v) := by
  unfold cW_textLength gt_L
  by_cases c0 : gt_b v 0 = 0 <;> by_cases c1 : gt_b v 1 = 0 <;> by_cases c2 : gt_b v 2 = 0 <;> by_cases c3 : gt_b v 3 = 0 <;>
    simp [cW_textLength_2, cW_textLength, c0, c1, c2, c3, c_byteOf]
theorem m_textLength {v : Int32} : mM_textLength v = some (gt_L v) := by
  unfold mM_textLength gt_L
  by_cases c0 : gt_b v 0 = 0 <;> by_cases c1 : gt_b v 1 = 0 <;> by_cases c2 : gt_b v 2 = 0 <;> by_cases c3 : gt_b v 3 = 0 <;>
    (simp only [c0, c1, c2, c3]
     unfold gt_b at c0 c1 c2 c3
     simp at c0 c1 c2 c3
     simp [mM_textLength_2, mM_textLength, c0, c1, c2, c3])
section H
variable {u : gU} {x : gX} {o : Nat → Int64} {z : gx_H} {n m p q e g : Nat}
theorem w_textL {v : Int32} {l : Nat} (hl : l ≤ 4) (hv : gt_L v = Int32.ofNat l) : ∀ (t i f f2 : Nat) (u : gU) (x : gX) (e : Nat), i + t = l → gW n m p q e g u x → ∃ u' x' e', (∀ y o z, cW_writeWord_8 (f + t + 1) (some 169) (Int32.toInt64 v) (Int32.ofNat l) (Int32.ofNat i) (gH u y o z) = some (gH u' y o z)) ∧ (∀ y o z, mM_sayValue_80 (f2 + t + 1) (some 188) v (Int32.ofNat i) (gH y x o z) = some (gH y x' o z)) ∧ gW n m p q e' g u' x' ∧ (u'.2.2.2.2.2.2.2.2.1 4 = 0 → e ≤ e') ∧ gBy u u' x x' := by
  intro t
  induction t with
  | zero =>
    intro i f f2 u x e h W
    refine ⟨u, x, e, fun y o z => ?_, fun y o z => ?_, W, fun _ => Nat.le_refl _, gBy_refl⟩
    · rw [cW_writeWord_8, if_neg (n_nltl (by omega) (by omega) (by omega))]
    · rw [mM_sayValue_80, m_textLength, Option.bind_some, hv, if_neg (n_nltl (by omega) (by omega) (by omega))]
  | succ t ih =>
    intro i f f2 u x e h W
    have hi : Int32.ofNat i = 0 ∨ Int32.ofNat i = 1 ∨ Int32.ofNat i = 2 ∨ Int32.ofNat i = 3 := by
      rcases (by omega : i = 0 ∨ i = 1 ∨ i = 2 ∨ i = 3) with rfl | rfl | rfl | rfl
      · exact Or.inl rfl
      · exact Or.inr (Or.inl rfl)
      · exact Or.inr (Or.inr (Or.inl rfl))
      · exact Or.inr (Or.inr (Or.inr rfl))
    obtain ⟨u1, x1, e1, h1, h2, h3, h4, h5⟩ := w_byte (b := gt_b v (Int32.ofNat i)) W (n_255 _)
    obtain ⟨u', x', e', k1, k2, k3, k4, k5⟩ := ih (i + 1) f f2 u1 x1 e1 (by omega) h3
    refine ⟨u', x', e', fun y o z => ?_, fun y o z => ?_, k3, fun q => ?_, gBy_trans h5 k5⟩
    · rw [show f + (t + 1) + 1 = (f + t + 1) + 1 by omega, cW_writeWord_8, if_pos (n_ltl (by omega) (by omega) (by omega)), c_byteOf hi, Option.bind_some, ho_169, Option.bind_some, h1, Option.bind_some, n_succ]
      exact k1 y o z
    · rw [show f2 + (t + 1) + 1 = (f2 + t + 1) + 1 by omega, mM_sayValue_80, m_textLength, Option.bind_some, hv, if_pos (n_ltl (by omega) (by omega) (by omega)), ho_188, Option.bind_some]
      have := h2 y o z
      unfold gt_b at this
      rw [this, Option.bind_some, n_succ]
      exact k2 y o z
    · have a1 : u1.2.2.2.2.2.2.2.2.1 4 = 0 := Decidable.byContradiction fun c => by
        have := (k5.dead c).1
        subst this
        exact c q
      have := h4 a1
      have := k4 q
      omega
/-- a buffer's bytes -/
theorem w_bufL {w : Int64} {k l : Nat} (hk : k < 32) (hl : l ≤ 8) : ∀ (t i f f2 : Nat) (u : gU) (x : gX) (e : Nat), i + t = l → (x.1 k).2.2.2.2.2.1 = Int32.ofNat l → (∀ j, j < l → (x.1 k).2.2.2.1 j = gt_w w j) → gW n m p q e g u x → ∃ u' x' e', (∀ y o z, cW_writeWord_8 (f + t + 1) (some 169) w (Int32.ofNat l) (Int32.ofNat i) (gH u y o z) = some (gH u' y o z)) ∧ (∀ y o z, mM_sayObject_122 (f2 + t + 1) (some 188) (Int32.ofNat k) 4 (Int32.ofNat i) (gH y x o z) = some (gH y x' o z)) ∧ gW n m p q e' g u' x' ∧ (u'.2.2.2.2.2.2.2.2.1 4 = 0 → e ≤ e') ∧ gBy u u' x x' := by
  intro t
  induction t with
  | zero =>
    intro i f f2 u x e h hc hw W
    refine ⟨u, x, e, fun y o z => ?_, fun y o z => ?_, W, fun _ => Nat.le_refl _, gBy_refl⟩
    · rw [cW_writeWord_8, if_neg (n_nltl (by omega) (by omega) (by omega))]
    · rw [mM_sayObject_122, hr_188_3, Option.bind_some, ha_190 hk, Option.bind_some, hc, if_neg (n_nltl (by omega) (by omega) (by omega))]
      rfl
  | succ t ih =>
    intro i f f2 u x e h hc hw W
    obtain ⟨u1, x1, e1, h1, h2, h3, h4, h5⟩ := w_byte (b := gt_w w i) W (gt_w8 w i)
    obtain ⟨u', x', e', k1, k2, k3, k4, k5⟩ := ih (i + 1) f f2 u1 x1 e1 (by omega) (by rw [h5.bR]; exact hc) (by rw [h5.bR]; exact hw) h3
    refine ⟨u', x', e', fun y o z => ?_, fun y o z => ?_, k3, fun q => ?_, gBy_trans h5 k5⟩
    · rw [show f + (t + 1) + 1 = (f + t + 1) + 1 by omega, cW_writeWord_8, if_pos (n_ltl (by omega) (by omega) (by omega)), k_byteOf, Option.bind_some, ho_169, Option.bind_some, h1, Option.bind_some, n_succ]
      exact k1 y o z
    · rw [show f2 + (t + 1) + 1 = (f2 + t + 1) + 1 by omega, mM_sayObject_122, hr_188_3, Option.bind_some, ha_190 hk, Option.bind_some, hc, if_pos (n_ltl (by omega) (by omega) (by omega)), if_pos rfl, hr_188_9, Option.bind_some, n_8, ha_196 hk (by omega), Option.bind_some, hw i (by omega), ho_188, Option.bind_some, h2, Option.bind_some, n_succ]
      exact k2 y o z
    · have a1 : u1.2.2.2.2.2.2.2.2.1 4 = 0 := Decidable.byContradiction fun c => by
        have := (k5.dead c).1
        subst this
        exact c q
      have := h4 a1
      have := k4 q
      omega
/-- the outcome that a write of bytes leaves at 0 was 0 -/
theorem gBy_0 {u u' : gU} {x x' : gX} (h : gBy u u' x x') (q : u'.2.2.2.2.2.2.2.2.1 4 = 0) : u.2.2.2.2.2.2.2.2.1 4 = 0 :=
  Decidable.byContradiction fun c => by
    have := (h.dead c).1
    subst this
    exact c q
theorem w_prim {D j F : Nat} {v : Int32} (W : gW n m p q e g u x) (c0 : u.2.2.2.2.2.2.2.2.1 4 = 0) (hD : D + 1 ≤ 12) (hp : x.2.1 18 = Int32.ofNat D) (hj : j ≤ 5) : ∃ u' x' e', (∀ y o z, cW_writeValue (F + 1) (some 169) (some 1) (some 165) (Int32.ofNat j) v (Int32.ofNat (D + 1)) (gH u y o z) = some (gH u' y o z)) ∧ (∀ y o z, mM_sayValue (some 188) (Int32.ofNat j) v (gH y x o z) = some (gH y x' o z)) ∧ gW n m p q e' g u' x' ∧ (u'.2.2.2.2.2.2.2.2.1 4 = 0 → e + 1 ≤ e') ∧ gBy u u' x x' := by
  have l12 : ¬ (12 : Int32) < Int32.ofNat (D + 1) := n_nltl (n := 12) (by omega) (by omega) (by omega)
  obtain ⟨_, e6, e7, _, _, _, _, e4, e5⟩ := n_s6 j (by omega)
  have j6 : ¬ j = 6 := by omega
  have j7 : ¬ j = 7 := by omega
  have j3 : (Int32.ofNat j < 4) ↔ j < 4 := n_lt (m := 4) (by omega) (by omega)
  obtain ⟨u1, x1, e1, h1, h2, h3, h4, h5⟩ := w_byte (b := Int32.ofNat j) W ⟨j, by omega, rfl⟩
  by_cases j4 : j = 4
  · obtain ⟨u', x', e', k1, k2, k3, k4, k5⟩ := w_zigzag (v := Int32.toInt64 v) h3
    refine ⟨u', x', e', fun y o z => ?_, fun y o z => ?_, k3, fun q => ?_, gBy_trans h5 k5⟩
    · rw [cW_writeValue]
      simp only [hi_169_4, Option.bind_some, c0, if_true, if_neg l12, e6, e7, if_neg j6, if_neg j7, ho_169, h1, e4, if_pos j4, k1]
    · simp only [mM_sayValue, hi_188_18, Option.bind_some, hp, n_succ, if_neg l12, e7, if_neg j7, j3, e4, if_pos j4, show ¬ j < 4 by omega, if_false, ho_188]
      have h2' := h2 y o z
      rw [show Int32.ofNat j = 4 from e4.mpr j4] at h2'
      rw [h2', Option.bind_some]
      have := k2 y o z
      simp only [mM_zigzag, Option.bind_some] at this ⊢
      rw [ho_188, Option.bind_some, this]
      rfl
    · have := h4 (gBy_0 k5 q); have := k4 q; omega
  · by_cases j5 : j = 5
    · obtain ⟨l, hl, hv⟩ := gt_Ln v
      obtain ⟨u2, x2, e2, a1, a2, a3, a4, a5⟩ := w_byte (b := Int32.ofNat l) h3 ⟨l, by omega, rfl⟩
      obtain ⟨u', x', e', k1, k2, k3, k4, k5⟩ := w_textL hl hv l 0 (1000000000000000 - l - 1) (1000000000000000 - l - 1) u2 x2 e2 (by omega) a3
      rw [show 1000000000000000 - l - 1 + l + 1 = 1000000000000000 by omega] at k1 k2
      refine ⟨u', x', e', fun y o z => ?_, fun y o z => ?_, k3, fun q => ?_, gBy_trans h5 (gBy_trans a5 k5)⟩
      · rw [cW_writeValue]
        simp only [hi_169_4, Option.bind_some, c0, if_true, if_neg l12, e6, e7, if_neg j6, if_neg j7, ho_169, h1, e4, if_neg j4, e5, if_pos j5, c_textLength, hv, cW_writeWord, a1]
        have := k1 y o z
        rw [show Int32.ofNat 0 = (0 : Int32) from rfl] at this
        rw [this]
        rfl
      · simp only [mM_sayValue, hi_188_18, Option.bind_some, hp, n_succ, if_neg l12, e7, if_neg j7, j3, e4, if_neg j4, e5, if_pos j5, show ¬ j < 4 by omega, if_false, ho_188]
        have h2' := h2 y o z
        rw [show Int32.ofNat j = 5 from e5.mpr j5] at h2'
        rw [h2', Option.bind_some, m_textLength, Option.bind_some, ho_188, Option.bind_some, hv, a2, Option.bind_some]
        exact k2 y o z
      · have := h4 (gBy_0 a5 (gBy_0 k5 q)); have := a4 (gBy_0 k5 q); have := k4 q; omega
    · refine ⟨u1, x1, e1, fun y o z => ?_, fun y o z => ?_, h3, fun q => by have := h4 q; omega, h5⟩
      · rw [cW_writeValue]
        simp only [hi_169_4, Option.bind_some, c0, if_true, if_neg l12, e6, e7, if_neg j6, if_neg j7, ho_169, h1, e4, if_neg j4, e5, if_neg j5]
      · simp only [mM_sayValue, hi_188_18, Option.bind_some, hp, n_succ, if_neg l12, e7, if_neg j7, j3, show j < 4 by omega, if_true, ho_188, h2]
end H
end
section
/-! the class goes down, the reference has its pile: runs of the reference's loop, what they leave as it was -/
abbrev gWf := Option Nat → Option Nat → Option Nat → Int32 → Int32 → Int32 → gx_H → Option gx_H
def gRun (B : Nat) (x x' : gX) : Prop := ∃ K, K ≤ B ∧ ∀ N y o z, mM_write_80 (N + K) (some 188) (gH y x o z) = mM_write_80 N (some 188) (gH y x' o z)
theorem gRun_refl {x : gX} : gRun 0 x x := ⟨0, by omega, fun _ _ _ _ => rfl⟩
theorem gRun_mono {B B2 : Nat} {x x' : gX} (h : gRun B x x') (hb : B ≤ B2) : gRun B2 x x' := by
  obtain ⟨K, h1, h2⟩ := h
  exact ⟨K, by omega, h2⟩
theorem gRun_trans {B B2 : Nat} {x x' x2 : gX} (h : gRun B x x') (k : gRun B2 x' x2) : gRun (B + B2) x x2 := by
  obtain ⟨K, h1, h2⟩ := h
  obtain ⟨L, k1, k2⟩ := k
  refine ⟨L + K, by omega, fun N y o z => ?_⟩
  rw [show N + (L + K) = N + L + K by omega, h2, k2]
theorem gRun_step {D : Nat} {x x' : gX} (h0 : x.2.1 26 = 0) (h1 : x.2.1 18 = Int32.ofNat (D + 1)) (hD : D < 14) (h : ∀ y o z, mM_sayNext (some 188) (gH y x o z) = some (gH y x' o z)) : gRun 1 x x' := by
  refine ⟨1, by omega, fun N y o z => ?_⟩
  have pz : (0 : Int32) < Int32.ofNat (D + 1) := n_ltl (n := 0) (by omega) (by omega) (by omega)
  rw [mM_write_80]
  simp only [hi_188_26, Option.bind_some, h0, if_true, hi_188_18, h1, if_pos pz, ho_188, h]
abbrev gFr  (D : Nat) (u u' : gU) (x x' : gX) : Prop := (∀ i, i ≤ D → u'.2.2.2.2.2.2.2.2.2.2.2.2.2.1 i = u.2.2.2.2.2.2.2.2.2.2.2.2.2.1 i) ∧ (∀ k, (u'.1 k).2.2.2.2.1 4 = (u.1 k).2.2.2.2.1 4) ∧ (∀ k, ¬ (u.1 k).2.2.2.2.1 4 = 0 → (u'.1 k).2.2.2.2.1 5 = (u.1 k).2.2.2.2.1 5) ∧ (∀ i, i < D → x'.2.2.2.2.2.2.1 i = x.2.2.2.2.2.2.1 i ∧ x'.2.2.2.2.2.2.2.1 i = x.2.2.2.2.2.2.2.1 i ∧ x'.2.2.2.2.2.2.2.2.1 i = x.2.2.2.2.2.2.2.2.1 i) ∧ (∀ j, j < 6 * D → x'.2.2.2.2.2.2.2.2.2.1 j = x.2.2.2.2.2.2.2.2.2.1 j) ∧ (u'.2.2.2.2.2.2.1 = u.2.2.2.2.2.2.1)
theorem gFr.fkd {D : Nat} {u u' : gU} {x x' : gX} (h : gFr D u u' x x') : ∀ i, i ≤ D → u'.2.2.2.2.2.2.2.2.2.2.2.2.2.1 i = u.2.2.2.2.2.2.2.2.2.2.2.2.2.1 i := h.1
theorem gFr.so {D : Nat} {u u' : gU} {x x' : gX} (h : gFr D u u' x x') : ∀ k, (u'.1 k).2.2.2.2.1 4 = (u.1 k).2.2.2.2.1 4 := h.2.1
theorem gFr.fct {D : Nat} {u u' : gU} {x x' : gX} (h : gFr D u u' x x') : ∀ k, ¬ (u.1 k).2.2.2.2.1 4 = 0 → (u'.1 k).2.2.2.2.1 5 = (u.1 k).2.2.2.2.1 5 := h.2.2.1
theorem gFr.pi {D : Nat} {u u' : gU} {x x' : gX} (h : gFr D u u' x x') : ∀ i, i < D → x'.2.2.2.2.2.2.1 i = x.2.2.2.2.2.2.1 i ∧ x'.2.2.2.2.2.2.2.1 i = x.2.2.2.2.2.2.2.1 i ∧ x'.2.2.2.2.2.2.2.2.1 i = x.2.2.2.2.2.2.2.2.1 i := h.2.2.2.1
theorem gFr.hk {D : Nat} {u u' : gU} {x x' : gX} (h : gFr D u u' x x') : ∀ j, j < 6 * D → x'.2.2.2.2.2.2.2.2.2.1 j = x.2.2.2.2.2.2.2.2.2.1 j := h.2.2.2.2.1
theorem gFr.fpa {D : Nat} {u u' : gU} {x x' : gX} (h : gFr D u u' x x') : u'.2.2.2.2.2.2.1 = u.2.2.2.2.2.2.1 := h.2.2.2.2.2
theorem gFr_refl {D : Nat} {u : gU} {x : gX} : gFr D u u x x := ⟨fun _ _ => rfl, fun _ => rfl, fun _ _ => rfl, fun _ _ => ⟨rfl, rfl, rfl⟩, fun _ _ => rfl, rfl⟩
theorem gFr_trans {D D2 : Nat} {u u' u2 : gU} {x x' x2 : gX} (h : gFr D u u' x x') (k : gFr D2 u' u2 x' x2) (hD : D ≤ D2) : gFr D u u2 x x2 := by
  refine ⟨fun i hi => (k.fkd i (by omega)).trans (h.fkd i hi), fun i => (k.so i).trans (h.so i), fun i hi => (k.fct i (by rw [h.so]; exact hi)).trans (h.fct i hi), fun i hi => ?_, fun j hj => (k.hk j (by omega)).trans (h.hk j hj), k.fpa.trans h.fpa⟩
  obtain ⟨a1, a2, a3⟩ := h.pi i hi
  obtain ⟨b1, b2, b3⟩ := k.pi i (by omega)
  exact ⟨b1.trans a1, b2.trans a2, b3.trans a3⟩
theorem gFr_by {D : Nat} {u u' : gU} {x x' : gX} (h : gBy u u' x x') : gFr D u u' x x' :=
  ⟨fun _ _ => by rw [h.bkd], fun _ => by rw [h.bC], fun _ _ => by rw [h.bC], fun _ _ => by rw [h.b201, h.b202, h.b203]; exact ⟨rfl, rfl, rfl⟩, fun _ _ => by rw [h.b204], h.u6⟩
def gEnd (n m p q D e g : Nat) (u : gU) (x : gX) (u' : gU) (x' : gX) : Prop := ∃ e' g', gW n m p q e' g' u' x' ∧ (u'.2.2.2.2.2.2.2.2.1 4 = 0 → u.2.2.2.2.2.2.2.2.1 4 = 0 ∧ e ≤ e' ∧ g' + e ≤ g + e') ∧ gFr D u u' x x'
theorem gEnd_trans {n m p q D D2 e g e2 g2 : Nat} {u u' u2 : gU} {x x' x2 : gX} (h2 : u'.2.2.2.2.2.2.2.2.1 4 = 0 → u.2.2.2.2.2.2.2.2.1 4 = 0 ∧ e ≤ e2 ∧ g2 + e ≤ g + e2) (h3 : gFr D u u' x x') (k : gEnd n m p q D2 e2 g2 u' x' u2 x2) (hD : D ≤ D2) : gEnd n m p q D e g u x u2 x2 := by
  obtain ⟨e', g', k1, k2, k3⟩ := k
  refine ⟨e', g', k1, fun q => ?_, gFr_trans h3 k3 hD⟩
  obtain ⟨a1, a2, a3⟩ := k2 q
  obtain ⟨b1, b2, b3⟩ := h2 a1
  exact ⟨b1, by omega, by omega⟩
theorem gEnd_by {n m p q D e g e' : Nat} {u u' : gU} {x x' : gX} (h : gBy u u' x x') (W : gW n m p q e' g u' x') (he : u'.2.2.2.2.2.2.2.2.1 4 = 0 → e ≤ e') : gEnd n m p q D e g u x u' x' :=
  ⟨e', g, W, fun q => ⟨gBy_0 h q, he q, by have := he q; omega⟩, gFr_by h⟩
theorem gW_x {n m p q e g : Nat} {u : gU} {x x' : gX} (W : gW n m p q e g u x) (hR : x'.1 = x.1) (h188 : ∀ i, ¬ i = 18 → x'.2.1 i = x.2.1 i) (h197 : x'.2.2.1 = x.2.2.1) (h198 : x'.2.2.2.1 = x.2.2.2.1) (h199 : x'.2.2.2.2.1 = x.2.2.2.2.1) (h200 : x'.2.2.2.2.2.1 = x.2.2.2.2.2.1) (h208 : x'.2.2.2.2.2.2.2.2.2.2.2.2.2.1 = x.2.2.2.2.2.2.2.2.2.2.2.2.2.1) (h209 : x'.2.2.2.2.2.2.2.2.2.2.2.2.2.2.1 = x.2.2.2.2.2.2.2.2.2.2.2.2.2.2.1) : gW n m p q e g u x' := by
  have T := W.T
  refine ⟨⟨T.hn, T.un, (h188 1 (by omega)).trans T.xn, by rw [hR]; exact T.ob, T.hm, T.um, (h188 15 (by omega)).trans T.xm, by rw [h200]; exact T.bs, T.b8, T.hp, T.up, (h188 10 (by omega)).trans T.xp, by rw [h197]; exact T.pa, T.pb, T.hq, T.uq, (h188 12 (by omega)).trans T.xq, by rw [h198, h199]; exact T.ho, T.fo.trans (h188 17 (by omega)).symm⟩, (h188 26 (by omega)).trans W.oc, W.o2, W.he, W.hg, W.dE, fun c => (h188 27 (by omega)).trans (W.xe c), by rw [h208]; exact W.dr, W.ug, fun c => (h188 29 (by omega)).trans (W.xg c), by rw [h209]; exact W.pl⟩
/-- one value at pile D is written: B turns of the loop are enough -/
def gIH (n m p q D B : Nat) (F : gWf) : Prop := ∀ (u : gU) (x : gX) (e g : Nat) (k v : Int32), gW n m p q e g u x → u.2.2.2.2.2.2.2.2.1 4 = 0 → g < e → x.2.1 18 = Int32.ofNat D → (∃ j, j < 8 ∧ k = Int32.ofNat j ∧ (j = 6 → ∃ b, b < n ∧ v = Int32.ofNat b)) → ∃ u' x1 x', (∀ y o z, F (some 169) (some 1) (some 165) k v (Int32.ofNat (D + 1)) (gH u y o z) = some (gH u' y o z)) ∧ (∀ y o z, mM_sayValue (some 188) k v (gH y x o z) = some (gH y x1 o z)) ∧ gRun B x1 x' ∧ gEnd n m p q D e g u x u' x' ∧ (u'.2.2.2.2.2.2.2.2.1 4 = 0 → x'.2.1 18 = Int32.ofNat D)
def gDead (F : gWf) : Prop := ∀ (u : gU) (y : gX) (o : Nat → Int64) (z : gx_H) (k v d : Int32), ¬ u.2.2.2.2.2.2.2.2.1 4 = 0 → F (some 169) (some 1) (some 165) k v d (gH u y o z) = some (gH u y o z)
theorem k_wbDead {u : gU} {y : gX} {o : Nat → Int64} {z : gx_H} {b : Int32} (h : ¬ u.2.2.2.2.2.2.2.2.1 4 = 0) : cW_writeByte (some 169) b (gH u y o z) = some (gH u y o z) := by
  simp only [cW_writeByte, hi_169_4, Option.bind_some, if_neg h]
/-- the top of the pile is done, and it is no record and no view -/
theorem r_nextEnd {D k w s : Nat} {x : gX} (hD : D < 14) (hk : k < 32) (h18 : x.2.1 18 = Int32.ofNat (D + 1)) (h1 : x.2.2.2.2.2.2.1 D = Int32.ofNat k) (h2 : x.2.2.2.2.2.2.2.1 D = Int32.ofNat w) (h3 : x.2.2.2.2.2.2.2.2.1 D = Int32.ofNat w) (ht : (x.1 k).2.2.2.2.1 = Int32.ofNat s) (h8 : s < 8) (s0 : ¬ s = 0) (s5 : ¬ s = 5) : ∀ y o z, mM_sayNext (some 188) (gH y x o z) = some (gH y ((x.1, gup x.2.1 18 (Int32.ofNat D), x.2.2.1, x.2.2.2.1, x.2.2.2.2.1, x.2.2.2.2.2.1, x.2.2.2.2.2.2.1, x.2.2.2.2.2.2.2.1, x.2.2.2.2.2.2.2.2.1, x.2.2.2.2.2.2.2.2.2.1, x.2.2.2.2.2.2.2.2.2.2.1, x.2.2.2.2.2.2.2.2.2.2.2.1, x.2.2.2.2.2.2.2.2.2.2.2.2.1, x.2.2.2.2.2.2.2.2.2.2.2.2.2.1, x.2.2.2.2.2.2.2.2.2.2.2.2.2.2.1, x.2.2.2.2.2.2.2.2.2.2.2.2.2.2.2) : gX) o z) := by
  intro y o z
  obtain ⟨_, _, _, e0, _, _, _, _, e5⟩ := n_s6 s h8
  simp only [mM_sayNext, hi_188_18, Option.bind_some, h18, n_pred, hr_188_19, ha_201 hD, h1, hr_188_20, ha_202 hD, h2, hr_188_2, ha_189 hk, ht, hr_188_21, ha_203 hD, h3, if_true, e0, if_neg s0, e5, if_neg s5, hp_188_18]
section H
variable {n m p q : Nat} {F : gWf}
theorem k_listDead {k c : Nat} {d : Int32} {u : gU} {y : gX} {o : Nat → Int64} {z : gx_H} (hk : k < 32) (dead : gDead F) (h0 : ¬ u.2.2.2.2.2.2.2.2.1 4 = 0) (hc : c ≤ 8) (h5 : (u.1 k).2.2.2.2.1 5 = Int32.ofNat c) : ∀ (r i f : Nat), i + r = c → cW_writeList_11 F (f + r + 1) (some 169) (some 1) (some 165) (some (3 + 5 * k)) d (Int32.ofNat i) (gH u y o z) = some (gH u y o z) := by
  intro r
  induction r with
  | zero =>
    intro i f h
    rw [cW_writeList_11, hiT_5 hk, Option.bind_some, h5, if_neg (n_nltl (by omega) (by omega) (by omega))]
  | succ r ih =>
    intro i f h
    have i8 : i < 8 := by omega
    rw [show f + (r + 1) + 1 = (f + r + 1) + 1 by omega, cW_writeList_11, hiT_5 hk, Option.bind_some, h5, if_pos (n_ltl (by omega) (by omega) (by omega))]
    simp only [hrT_2 hk, hrT_3 hk, Option.bind_some, haT_3 hk i8, haT_4 hk i8, ho_169, k_wbDead h0, cW_writeList_68, n_succ, dead u y o z _ _ _ h0, ih (i + 1) f (by omega)]
    split <;> rfl
theorem gV_val {n s : Nat} {k v : Int32} (h : gV n s k v) (h1 : ¬ k = -1) (h8 : ¬ s = 0) : ∃ j, j < 8 ∧ k = Int32.ofNat j ∧ (j = 6 → ∃ b, b < n ∧ v = Int32.ofNat b) := by
  rcases h with h | h | h
  · exact absurd h.1 h1
  · exact absurd h.2 h8
  · exact h
theorem w_listL {D k c B : Nat} (hD : D + 1 ≤ 12) (hkn : k < n) (hn : n ≤ 32) (ih : gIH n m p q (D + 1) B F) (dead : gDead F) (hc : c ≤ 8) : ∀ (r i f : Nat) (u : gU) (x : gX) (e g : Nat), i + r = c → gW n m p q e g u x → (u.2.2.2.2.2.2.2.2.1 4 = 0 → g < e ∧ x.2.1 18 = Int32.ofNat (D + 1) ∧ x.2.2.2.2.2.2.1 D = Int32.ofNat k ∧ x.2.2.2.2.2.2.2.1 D = Int32.ofNat i ∧ x.2.2.2.2.2.2.2.2.1 D = Int32.ofNat c) → (u.1 k).2.2.2.2.1 4 = 1 → (u.1 k).2.2.2.2.1 5 = Int32.ofNat c → ∃ u' x', (∀ y o z, cW_writeList_11 F (f + r + 1) (some 169) (some 1) (some 165) (some (3 + 5 * k)) (Int32.ofNat (D + 1)) (Int32.ofNat i) (gH u y o z) = some (gH u' y o z)) ∧ gRun (r * (B + 1) + 1) x x' ∧ gEnd n m p q D e g u x u' x' ∧ (u'.2.2.2.2.2.2.2.2.1 4 = 0 → x'.2.1 18 = Int32.ofNat D) := by
  have hk : k < 32 := by omega
  have hD14 : D < 14 := by omega
  intro r
  induction r with
  | zero =>
    intro i f u x e g h W st s1 h5
    obtain rfl : i = c := by omega
    by_cases h0 : u.2.2.2.2.2.2.2.2.1 4 = 0
    · obtain ⟨g1, g2, g3, g4, g5⟩ := st h0
      obtain ⟨s, c', O⟩ := W.T.ob k hkn
      have es : s = 1 := by
        have := O.es.symm.trans s1
        exact (n_eq (m := 1) (by have := O.s8; omega) (by omega)).mp this
      subst es
      refine ⟨u, ((x.1, gup x.2.1 18 (Int32.ofNat D), x.2.2.1, x.2.2.2.1, x.2.2.2.2.1, x.2.2.2.2.2.1, x.2.2.2.2.2.2.1, x.2.2.2.2.2.2.2.1, x.2.2.2.2.2.2.2.2.1, x.2.2.2.2.2.2.2.2.2.1, x.2.2.2.2.2.2.2.2.2.2.1, x.2.2.2.2.2.2.2.2.2.2.2.1, x.2.2.2.2.2.2.2.2.2.2.2.2.1, x.2.2.2.2.2.2.2.2.2.2.2.2.2.1, x.2.2.2.2.2.2.2.2.2.2.2.2.2.2.1, x.2.2.2.2.2.2.2.2.2.2.2.2.2.2.2) : gX), fun y o z => ?_, gRun_mono (gRun_step (W.oc.trans h0) g2 hD14 (r_nextEnd hD14 hk g2 g3 g4 g5 O.et (by omega) (by omega) (by omega))) (by omega), ⟨e, g, gW_x W rfl (fun i h => gup_ne h) rfl rfl rfl rfl rfl rfl, fun _ => ⟨h0, Nat.le_refl _, Nat.le_refl _⟩, ⟨fun _ _ => rfl, fun _ => rfl, fun _ _ => rfl, fun _ _ => ⟨rfl, rfl, rfl⟩, fun _ _ => rfl, rfl⟩⟩, fun _ => rfl⟩
      rw [cW_writeList_11, hiT_5 hk, Option.bind_some, h5, if_neg (n_nltl (by omega) (by omega) (by omega))]
    · exact ⟨u, x, fun y o z => k_listDead hk dead h0 hc h5 0 i f (by omega), gRun_mono gRun_refl (by omega), ⟨e, g, W, fun q => absurd q h0, gFr_refl⟩, fun q => absurd q h0⟩
  | succ r IH =>
    intro i f u x e g h W st s1 h5
    by_cases h0 : u.2.2.2.2.2.2.2.2.1 4 = 0
    · obtain ⟨g1, g2, g3, g4, g5⟩ := st h0
      obtain ⟨s, c', O⟩ := W.T.ob k hkn
      have es : s = 1 := by
        have := O.es.symm.trans s1
        exact (n_eq (m := 1) (by have := O.s8; omega) (by omega)).mp this
      subst es
      have ec : c' = c := by
        have := O.ec.symm.trans h5
        have h8 := gcap8 O.c8
        exact (n_eq (by omega) (by omega)).mp this
      subst ec
      have i8 : i < 8 := by omega
      have hi : i < c' := by omega
      obtain ⟨v1, v2⟩ := O.vs (by omega) i hi
      have vv := O.vv (by omega) i hi
      have ne : ¬ Int32.ofNat i = Int32.ofNat c' := fun q => by have := (n_eq (by omega) (by omega)).mp q; omega
      have W27 : gW n m p q e g u ((x.1, x.2.1, x.2.2.1, x.2.2.2.1, x.2.2.2.2.1, x.2.2.2.2.2.1, x.2.2.2.2.2.2.1, gup x.2.2.2.2.2.2.2.1 D (Int32.ofNat (i + 1)), x.2.2.2.2.2.2.2.2.1, x.2.2.2.2.2.2.2.2.2.1, x.2.2.2.2.2.2.2.2.2.2.1, x.2.2.2.2.2.2.2.2.2.2.2.1, x.2.2.2.2.2.2.2.2.2.2.2.2.1, x.2.2.2.2.2.2.2.2.2.2.2.2.2.1, x.2.2.2.2.2.2.2.2.2.2.2.2.2.2.1, x.2.2.2.2.2.2.2.2.2.2.2.2.2.2.2) : gX) := gW_x W rfl (fun _ _ => rfl) rfl rfl rfl rfl rfl rfl
      have F27 : gFr D u u x ((x.1, x.2.1, x.2.2.1, x.2.2.2.1, x.2.2.2.2.1, x.2.2.2.2.2.1, x.2.2.2.2.2.2.1, gup x.2.2.2.2.2.2.2.1 D (Int32.ofNat (i + 1)), x.2.2.2.2.2.2.2.2.1, x.2.2.2.2.2.2.2.2.2.1, x.2.2.2.2.2.2.2.2.2.2.1, x.2.2.2.2.2.2.2.2.2.2.2.1, x.2.2.2.2.2.2.2.2.2.2.2.2.1, x.2.2.2.2.2.2.2.2.2.2.2.2.2.1, x.2.2.2.2.2.2.2.2.2.2.2.2.2.2.1, x.2.2.2.2.2.2.2.2.2.2.2.2.2.2.2) : gX) := ⟨fun _ _ => rfl, fun _ => rfl, fun _ _ => rfl, fun j hj => ⟨rfl, gup_ne (by omega), rfl⟩, fun _ _ => rfl, rfl⟩
      have top : ∀ y o z, mM_sayNext (some 188) (gH y x o z) = (if (u.1 k).2.2.1 i = -1 then mM_sayNext_257 (some 188) (Int32.ofNat k) (Int32.ofNat i) (some 188) 0 (gH y ((x.1, x.2.1, x.2.2.1, x.2.2.2.1, x.2.2.2.2.1, x.2.2.2.2.2.1, x.2.2.2.2.2.2.1, gup x.2.2.2.2.2.2.2.1 D (Int32.ofNat (i + 1)), x.2.2.2.2.2.2.2.2.1, x.2.2.2.2.2.2.2.2.2.1, x.2.2.2.2.2.2.2.2.2.2.1, x.2.2.2.2.2.2.2.2.2.2.2.1, x.2.2.2.2.2.2.2.2.2.2.2.2.1, x.2.2.2.2.2.2.2.2.2.2.2.2.2.1, x.2.2.2.2.2.2.2.2.2.2.2.2.2.2.1, x.2.2.2.2.2.2.2.2.2.2.2.2.2.2.2) : gX) o z) else mM_sayNext_257 (some 188) (Int32.ofNat k) (Int32.ofNat i) (some 188) 1 (gH y ((x.1, x.2.1, x.2.2.1, x.2.2.2.1, x.2.2.2.2.1, x.2.2.2.2.2.1, x.2.2.2.2.2.2.1, gup x.2.2.2.2.2.2.2.1 D (Int32.ofNat (i + 1)), x.2.2.2.2.2.2.2.2.1, x.2.2.2.2.2.2.2.2.2.1, x.2.2.2.2.2.2.2.2.2.2.1, x.2.2.2.2.2.2.2.2.2.2.2.1, x.2.2.2.2.2.2.2.2.2.2.2.2.1, x.2.2.2.2.2.2.2.2.2.2.2.2.2.1, x.2.2.2.2.2.2.2.2.2.2.2.2.2.2.1, x.2.2.2.2.2.2.2.2.2.2.2.2.2.2.2) : gX) o z)) := by
        intro y o z
        simp only [mM_sayNext, hi_188_18, Option.bind_some, g2, n_pred, hr_188_19, ha_201 hD14, g3, hr_188_20, ha_202 hD14, g4, hr_188_2, ha_189 hk, O.et, hr_188_21, ha_203 hD14, g5, if_neg ne, hb_202 hD14, n_succ, show ¬ Int32.ofNat 1 = (0 : Int32) by decide, show ¬ Int32.ofNat 1 = (5 : Int32) by decide, show ¬ Int32.ofNat 1 = (2 : Int32) by decide, show ¬ Int32.ofNat 1 = (3 : Int32) by decide, if_false, hr_188_8, n_8, ha_195 hk i8, v1]
      by_cases hole : (u.1 k).2.2.1 i = -1
      · obtain ⟨u1, x1, e1, a1, a2, a3, a4, a5⟩ := w_byte (b := 0) W27 ⟨0, by omega, rfl⟩
        have nx : ∀ y o z, mM_sayNext (some 188) (gH y x o z) = some (gH y x1 o z) := by
          intro y o z
          have hR : (x1.1 k).2.2.1 i = -1 := by rw [a5.bR]; exact v1.trans hole
          rw [top, if_pos hole]
          simp only [mM_sayNext_257, ho_188, Option.bind_some, a2, hr_188_8, n_8, ha_195 hk i8, hR, if_true]
        obtain ⟨u', x', b1, b2, b3, b4⟩ := IH (i + 1) f u1 x1 e1 g (by omega) a3 (fun q => by
          have e1e := a4 q
          refine ⟨by omega, (a5.b188 18 (by omega) (by omega)).trans g2, by rw [a5.b201]; exact g3, by rw [a5.b202]; exact gup_eq, by rw [a5.b203]; exact g5⟩) (by rw [a5.bC]; exact s1) (by rw [a5.bC]; exact h5)
        refine ⟨u', x', fun y o z => ?_, gRun_mono (gRun_trans (gRun_step (W.oc.trans h0) g2 hD14 nx) b2) (by rw [Nat.succ_mul]; omega), gEnd_trans (fun q => ⟨h0, by have := a4 q; omega, by have := a4 q; omega⟩) (gFr_trans F27 (gFr_by (D := D) a5) (Nat.le_refl _)) b3 (Nat.le_refl _), b4⟩
        rw [show f + (r + 1) + 1 = (f + r + 1) + 1 by omega, cW_writeList_11, hiT_5 hk, Option.bind_some, h5, if_pos (n_ltl (by omega) (by omega) (by omega))]
        simp only [hrT_2 hk, Option.bind_some, haT_3 hk i8, hole, if_true, ho_169, a1, cW_writeList_68, n_succ, b1]
      · obtain ⟨u1, x1, e1, a1, a2, a3, a4, a5⟩ := w_byte (b := 1) W27 ⟨1, by omega, rfl⟩
        have hR1 : ¬ (x1.1 k).2.2.1 i = -1 := by rw [a5.bR, v1]; exact hole
        have cl : ∀ y o z, cW_writeList_11 F (f + (r + 1) + 1) (some 169) (some 1) (some 165) (some (3 + 5 * k)) (Int32.ofNat (D + 1)) (Int32.ofNat i) (gH u y o z) = (F (some 169) (some 1) (some 165) ((u.1 k).2.2.1 i) ((u.1 k).2.2.2.1 i) (Int32.ofNat (D + 1 + 1)) (gH u1 y o z)).bind fun h18 => cW_writeList_11 F (f + r + 1) (some 169) (some 1) (some 165) (some (3 + 5 * k)) (Int32.ofNat (D + 1)) (Int32.ofNat (i + 1)) h18 := by
          intro y o z
          rw [show f + (r + 1) + 1 = (f + r + 1) + 1 by omega, cW_writeList_11, hiT_5 hk, Option.bind_some, h5, if_pos (n_ltl (by omega) (by omega) (by omega))]
          simp only [hrT_2 hk, hrT_3 hk, Option.bind_some, haT_3 hk i8, haT_4 hk i8, if_neg hole, ho_169, a1, a5.bC, cW_writeList_68, n_succ]
        by_cases h1 : u1.2.2.2.2.2.2.2.2.1 4 = 0
        · have e1e := a4 h1
          obtain ⟨u2, x2, x3, k1, k2, k3, k4, k5⟩ := ih u1 x1 e1 g ((u.1 k).2.2.1 i) ((u.1 k).2.2.2.1 i) a3 h1 (by omega) ((a5.b188 18 (by omega) (by omega)).trans g2) (gV_val vv hole (by omega))
          have nx : ∀ y o z, mM_sayNext (some 188) (gH y x o z) = some (gH y x2 o z) := by
            intro y o z
            have v1' : (x1.1 k).2.2.1 i = (u.1 k).2.2.1 i := by rw [a5.bR]; exact v1
            have v2' : (x1.1 k).2.2.2.1 i = (u.1 k).2.2.2.1 i := by rw [a5.bR]; exact v2
            rw [top, if_neg hole]
            simp only [mM_sayNext_257, ho_188, Option.bind_some, a2, hr_188_8, n_8, ha_195 hk i8, if_neg hR1, if_neg hole, hi_188_26, a3.oc.trans h1, if_true, hr_188_9, ha_196 hk i8, v1', v2', k2]
          obtain ⟨e3, g3', l1, l2, l3⟩ := k4
          obtain ⟨u', x', b1, b2, b3, b4⟩ := IH (i + 1) f u2 x3 e3 g3' (by omega) l1 (fun q => by
            obtain ⟨m1, m2, m3⟩ := l2 q
            obtain ⟨p1, p2, p3⟩ := l3.pi D (by omega)
            refine ⟨by omega, k5 q, p1.trans (by rw [a5.b201]; exact g3), p2.trans (by rw [a5.b202]; exact gup_eq), p3.trans (by rw [a5.b203]; exact g5)⟩) ((l3.so k).trans (by rw [a5.bC]; exact s1)) ((l3.fct k (by rw [a5.bC, s1]; decide)).trans (by rw [a5.bC]; exact h5))
          refine ⟨u', x', fun y o z => ?_, gRun_mono (gRun_trans (gRun_trans (gRun_step (W.oc.trans h0) g2 hD14 nx) k3) b2) (by rw [Nat.succ_mul]; omega), gEnd_trans (fun q => ⟨h0, by have := l2 q; omega, by have := l2 q; omega⟩) (gFr_trans (gFr_trans F27 (gFr_by (D := D) a5) (Nat.le_refl _)) l3 (by omega)) b3 (Nat.le_refl _), b4⟩
          rw [cl, k1, Option.bind_some, b1]
        · have nx : ∀ y o z, mM_sayNext (some 188) (gH y x o z) = some (gH y x1 o z) := by
            intro y o z
            rw [top, if_neg hole]
            simp only [mM_sayNext_257, ho_188, Option.bind_some, a2, hr_188_8, n_8, ha_195 hk i8, if_neg hR1, hi_188_26, if_neg (fun q => h1 (a3.oc.symm.trans q))]
          refine ⟨u1, x1, fun y o z => ?_, gRun_mono (gRun_step (W.oc.trans h0) g2 hD14 nx) (by rw [Nat.succ_mul]; omega), ⟨e1, g, a3, fun q => absurd q h1, gFr_trans F27 (gFr_by (D := D) a5) (Nat.le_refl _)⟩, fun q => absurd q h1⟩
          rw [cl, dead u1 y o z _ _ _ h1, Option.bind_some, k_listDead hk dead h1 hc (by rw [a5.bC]; exact h5) r (i + 1) f (by omega)]
    · exact ⟨u, x, fun y o z => k_listDead hk dead h0 hc h5 (r + 1) i f (by omega), gRun_mono gRun_refl (by omega), ⟨e, g, W, fun q => absurd q h0, gFr_refl⟩, fun q => absurd q h0⟩
end H
end
section
theorem i_c23 : ¬ (2 : Int32) = 0 ∧ ¬ (2 : Int32) = 5 ∧ ¬ (3 : Int32) = 0 ∧ ¬ (3 : Int32) = 5 ∧ ¬ (3 : Int32) = 2 := by decide
section H
variable {n m p q : Nat} {F : gWf}
/-- one turn of the loop that writes one value, and all that is in it -/
theorem w_one {D i B e g : Nat} {u : gU} {x : gX} {kd nm : Int32} (ih : gIH n m p q (D + 1) B F) (hD14 : D < 14) (W : gW n m p q e g u x) (h0 : u.2.2.2.2.2.2.2.2.1 4 = 0) (g1 : g < e) (g2 : x.2.1 18 = Int32.ofNat (D + 1)) (hv : ∃ j, j < 8 ∧ kd = Int32.ofNat j ∧ (j = 6 → ∃ b, b < n ∧ nm = Int32.ofNat b)) (top : ∀ y o z, mM_sayNext (some 188) (gH y x o z) = mM_sayValue (some 188) kd nm (gH y ((x.1, x.2.1, x.2.2.1, x.2.2.2.1, x.2.2.2.2.1, x.2.2.2.2.2.1, x.2.2.2.2.2.2.1, gup x.2.2.2.2.2.2.2.1 D (Int32.ofNat (i + 1)), x.2.2.2.2.2.2.2.2.1, x.2.2.2.2.2.2.2.2.2.1, x.2.2.2.2.2.2.2.2.2.2.1, x.2.2.2.2.2.2.2.2.2.2.2.1, x.2.2.2.2.2.2.2.2.2.2.2.2.1, x.2.2.2.2.2.2.2.2.2.2.2.2.2.1, x.2.2.2.2.2.2.2.2.2.2.2.2.2.2.1, x.2.2.2.2.2.2.2.2.2.2.2.2.2.2.2) : gX) o z)) : ∃ u2 x3 e3 g3, (∀ y o z, F (some 169) (some 1) (some 165) kd nm (Int32.ofNat (D + 1 + 1)) (gH u y o z) = some (gH u2 y o z)) ∧ gRun (B + 1) x x3 ∧ gW n m p q e3 g3 u2 x3 ∧ (u2.2.2.2.2.2.2.2.2.1 4 = 0 → e ≤ e3 ∧ g3 + e ≤ g + e3 ∧ x3.2.1 18 = Int32.ofNat (D + 1) ∧ x3.2.2.2.2.2.2.1 D = x.2.2.2.2.2.2.1 D ∧ x3.2.2.2.2.2.2.2.1 D = Int32.ofNat (i + 1) ∧ x3.2.2.2.2.2.2.2.2.1 D = x.2.2.2.2.2.2.2.2.1 D) ∧ gFr D u u2 x x3 := by
  have W27 : gW n m p q e g u ((x.1, x.2.1, x.2.2.1, x.2.2.2.1, x.2.2.2.2.1, x.2.2.2.2.2.1, x.2.2.2.2.2.2.1, gup x.2.2.2.2.2.2.2.1 D (Int32.ofNat (i + 1)), x.2.2.2.2.2.2.2.2.1, x.2.2.2.2.2.2.2.2.2.1, x.2.2.2.2.2.2.2.2.2.2.1, x.2.2.2.2.2.2.2.2.2.2.2.1, x.2.2.2.2.2.2.2.2.2.2.2.2.1, x.2.2.2.2.2.2.2.2.2.2.2.2.2.1, x.2.2.2.2.2.2.2.2.2.2.2.2.2.2.1, x.2.2.2.2.2.2.2.2.2.2.2.2.2.2.2) : gX) := gW_x W rfl (fun _ _ => rfl) rfl rfl rfl rfl rfl rfl
  have F27 : gFr D u u x ((x.1, x.2.1, x.2.2.1, x.2.2.2.1, x.2.2.2.2.1, x.2.2.2.2.2.1, x.2.2.2.2.2.2.1, gup x.2.2.2.2.2.2.2.1 D (Int32.ofNat (i + 1)), x.2.2.2.2.2.2.2.2.1, x.2.2.2.2.2.2.2.2.2.1, x.2.2.2.2.2.2.2.2.2.2.1, x.2.2.2.2.2.2.2.2.2.2.2.1, x.2.2.2.2.2.2.2.2.2.2.2.2.1, x.2.2.2.2.2.2.2.2.2.2.2.2.2.1, x.2.2.2.2.2.2.2.2.2.2.2.2.2.2.1, x.2.2.2.2.2.2.2.2.2.2.2.2.2.2.2) : gX) := ⟨fun _ _ => rfl, fun _ => rfl, fun _ _ => rfl, fun j hj => ⟨rfl, gup_ne (by omega), rfl⟩, fun _ _ => rfl, rfl⟩
  obtain ⟨u2, x2, x3, k1, k2, k3, k4, k5⟩ := ih u _ e g kd nm W27 h0 g1 g2 hv
  obtain ⟨e3, g3, l1, l2, l3⟩ := k4
  have nx : ∀ y o z, mM_sayNext (some 188) (gH y x o z) = some (gH y x2 o z) := fun y o z => (top y o z).trans (k2 y o z)
  refine ⟨u2, x3, e3, g3, k1, gRun_mono (gRun_trans (gRun_step (W.oc.trans h0) g2 hD14 nx) k3) (by omega), l1, fun q => ?_, gFr_trans F27 l3 (by omega)⟩
  obtain ⟨m1, m2, m3⟩ := l2 q
  obtain ⟨p1, p2, p3⟩ := l3.pi D (by omega)
  exact ⟨m2, m3, k5 q, p1, p2.trans gup_eq, p3⟩
theorem k_setDead {k c : Nat} {d : Int32} {u : gU} {y : gX} {o : Nat → Int64} {z : gx_H} (hk : k < 32) (dead : gDead F) (h0 : ¬ u.2.2.2.2.2.2.2.2.1 4 = 0) (hc : c ≤ 8) (h5 : (u.1 k).2.2.2.2.1 5 = Int32.ofNat c) : ∀ (r i f : Nat), i + r = c → cW_writeSet_11 F (f + r + 1) (some 169) (some 1) (some 165) (some (3 + 5 * k)) d (Int32.ofNat i) (gH u y o z) = some (gH u y o z) := by
  intro r
  induction r with
  | zero =>
    intro i f h
    rw [cW_writeSet_11, hiT_5 hk, Option.bind_some, h5, if_neg (n_nltl (by omega) (by omega) (by omega))]
  | succ r ih =>
    intro i f h
    have i8 : i < 8 := by omega
    rw [show f + (r + 1) + 1 = (f + r + 1) + 1 by omega, cW_writeSet_11, hiT_5 hk, Option.bind_some, h5, if_pos (n_ltl (by omega) (by omega) (by omega))]
    simp only [hrT_2 hk, hrT_3 hk, Option.bind_some, haT_3 hk i8, haT_4 hk i8, ho_169, n_succ, dead u y o z _ _ _ h0, ih (i + 1) f (by omega)]
theorem k_mapDead {k c : Nat} {d : Int32} {u : gU} {y : gX} {o : Nat → Int64} {z : gx_H} (hk : k < 32) (dead : gDead F) (h0 : ¬ u.2.2.2.2.2.2.2.2.1 4 = 0) (hc : c ≤ 8) (h5 : (u.1 k).2.2.2.2.1 5 = Int32.ofNat c) : ∀ (r i f : Nat), i + r = c → cW_writeMap_11 F (f + r + 1) (some 169) (some 1) (some 165) (some (3 + 5 * k)) d (Int32.ofNat i) (gH u y o z) = some (gH u y o z) := by
  intro r
  induction r with
  | zero =>
    intro i f h
    rw [cW_writeMap_11, hiT_5 hk, Option.bind_some, h5, if_neg (n_nltl (by omega) (by omega) (by omega))]
  | succ r ih =>
    intro i f h
    have i8 : i < 8 := by omega
    rw [show f + (r + 1) + 1 = (f + r + 1) + 1 by omega, cW_writeMap_11, hiT_5 hk, Option.bind_some, h5, if_pos (n_ltl (by omega) (by omega) (by omega))]
    simp only [hrT_0 hk, hrT_1 hk, hrT_2 hk, hrT_3 hk, Option.bind_some, haT_1 hk i8, haT_2 hk i8, haT_3 hk i8, haT_4 hk i8, ho_169, n_succ, dead u y o z _ _ _ h0, ih (i + 1) f (by omega)]
/-- the sort and the count that both sides see -/
theorem ob_at {k s c e g : Nat} {u : gU} {x : gX} (W : gW n m p q e g u x) (hkn : k < n) (hs : s < 8) (s1 : (u.1 k).2.2.2.2.1 4 = Int32.ofNat s) (hc : c ≤ 8) (h5 : (u.1 k).2.2.2.2.1 5 = Int32.ofNat c) : gO n s c (u.1 k) (x.1 k) := by
  obtain ⟨s', c', O⟩ := W.T.ob k hkn
  have es : s' = s := (n_eq (by have := O.s8; omega) (by omega)).mp (O.es.symm.trans s1)
  subst es
  have ec : c' = c := by
    have h8 := gcap8 O.c8
    exact (n_eq (by omega) (by omega)).mp (O.ec.symm.trans h5)
  subst ec
  exact O
theorem w_setL {D k c B : Nat} (hD : D + 1 ≤ 12) (hkn : k < n) (hn : n ≤ 32) (ih : gIH n m p q (D + 1) B F) (dead : gDead F) (hc : c ≤ 8) : ∀ (r i f : Nat) (u : gU) (x : gX) (e g : Nat), i + r = c → gW n m p q e g u x → (u.2.2.2.2.2.2.2.2.1 4 = 0 → g < e ∧ x.2.1 18 = Int32.ofNat (D + 1) ∧ x.2.2.2.2.2.2.1 D = Int32.ofNat k ∧ x.2.2.2.2.2.2.2.1 D = Int32.ofNat i ∧ x.2.2.2.2.2.2.2.2.1 D = Int32.ofNat c) → (u.1 k).2.2.2.2.1 4 = Int32.ofNat 3 → (u.1 k).2.2.2.2.1 5 = Int32.ofNat c → ∃ u' x', (∀ y o z, cW_writeSet_11 F (f + r + 1) (some 169) (some 1) (some 165) (some (3 + 5 * k)) (Int32.ofNat (D + 1)) (Int32.ofNat i) (gH u y o z) = some (gH u' y o z)) ∧ gRun (r * (B + 1) + 1) x x' ∧ gEnd n m p q D e g u x u' x' ∧ (u'.2.2.2.2.2.2.2.2.1 4 = 0 → x'.2.1 18 = Int32.ofNat D) := by
  have hk : k < 32 := by omega
  have hD14 : D < 14 := by omega
  intro r
  induction r with
  | zero =>
    intro i f u x e g h W st s1 h5
    obtain rfl : i = c := by omega
    by_cases h0 : u.2.2.2.2.2.2.2.2.1 4 = 0
    · obtain ⟨g1, g2, g3, g4, g5⟩ := st h0
      have O := ob_at W hkn (by omega) s1 hc h5
      refine ⟨u, ((x.1, gup x.2.1 18 (Int32.ofNat D), x.2.2.1, x.2.2.2.1, x.2.2.2.2.1, x.2.2.2.2.2.1, x.2.2.2.2.2.2.1, x.2.2.2.2.2.2.2.1, x.2.2.2.2.2.2.2.2.1, x.2.2.2.2.2.2.2.2.2.1, x.2.2.2.2.2.2.2.2.2.2.1, x.2.2.2.2.2.2.2.2.2.2.2.1, x.2.2.2.2.2.2.2.2.2.2.2.2.1, x.2.2.2.2.2.2.2.2.2.2.2.2.2.1, x.2.2.2.2.2.2.2.2.2.2.2.2.2.2.1, x.2.2.2.2.2.2.2.2.2.2.2.2.2.2.2) : gX), fun y o z => ?_, gRun_mono (gRun_step (W.oc.trans h0) g2 hD14 (r_nextEnd hD14 hk g2 g3 g4 g5 O.et (by omega) (by omega) (by omega))) (by omega), ⟨e, g, gW_x W rfl (fun i h => gup_ne h) rfl rfl rfl rfl rfl rfl, fun _ => ⟨h0, Nat.le_refl _, Nat.le_refl _⟩, ⟨fun _ _ => rfl, fun _ => rfl, fun _ _ => rfl, fun _ _ => ⟨rfl, rfl, rfl⟩, fun _ _ => rfl, rfl⟩⟩, fun _ => rfl⟩
      rw [cW_writeSet_11, hiT_5 hk, Option.bind_some, h5, if_neg (n_nltl (by omega) (by omega) (by omega))]
    · exact ⟨u, x, fun y o z => k_setDead hk dead h0 hc h5 0 i f (by omega), gRun_mono gRun_refl (by omega), ⟨e, g, W, fun q => absurd q h0, gFr_refl⟩, fun q => absurd q h0⟩
  | succ r IH =>
    intro i f u x e g h W st s1 h5
    by_cases h0 : u.2.2.2.2.2.2.2.2.1 4 = 0
    · obtain ⟨g1, g2, g3, g4, g5⟩ := st h0
      have O := ob_at W hkn (by omega) s1 hc h5
      have i8 : i < 8 := by omega
      have hi : i < c := by omega
      obtain ⟨v1, v2⟩ := O.vs (by omega) i hi
      have ne : ¬ Int32.ofNat i = Int32.ofNat c := fun q => by have := (n_eq (by omega) (by omega)).mp q; omega
      have vv := gV_val (O.vv (by omega) i hi) (by
        intro q
        have := O.vv (by omega) i hi
        rcases this with h | h | ⟨j, j1, j2, _⟩
        · omega
        · omega
        · exact n_ne1 (n := j) (by omega) (j2.symm.trans q)) (by omega)
      obtain ⟨u2, x3, e3, g3', k1, k2, k3, k4, k5⟩ := w_one (i := i) ih hD14 W h0 g1 g2 vv (fun y o z => by
        simp only [mM_sayNext, hi_188_18, Option.bind_some, g2, n_pred, hr_188_19, ha_201 hD14, g3, hr_188_20, ha_202 hD14, g4, hr_188_2, ha_189 hk, O.et, hr_188_21, ha_203 hD14, g5, if_neg ne, hb_202 hD14, n_succ, show Int32.ofNat 3 = (3 : Int32) from rfl, i_c23.2.2.1, i_c23.2.2.2.1, i_c23.2.2.2.2, if_false, if_true, hr_188_8, hr_188_9, n_8, ha_195 hk i8, ha_196 hk i8, v1, v2, ho_188]
        exact Option.bind_fun_some _)
      obtain ⟨u', x', b1, b2, b3, b4⟩ := IH (i + 1) f u2 x3 e3 g3' (by omega) k3 (fun q => by
        obtain ⟨m1, m2, m3, m4, m5, m6⟩ := k4 q
        exact ⟨by omega, m3, m4.trans g3, m5, m6.trans g5⟩) ((k5.so k).trans s1) ((k5.fct k (by rw [s1]; decide)).trans h5)
      refine ⟨u', x', fun y o z => ?_, gRun_mono (gRun_trans k2 b2) (by rw [Nat.succ_mul]; omega), gEnd_trans (fun q => ⟨h0, by have := k4 q; omega, by have := k4 q; omega⟩) k5 b3 (Nat.le_refl _), b4⟩
      rw [show f + (r + 1) + 1 = (f + r + 1) + 1 by omega, cW_writeSet_11, hiT_5 hk, Option.bind_some, h5, if_pos (n_ltl (by omega) (by omega) (by omega))]
      simp only [hrT_2 hk, hrT_3 hk, Option.bind_some, haT_3 hk i8, haT_4 hk i8, ho_169, n_succ, k1, b1]
    · exact ⟨u, x, fun y o z => k_setDead hk dead h0 hc h5 (r + 1) i f (by omega), gRun_mono gRun_refl (by omega), ⟨e, g, W, fun q => absurd q h0, gFr_refl⟩, fun q => absurd q h0⟩
theorem n_half : ∀ i : Nat, i < 4 → Int32.ofNat (2 * i) / 2 = Int32.ofNat i ∧ Int32.ofNat (2 * i) - Int32.ofNat i * 2 = 0 ∧ Int32.ofNat (2 * i + 1) / 2 = Int32.ofNat i ∧ ¬ Int32.ofNat (2 * i + 1) - Int32.ofNat i * 2 = 0 := by decide
theorem w_mapL {D k c B : Nat} (hD : D + 1 ≤ 12) (hkn : k < n) (hn : n ≤ 32) (ih : gIH n m p q (D + 1) B F) (dead : gDead F) (hc : c ≤ 4) : ∀ (r i f : Nat) (u : gU) (x : gX) (e g : Nat), i + r = c → gW n m p q e g u x → (u.2.2.2.2.2.2.2.2.1 4 = 0 → g < e ∧ x.2.1 18 = Int32.ofNat (D + 1) ∧ x.2.2.2.2.2.2.1 D = Int32.ofNat k ∧ x.2.2.2.2.2.2.2.1 D = Int32.ofNat (2 * i) ∧ x.2.2.2.2.2.2.2.2.1 D = Int32.ofNat (2 * c)) → (u.1 k).2.2.2.2.1 4 = Int32.ofNat 2 → (u.1 k).2.2.2.2.1 5 = Int32.ofNat c → ∃ u' x', (∀ y o z, cW_writeMap_11 F (f + r + 1) (some 169) (some 1) (some 165) (some (3 + 5 * k)) (Int32.ofNat (D + 1)) (Int32.ofNat i) (gH u y o z) = some (gH u' y o z)) ∧ gRun (r * (2 * (B + 1)) + 1) x x' ∧ gEnd n m p q D e g u x u' x' ∧ (u'.2.2.2.2.2.2.2.2.1 4 = 0 → x'.2.1 18 = Int32.ofNat D) := by
  have hk : k < 32 := by omega
  have hD14 : D < 14 := by omega
  intro r
  induction r with
  | zero =>
    intro i f u x e g h W st s1 h5
    obtain rfl : i = c := by omega
    by_cases h0 : u.2.2.2.2.2.2.2.2.1 4 = 0
    · obtain ⟨g1, g2, g3, g4, g5⟩ := st h0
      have O := ob_at W hkn (by omega) s1 (by omega) h5
      refine ⟨u, ((x.1, gup x.2.1 18 (Int32.ofNat D), x.2.2.1, x.2.2.2.1, x.2.2.2.2.1, x.2.2.2.2.2.1, x.2.2.2.2.2.2.1, x.2.2.2.2.2.2.2.1, x.2.2.2.2.2.2.2.2.1, x.2.2.2.2.2.2.2.2.2.1, x.2.2.2.2.2.2.2.2.2.2.1, x.2.2.2.2.2.2.2.2.2.2.2.1, x.2.2.2.2.2.2.2.2.2.2.2.2.1, x.2.2.2.2.2.2.2.2.2.2.2.2.2.1, x.2.2.2.2.2.2.2.2.2.2.2.2.2.2.1, x.2.2.2.2.2.2.2.2.2.2.2.2.2.2.2) : gX), fun y o z => ?_, gRun_mono (gRun_step (W.oc.trans h0) g2 hD14 (r_nextEnd hD14 hk g2 g3 g4 g5 O.et (by omega) (by omega) (by omega))) (by omega), ⟨e, g, gW_x W rfl (fun i h => gup_ne h) rfl rfl rfl rfl rfl rfl, fun _ => ⟨h0, Nat.le_refl _, Nat.le_refl _⟩, ⟨fun _ _ => rfl, fun _ => rfl, fun _ _ => rfl, fun _ _ => ⟨rfl, rfl, rfl⟩, fun _ _ => rfl, rfl⟩⟩, fun _ => rfl⟩
      rw [cW_writeMap_11, hiT_5 hk, Option.bind_some, h5, if_neg (n_nltl (by omega) (by omega) (by omega))]
    · exact ⟨u, x, fun y o z => k_mapDead hk dead h0 (by omega) h5 0 i f (by omega), gRun_mono gRun_refl (by omega), ⟨e, g, W, fun q => absurd q h0, gFr_refl⟩, fun q => absurd q h0⟩
  | succ r IH =>
    intro i f u x e g h W st s1 h5
    by_cases h0 : u.2.2.2.2.2.2.2.2.1 4 = 0
    · obtain ⟨g1, g2, g3, g4, g5⟩ := st h0
      have O := ob_at W hkn (by omega) s1 (by omega) h5
      have i8 : i < 8 := by omega
      have hi : i < c := by omega
      obtain ⟨q1, q2, q3, q4⟩ := n_half i (by omega)
      obtain ⟨v1, v2⟩ := O.vs (by omega) i hi
      have ne : ¬ Int32.ofNat (2 * i) = Int32.ofNat (2 * c) := fun q => by have := (n_eq (by omega) (by omega)).mp q; omega
      have ne2 : ¬ Int32.ofNat (2 * i + 1) = Int32.ofNat (2 * c) := fun q => by have := (n_eq (by omega) (by omega)).mp q; omega
      have val : ∀ {a b : Int32}, gV n 2 a b → ∃ j, j < 8 ∧ a = Int32.ofNat j ∧ (j = 6 → ∃ t, t < n ∧ b = Int32.ofNat t) := by
        intro a b h
        rcases h with h | h | h
        · omega
        · omega
        · exact h
      obtain ⟨u2, x2, e2, g2', k1, k2, k3, k4, k5⟩ := w_one (i := 2 * i) ih hD14 W h0 g1 g2 (val (O.kv rfl i hi)) (fun y o z => by
        simp only [mM_sayNext, hi_188_18, Option.bind_some, g2, n_pred, hr_188_19, ha_201 hD14, g3, hr_188_20, ha_202 hD14, g4, hr_188_2, ha_189 hk, O.et, hr_188_21, ha_203 hD14, g5, if_neg ne, hb_202 hD14, n_succ, show Int32.ofNat 2 = (2 : Int32) from rfl, i_c23.1, i_c23.2.1, if_false, if_true, q2, q1, hr_188_7, hr_188_6, n_8, ha_194 hk i8, ha_193 hk i8, O.kK rfl i hi, O.kE (Or.inr rfl) i hi, mM_sayNext_172, mM_sayNext_195, ho_188]
        exact Option.bind_fun_some _)
      by_cases h2 : u2.2.2.2.2.2.2.2.2.1 4 = 0
      · obtain ⟨m1, m2, m3, m4, m5, m6⟩ := k4 h2
        have s2 := (k5.so k).trans s1
        have h52 := (k5.fct k (by rw [s1]; decide)).trans h5
        have O2 := ob_at k3 hkn (by omega) s2 (by omega) h52
        obtain ⟨w1, w2⟩ := O2.vs (by omega) i hi
        obtain ⟨u3, x3, e3, g3', l1, l2, l3, l4, l5⟩ := w_one (i := 2 * i + 1) ih hD14 k3 h2 (by omega) m3 (val (O2.vv (by omega) i hi)) (fun y o z => by
          simp only [mM_sayNext, hi_188_18, Option.bind_some, m3, n_pred, hr_188_19, ha_201 hD14, m4.trans g3, hr_188_20, ha_202 hD14, m5, hr_188_2, ha_189 hk, O2.et, hr_188_21, ha_203 hD14, m6.trans g5, if_neg ne2, hb_202 hD14, n_succ, show Int32.ofNat 2 = (2 : Int32) from rfl, i_c23.1, i_c23.2.1, if_false, if_true, if_neg q4, q3, hr_188_8, hr_188_9, n_8, ha_195 hk i8, ha_196 hk i8, w1, w2, mM_sayNext_172, mM_sayNext_195, ho_188]
          exact Option.bind_fun_some _)
        obtain ⟨u', x', b1, b2, b3, b4⟩ := IH (i + 1) f u3 x3 e3 g3' (by omega) l3 (fun q => by
          obtain ⟨p1, p2, p3, p4, p5, p6⟩ := l4 q
          exact ⟨by omega, p3, p4.trans (m4.trans g3), by rw [p5]; congr 1, p6.trans (m6.trans g5)⟩) ((l5.so k).trans s2) ((l5.fct k (by rw [s2]; decide)).trans h52)
        refine ⟨u', x', fun y o z => ?_, gRun_mono (gRun_trans (gRun_trans k2 l2) b2) (by rw [Nat.succ_mul r]; omega), gEnd_trans (fun q => ⟨h0, by have := l4 q; omega, by have := l4 q; omega⟩) (gFr_trans k5 l5 (Nat.le_refl _)) b3 (Nat.le_refl _), b4⟩
        rw [show f + (r + 1) + 1 = (f + r + 1) + 1 by omega, cW_writeMap_11, hiT_5 hk, Option.bind_some, h5, if_pos (n_ltl (by omega) (by omega) (by omega))]
        simp only [hrT_0 hk, hrT_1 hk, hrT_2 hk, hrT_3 hk, Option.bind_some, haT_1 hk i8, haT_2 hk i8, haT_3 hk i8, haT_4 hk i8, ho_169, n_succ, k1, l1, b1]
      · refine ⟨u2, x2, fun y o z => ?_, gRun_mono k2 (by rw [Nat.succ_mul r]; omega), ⟨e2, g2', k3, fun q => absurd q h2, k5⟩, fun q => absurd q h2⟩
        rw [show f + (r + 1) + 1 = (f + r + 1) + 1 by omega, cW_writeMap_11, hiT_5 hk, Option.bind_some, h5, if_pos (n_ltl (by omega) (by omega) (by omega))]
        simp only [hrT_0 hk, hrT_1 hk, hrT_2 hk, hrT_3 hk, Option.bind_some, haT_1 hk i8, haT_2 hk i8, haT_3 hk i8, haT_4 hk i8, ho_169, n_succ, k1, dead u2 y o z _ _ _ h2, k_mapDead hk dead h2 (show c ≤ 8 by omega) ((k5.fct k (by rw [s1]; decide)).trans h5) r (i + 1) f (by omega)]
    · exact ⟨u, x, fun y o z => k_mapDead hk dead h0 (by omega) h5 (r + 1) i f (by omega), gRun_mono gRun_refl (by omega), ⟨e, g, W, fun q => absurd q h0, gFr_refl⟩, fun q => absurd q h0⟩
end H
end
section
/-! getters: the quotient and the rest, as the class takes them and as the reference does -/
theorem f_shr (v : Int32) : (v >>> ((3 : Int32) &&& 31)).toInt = v.toInt / 8 := by
  have e : ((3 : Int32) &&& 31) = 3 := by decide
  rw [e]
  show (v.toBitVec.sshiftRight' ((3 : Int32).toBitVec.smod 32)).toInt = _
  have e2 : ((3 : Int32).toBitVec.smod 32).toNat = 3 := by decide
  rw [BitVec.toInt_sshiftRight', e2, Int.shiftRight_eq_div_pow]
  rfl
theorem f_and (v : Int32) : (v &&& 7).toInt = v.toInt % 8 := by
  have h1 : (v.toBitVec &&& 7#32).toNat = v.toBitVec.toNat % 8 := by
    rw [BitVec.toNat_and]
    show v.toBitVec.toNat &&& 7 = _
    rw [show (7 : Nat) = 2 ^ 3 - 1 from rfl, Nat.and_two_pow_sub_one_eq_mod]
  have h2 : (v &&& 7).toInt = (v.toBitVec &&& 7#32).toInt := rfl
  have h3 : v.toInt = v.toBitVec.toInt := rfl
  rw [h2, h3, BitVec.toInt_eq_toNat_cond, BitVec.toInt_eq_toNat_cond, h1]
  generalize v.toBitVec.toNat = t
  split <;> split <;> omega
theorem f_neg (v : Int32) : (v ^^^ 8 < 0) ↔ v.toInt < 0 := by
  rw [Int32.lt_iff_toInt_lt]
  show (v ^^^ 8).toInt < 0 ↔ _
  have h1 : (v ^^^ 8).toInt = (v.toBitVec ^^^ 8#32).toInt := rfl
  have h2 : (v.toBitVec ^^^ 8#32).msb = v.toBitVec.msb := by
    rw [BitVec.msb_xor]
    have : (8#32).msb = false := by decide
    rw [this, Bool.xor_false]
  have h3 := BitVec.msb_eq_toInt (x := v.toBitVec ^^^ 8#32)
  have h4 := BitVec.msb_eq_toInt (x := v.toBitVec)
  rw [h2, h4] at h3
  rw [h1]
  have h5 : v.toInt = v.toBitVec.toInt := rfl
  rw [h5]
  have := decide_eq_decide.mp h3
  exact this.symm
theorem f_td (T : Int) : (0 ≤ T ∨ 8 ∣ T → T.tdiv 8 = T / 8) ∧ (¬ (0 ≤ T ∨ 8 ∣ T) → T.tdiv 8 = T / 8 + 1) := by
  constructor
  · intro h; rw [Int.tdiv_eq_ediv, if_pos h]; omega
  · intro h; rw [Int.tdiv_eq_ediv, if_neg h]; rfl
theorem f_bounds (v : Int32) : -2147483648 ≤ v.toInt ∧ v.toInt ≤ 2147483647 := by
  have h1 := Int32.le_toInt v
  have h2 := Int32.toInt_lt v
  omega
theorem f_d8 (v : Int32) : (v / 8).toInt = v.toInt.tdiv 8 := Int32.toInt_div_of_ne_right v 8 (by decide)
theorem f_m8 (v : Int32) : (v / 8 * 8).toInt = v.toInt.tdiv 8 * 8 := by
  rw [Int32.toInt_mul, f_d8]
  have hb := f_bounds v
  have t := f_td v.toInt
  show (v.toInt.tdiv 8 * 8).bmod (2 ^ 32) = _
  generalize v.toInt = T at *
  generalize T.tdiv 8 = Q at *
  by_cases h : 0 ≤ T ∨ 8 ∣ T
  · have := t.1 h
    exact Int.bmod_eq_of_le_mul_two (by omega) (by omega)
  · have := t.2 h
    exact Int.bmod_eq_of_le_mul_two (by omega) (by omega)
theorem k_fd (v : Int32) : jM_floorDiv v 8 = some (v >>> ((3 : Int32) &&& 31)) := by
  have hb := f_bounds v
  have hd := f_d8 v
  have hm := f_m8 v
  have hs := f_shr v
  have t := f_td v.toInt
  unfold jM_floorDiv
  rw [if_neg (show ¬ (8 : Int32) = 0 by decide)]
  have fin : ∀ w : Int32, w.toInt = v.toInt / 8 → some w = some (v >>> ((3 : Int32) &&& 31)) := fun w hw => by
    congr 1
    exact Int32.toInt_inj.mp (hw.trans hs.symm)
  by_cases c : v ^^^ 8 < 0
  · have c2 := (f_neg v).mp c
    rw [if_pos c]
    by_cases c3 : v / 8 * 8 = v
    · rw [if_pos c3]
      refine fin _ ?_
      rw [← Int32.toInt_inj, hm] at c3
      rw [hd]
      by_cases h : 0 ≤ v.toInt ∨ 8 ∣ v.toInt
      · exact t.1 h
      · have := t.2 h; omega
    · rw [if_neg c3]
      refine fin _ ?_
      rw [← Int32.toInt_inj, hm] at c3
      have h : ¬ (0 ≤ v.toInt ∨ 8 ∣ v.toInt) := by
        intro h
        have := t.1 h
        omega
      have h2 := t.2 h
      rw [Int32.toInt_sub, hd, h2]
      show (v.toInt / 8 + 1 - 1).bmod (2 ^ 32) = _
      rw [Int.bmod_eq_of_le_mul_two (by omega) (by omega)]
      omega
  · have c2 : 0 ≤ v.toInt := by
      have := (f_neg v)
      by_cases q : v.toInt < 0
      · exact absurd (this.mpr q) c
      · omega
    rw [if_neg c]
    exact fin _ (hd.trans (t.1 (Or.inl c2)))
theorem k_fm (v : Int32) : jM_floorMod v 8 = some (v &&& 7) := by
  have hb := f_bounds v
  have hm := f_m8 v
  have hs := f_and v
  have t := f_td v.toInt
  have hr : (v - v / 8 * 8).toInt = v.toInt - v.toInt.tdiv 8 * 8 := by
    rw [Int32.toInt_sub, hm]
    generalize v.toInt = T at *
    generalize T.tdiv 8 = Q at *
    by_cases h : 0 ≤ T ∨ 8 ∣ T
    · have := t.1 h
      exact Int.bmod_eq_of_le_mul_two (by omega) (by omega)
    · have := t.2 h
      exact Int.bmod_eq_of_le_mul_two (by omega) (by omega)
  unfold jM_floorMod
  rw [if_neg (show ¬ (8 : Int32) = 0 by decide)]
  have fin : ∀ w : Int32, w.toInt = v.toInt % 8 → some w = some (v &&& 7) := fun w hw => by
    congr 1
    exact Int32.toInt_inj.mp (hw.trans hs.symm)
  have z0 : (0 : Int32).toInt = 0 := rfl
  by_cases c : v ^^^ 8 < 0
  · have c2 := (f_neg v).mp c
    rw [if_pos c]
    by_cases c3 : v - v / 8 * 8 = 0
    · rw [if_pos c3]
      refine fin _ ?_
      rw [← Int32.toInt_inj, hr, z0] at c3
      rw [hr]
      by_cases h : 0 ≤ v.toInt ∨ 8 ∣ v.toInt
      · have := t.1 h; omega
      · have := t.2 h; omega
    · rw [if_neg c3]
      refine fin _ ?_
      rw [← Int32.toInt_inj, hr, z0] at c3
      have h : ¬ (0 ≤ v.toInt ∨ 8 ∣ v.toInt) := by
        intro h
        have := t.1 h
        omega
      have h2 := t.2 h
      rw [Int32.toInt_add, hr, h2]
      show (v.toInt - (v.toInt / 8 + 1) * 8 + 8).bmod (2 ^ 32) = _
      rw [Int.bmod_eq_of_le_mul_two (by omega) (by omega)]
      omega
  · have c2 : 0 ≤ v.toInt := by
      have := (f_neg v)
      by_cases q : v.toInt < 0
      · exact absurd (this.mpr q) c
      · omega
    rw [if_neg c]
    refine fin _ ?_
    rw [hr, t.1 (Or.inl c2)]
    omega
end
section
/-! a getter that runs, on both sides -/
section H
variable {n m p q e g : Nat} {F : gWf}
theorem gW_T {u u' : gU} {x x' : gX} (W : gW n m p q e g u x) (T : gTi n m p q u' x') (h1 : u'.2.2.2.2.2.2.2.2.1 = u.2.2.2.2.2.2.2.2.1) (h2 : u'.2.2.2.2.2.2.2.2.2.1 = u.2.2.2.2.2.2.2.2.2.1) (h3 : u'.2.2.2.2.2.2.2.2.2.2.1 = u.2.2.2.2.2.2.2.2.2.2.1) (h4 : u'.2.2.2.2.2.2.2.2.2.2.2.1 = u.2.2.2.2.2.2.2.2.2.2.2.1) (h5 : x'.2.1 = x.2.1) (h6 : x'.2.2.2.2.2.2.2.2.2.2.2.2.2.1 = x.2.2.2.2.2.2.2.2.2.2.2.2.2.1) (h7 : x'.2.2.2.2.2.2.2.2.2.2.2.2.2.2.1 = x.2.2.2.2.2.2.2.2.2.2.2.2.2.2.1) : gW n m p q e g u' x' :=
  ⟨T, by rw [h1, h5]; exact W.oc, by rw [h1]; exact W.o2, by rw [h1]; exact W.he, by rw [h1]; exact W.hg, by rw [h1, h2]; exact W.dE, by rw [h1, h5]; exact W.xe, by rw [h1, h3, h6]; exact W.dr, by rw [h1]; exact W.ug, by rw [h1, h5]; exact W.xg, by rw [h1, h4, h7]; exact W.pl⟩
/-- both sides refuse: the outcome is set -/
theorem gW_bad {u : gU} {x : gX} {b : Int32} (W : gW n m p q e g u x) (hb : b = 1 ∨ b = 2) : gW n m p q e g ((u.1, u.2.1, u.2.2.1, u.2.2.2.1, u.2.2.2.2.1, u.2.2.2.2.2.1, u.2.2.2.2.2.2.1, u.2.2.2.2.2.2.2.1, gup u.2.2.2.2.2.2.2.2.1 4 b, u.2.2.2.2.2.2.2.2.2.1, u.2.2.2.2.2.2.2.2.2.2.1, u.2.2.2.2.2.2.2.2.2.2.2.1, u.2.2.2.2.2.2.2.2.2.2.2.2.1, u.2.2.2.2.2.2.2.2.2.2.2.2.2.1, u.2.2.2.2.2.2.2.2.2.2.2.2.2.2) : gU) ((x.1, gup x.2.1 26 b, x.2.2.1, x.2.2.2.1, x.2.2.2.2.1, x.2.2.2.2.2.1, x.2.2.2.2.2.2.1, x.2.2.2.2.2.2.2.1, x.2.2.2.2.2.2.2.2.1, x.2.2.2.2.2.2.2.2.2.1, x.2.2.2.2.2.2.2.2.2.2.1, x.2.2.2.2.2.2.2.2.2.2.2.1, x.2.2.2.2.2.2.2.2.2.2.2.2.1, x.2.2.2.2.2.2.2.2.2.2.2.2.2.1, x.2.2.2.2.2.2.2.2.2.2.2.2.2.2.1, x.2.2.2.2.2.2.2.2.2.2.2.2.2.2.2) : gX) := by
  have T := W.T
  have nb : ¬ b = 0 := by rcases hb with h | h <;> rw [h] <;> decide
  exact ⟨⟨T.hn, T.un, T.xn, T.ob, T.hm, T.um, T.xm, T.bs, T.b8, T.hp, T.up, T.xp, T.pa, T.pb, T.hq, T.uq, T.xq, T.ho, T.fo⟩, rfl, by rcases hb with h | h; exact Or.inr (Or.inl h); exact Or.inr (Or.inr h), fun h => absurd h nb, fun h => absurd h nb, fun h => absurd h nb, fun h => absurd h nb, fun h => absurd h nb, fun h => absurd h nb, fun h => absurd h nb, fun h => absurd h nb⟩
/-- what a getter leaves as it was -/
abbrev gGe  (u u' : gU) (x x' : gX) : Prop := (u'.2.2.2.2.2.2.2.2.2.2.2.2.2.1 = u.2.2.2.2.2.2.2.2.2.2.2.2.2.1) ∧ (∀ k, (u'.1 k).2.2.2.2.1 4 = (u.1 k).2.2.2.2.1 4) ∧ (∀ k, ¬ (u.1 k).2.2.2.2.1 4 = 0 → (u'.1 k).2.2.2.2.1 5 = (u.1 k).2.2.2.2.1 5) ∧ (u'.2.2.2.2.2.2.2.2.1 2 = u.2.2.2.2.2.2.2.2.1 2) ∧ (∀ i, ¬ i = 26 → x'.2.1 i = x.2.1 i) ∧ (x'.2.2.2.2.2.2.1 = x.2.2.2.2.2.2.1) ∧ (x'.2.2.2.2.2.2.2.1 = x.2.2.2.2.2.2.2.1) ∧ (x'.2.2.2.2.2.2.2.2.1 = x.2.2.2.2.2.2.2.2.1) ∧ (x'.2.2.2.2.2.2.2.2.2.1 = x.2.2.2.2.2.2.2.2.2.1) ∧ (u'.2.2.2.2.2.2.1 = u.2.2.2.2.2.2.1)
theorem gGe.gkd {u u' : gU} {x x' : gX} (h : gGe u u' x x') : u'.2.2.2.2.2.2.2.2.2.2.2.2.2.1 = u.2.2.2.2.2.2.2.2.2.2.2.2.2.1 := h.1
theorem gGe.so {u u' : gU} {x x' : gX} (h : gGe u u' x x') : ∀ k, (u'.1 k).2.2.2.2.1 4 = (u.1 k).2.2.2.2.1 4 := h.2.1
theorem gGe.fct {u u' : gU} {x x' : gX} (h : gGe u u' x x') : ∀ k, ¬ (u.1 k).2.2.2.2.1 4 = 0 → (u'.1 k).2.2.2.2.1 5 = (u.1 k).2.2.2.2.1 5 := h.2.2.1
theorem gGe.p2 {u u' : gU} {x x' : gX} (h : gGe u u' x x') : u'.2.2.2.2.2.2.2.2.1 2 = u.2.2.2.2.2.2.2.2.1 2 := h.2.2.2.1
theorem gGe.g188 {u u' : gU} {x x' : gX} (h : gGe u u' x x') : ∀ i, ¬ i = 26 → x'.2.1 i = x.2.1 i := h.2.2.2.2.1
theorem gGe.g201 {u u' : gU} {x x' : gX} (h : gGe u u' x x') : x'.2.2.2.2.2.2.1 = x.2.2.2.2.2.2.1 := h.2.2.2.2.2.1
theorem gGe.g202 {u u' : gU} {x x' : gX} (h : gGe u u' x x') : x'.2.2.2.2.2.2.2.1 = x.2.2.2.2.2.2.2.1 := h.2.2.2.2.2.2.1
theorem gGe.g203 {u u' : gU} {x x' : gX} (h : gGe u u' x x') : x'.2.2.2.2.2.2.2.2.1 = x.2.2.2.2.2.2.2.2.1 := h.2.2.2.2.2.2.2.1
theorem gGe.g204 {u u' : gU} {x x' : gX} (h : gGe u u' x x') : x'.2.2.2.2.2.2.2.2.2.1 = x.2.2.2.2.2.2.2.2.2.1 := h.2.2.2.2.2.2.2.2.1
theorem gGe.ga {u u' : gU} {x x' : gX} (h : gGe u u' x x') : u'.2.2.2.2.2.2.1 = u.2.2.2.2.2.2.1 := h.2.2.2.2.2.2.2.2.2
theorem w_getter {k c : Nat} {u : gU} {x : gX} {num : Int32} (W : gW n m p q e g u x) (h0 : u.2.2.2.2.2.2.2.2.1 4 = 0) (hkn : k < n) (O : gO n 0 c (u.1 k) (x.1 k)) : ∃ u' x', (∀ y o z, cW_runGetter (some 169) (some 1) (some (3 + 5 * k)) num (gH u y o z) = some (gH u' y o z)) ∧ (∀ y o z, mM_run (some 188) (Int32.ofNat k) num (gH y x o z) = some (num >>> ((3 : Int32) &&& 31), gH y x' o z)) ∧ gW n m p q e g u' x' ∧ gGe u u' x x' := by
  have T := W.T
  have hn := T.hn
  have hk : k < 32 := by omega
  have c6 : c ≤ 6 := O.c8
  have d10 : ¬ (1 : Int32) = 0 := by decide
  have same : gGe u u x x := ⟨rfl, fun _ => rfl, fun _ _ => rfl, rfl, fun _ _ => rfl, rfl, rfl, rfl, rfl, rfl⟩
  have obj : ∀ (q' : gQ) (p' : gP) (c' : Nat), gO n 0 c' q' p' → gW n m p q e g ((gup u.1 k q', u.2.1, u.2.2.1, u.2.2.2.1, u.2.2.2.2.1, u.2.2.2.2.2.1, u.2.2.2.2.2.2.1, u.2.2.2.2.2.2.2.1, u.2.2.2.2.2.2.2.2.1, u.2.2.2.2.2.2.2.2.2.1, u.2.2.2.2.2.2.2.2.2.2.1, u.2.2.2.2.2.2.2.2.2.2.2.1, u.2.2.2.2.2.2.2.2.2.2.2.2.1, u.2.2.2.2.2.2.2.2.2.2.2.2.2.1, u.2.2.2.2.2.2.2.2.2.2.2.2.2.2) : gU) ((gup x.1 k p', x.2.1, x.2.2.1, x.2.2.2.1, x.2.2.2.2.1, x.2.2.2.2.2.1, x.2.2.2.2.2.2.1, x.2.2.2.2.2.2.2.1, x.2.2.2.2.2.2.2.2.1, x.2.2.2.2.2.2.2.2.2.1, x.2.2.2.2.2.2.2.2.2.2.1, x.2.2.2.2.2.2.2.2.2.2.2.1, x.2.2.2.2.2.2.2.2.2.2.2.2.1, x.2.2.2.2.2.2.2.2.2.2.2.2.2.1, x.2.2.2.2.2.2.2.2.2.2.2.2.2.2.1, x.2.2.2.2.2.2.2.2.2.2.2.2.2.2.2) : gX) ∧ gGe u ((gup u.1 k q', u.2.1, u.2.2.1, u.2.2.2.1, u.2.2.2.2.1, u.2.2.2.2.2.1, u.2.2.2.2.2.2.1, u.2.2.2.2.2.2.2.1, u.2.2.2.2.2.2.2.2.1, u.2.2.2.2.2.2.2.2.2.1, u.2.2.2.2.2.2.2.2.2.2.1, u.2.2.2.2.2.2.2.2.2.2.2.1, u.2.2.2.2.2.2.2.2.2.2.2.2.1, u.2.2.2.2.2.2.2.2.2.2.2.2.2.1, u.2.2.2.2.2.2.2.2.2.2.2.2.2.2) : gU) x ((gup x.1 k p', x.2.1, x.2.2.1, x.2.2.2.1, x.2.2.2.2.1, x.2.2.2.2.2.1, x.2.2.2.2.2.2.1, x.2.2.2.2.2.2.2.1, x.2.2.2.2.2.2.2.2.1, x.2.2.2.2.2.2.2.2.2.1, x.2.2.2.2.2.2.2.2.2.2.1, x.2.2.2.2.2.2.2.2.2.2.2.1, x.2.2.2.2.2.2.2.2.2.2.2.2.1, x.2.2.2.2.2.2.2.2.2.2.2.2.2.1, x.2.2.2.2.2.2.2.2.2.2.2.2.2.2.1, x.2.2.2.2.2.2.2.2.2.2.2.2.2.2.2) : gX) := by
    intro q' p' c' O'
    refine ⟨gW_T W (gT_ob T ⟨0, c', O'⟩) rfl rfl rfl rfl rfl rfl rfl, rfl, fun j => ?_, fun j hj => ?_, rfl, fun _ _ => rfl, rfl, rfl, rfl, rfl, rfl⟩
    · show (gup u.1 k q' j).2.2.2.2.1 4 = _
      by_cases e : j = k
      · subst e; rw [gup_eq, O'.es, O.es]
      · rw [gup_ne e]
    · show (gup u.1 k q' j).2.2.2.2.1 5 = _
      by_cases e : j = k
      · subst e; exact absurd O.es hj
      · rw [gup_ne e]
  by_cases m1 : num &&& 7 = 1
  · refine ⟨((u.1, u.2.1, u.2.2.1, u.2.2.2.1, u.2.2.2.2.1, u.2.2.2.2.2.1, u.2.2.2.2.2.2.1, u.2.2.2.2.2.2.2.1, gup u.2.2.2.2.2.2.2.2.1 4 2, u.2.2.2.2.2.2.2.2.2.1, u.2.2.2.2.2.2.2.2.2.2.1, u.2.2.2.2.2.2.2.2.2.2.2.1, u.2.2.2.2.2.2.2.2.2.2.2.2.1, u.2.2.2.2.2.2.2.2.2.2.2.2.2.1, u.2.2.2.2.2.2.2.2.2.2.2.2.2.2) : gU), ((x.1, gup x.2.1 26 2, x.2.2.1, x.2.2.2.1, x.2.2.2.2.1, x.2.2.2.2.2.1, x.2.2.2.2.2.2.1, x.2.2.2.2.2.2.2.1, x.2.2.2.2.2.2.2.2.1, x.2.2.2.2.2.2.2.2.2.1, x.2.2.2.2.2.2.2.2.2.2.1, x.2.2.2.2.2.2.2.2.2.2.2.1, x.2.2.2.2.2.2.2.2.2.2.2.2.1, x.2.2.2.2.2.2.2.2.2.2.2.2.2.1, x.2.2.2.2.2.2.2.2.2.2.2.2.2.2.1, x.2.2.2.2.2.2.2.2.2.2.2.2.2.2.2) : gX), fun y o z => ?_, fun y o z => ?_, gW_bad W (Or.inr rfl), rfl, fun _ => rfl, fun _ _ => rfl, rfl, fun i hi => gup_ne hi, rfl, rfl, rfl, rfl, rfl⟩
    · simp only [cW_runGetter, k_fd, k_fm, Option.bind_some, m1, if_true, hp_169_4]
    · simp only [mM_run, m1, if_true, hp_188_26, Option.bind_some]
  · by_cases m2 : num &&& 7 = 2
    · obtain ⟨r, q', p', c', a1, a2, a3, a4⟩ := dp_tie (a := num >>> ((3 : Int32) &&& 31)) hk O
      refine ⟨_, _, fun y o z => ?_, fun y o z => ?_, (obj q' p' c' a4).1, (obj q' p' c' a4).2⟩
      · simp only [cW_runGetter, k_fd, k_fm, Option.bind_some, m2, show ¬ (2 : Int32) = 1 by decide, if_false, if_true, ho_T hk, a2]
      · simp only [mM_run, m2, show ¬ (2 : Int32) = 1 by decide, if_false, if_true, ho_188, Option.bind_some, a3 x rfl]
    · by_cases m3 : num &&& 7 = 3
      · have hv : gV n 0 4 (gcn 4 7) := Or.inr (Or.inr ⟨4, by omega, rfl, fun h => by omega⟩)
        have ix := fun y o z => k_index (u := u) (x := y) (o := o) (z := z) (a := 4) (b := num >>> ((3 : Int32) &&& 31)) hk O.ec (show c ≤ 8 by omega)
        have sl := fun y o z => r_slot (u := y) (x := x) (o := o) (z := z) (b := num >>> ((3 : Int32) &&& 31)) hk (rec_f6 O) (show c ≤ 8 by omega)
        simp only [← rec_find O] at sl
        have st := sp_tie (a := num >>> ((3 : Int32) &&& 31)) hk O hv
        have e7 : gcn 4 7 = 7 := by decide
        rw [e7] at st
        have m34 : ¬ (3 : Int32) = 1 ∧ ¬ (3 : Int32) = 2 ∧ ¬ (3 : Int32) = 4 := by decide
        cases hf : gfi (fun i => decide ((u.1 k).1 i = 4 ∧ (u.1 k).2.1 i = num >>> ((3 : Int32) &&& 31))) c 0 with
        | some j =>
          rw [hf] at ix sl
          have hj := (gfi_some _ _ _ hf).2.1
          refine ⟨u, x, fun y o z => ?_, fun y o z => ?_, W, same⟩
          · simp only [cW_runGetter, k_fd, k_fm, Option.bind_some, m3, m34.1, m34.2.1, if_false, if_true, ho_T hk, ix, gio, n_ne1 (n := j) (by omega)]
          · simp only [mM_run, m3, m34.1, m34.2.1, if_false, if_true, ho_188, Option.bind_some, sl, gis, n_nn (n := 8 * k + j) (by omega), mM_run_79, m34.2.2]
        | none =>
          rw [hf] at ix sl st
          rcases st with ⟨q', p', c', a1, a2, a3, a4⟩ | ⟨a1, a2, a3⟩
          · have c5 : c < 6 := by rcases a4 with h | h; exact h; exact absurd rfl h
            refine ⟨_, _, fun y o z => ?_, fun y o z => ?_, (obj q' p' c' a3).1, (obj q' p' c' a3).2⟩
            · simp only [cW_runGetter, k_fd, k_fm, Option.bind_some, m3, m34.1, m34.2.1, if_false, if_true, ho_T hk, ix, gio, a1]
            · simp only [mM_run, m3, m34.1, m34.2.1, if_false, if_true, ho_188, Option.bind_some, sl, gis, show (-1 : Int32) < 0 by decide, hr_188_3, ha_190 hk, rec_f6 O, show Int32.ofNat c < 6 from n_ltl (m := 6) (by omega) (by omega) c5, a2 x rfl]
          · refine ⟨u, x, fun y o z => ?_, fun y o z => ?_, W, same⟩
            · simp only [cW_runGetter, k_fd, k_fm, Option.bind_some, m3, m34.1, m34.2.1, if_false, if_true, ho_T hk, ix, gio, a1]
            · simp only [mM_run, m3, m34.1, m34.2.1, if_false, if_true, ho_188, Option.bind_some, sl, gis, show (-1 : Int32) < 0 by decide, hr_188_3, ha_190 hk, rec_f6 O, show ¬ Int32.ofNat c < 6 from n_nltl (m := 6) (by omega) (by omega) (by omega), mM_run_79, m34.2.2]
      · by_cases m4 : num &&& 7 = 4
        · have m44 : ¬ (4 : Int32) = 1 ∧ ¬ (4 : Int32) = 2 ∧ ¬ (4 : Int32) = 3 := by decide
          have det : ∀ y o z, cW_runGetter (some 169) (some 1) (some (3 + 5 * k)) num (gH u y o z) = (cS_detachBuffer (some 1) (num >>> ((3 : Int32) &&& 31)) (gH u y o z)).bind fun r => some r.2 := by
            intro y o z
            simp only [cW_runGetter, k_fd, k_fm, Option.bind_some, m4, m44.1, m44.2.1, m44.2.2, if_false, if_true, ho_1]
          rcases g_ob (num >>> ((3 : Int32) &&& 31)) n (by omega) with cc | ⟨b, hb, eb⟩
          · refine ⟨u, x, fun y o z => ?_, fun y o z => ?_, W, same⟩
            · rw [det]
              simp only [cS_detachBuffer, ho_1, Option.bind_some, k_free0 T.un cc, if_true]
            · simp only [mM_run, m4, m44.1, m44.2.1, m44.2.2, if_false, mM_run_79, if_true, ho_188, Option.bind_some, r_isout T.xn cc]
          · obtain ⟨s, c2, Ob⟩ := T.ob b hb
            have hb2 : b < 32 := by omega
            obtain ⟨_, _, _, _, _, _, _, e4, _⟩ := n_s6 s Ob.s8
            have is4 := fun y o z => r_isin (u := y) (x := x) (o := o) (z := z) (t := 4) T.xn hn hb
            have fr : ∀ y o z, cS_isFreeBuffer (some 1) (Int32.ofNat b) (gH u y o z) = some (if s = 4 ∧ (u.1 b).2.2.2.2.1 6 = 0 then 1 else 0) := by
              intro y o z
              simp only [cS_isFreeBuffer, ho_1, Option.bind_some, k_tin T.un hn hb, reduceCtorEq, if_false, hiT_4 hb2, hiT_6 hb2, Ob.es, e4]
              by_cases c1 : s = 4 <;> by_cases c2 : (u.1 b).2.2.2.2.1 6 = 0 <;> simp [c1, c2]
            by_cases f4 : s = 4
            · subst f4
              have ty4 : (x.1 b).2.2.2.2.1 = 4 := Ob.et
              have ref : ∀ y o z, mM_run (some 188) (Int32.ofNat k) num (gH y x o z) = some (num >>> ((3 : Int32) &&& 31), gH y ((gup x.1 b (gp_det (x.1 b)), x.2.1, x.2.2.1, x.2.2.2.1, x.2.2.2.2.1, x.2.2.2.2.2.1, x.2.2.2.2.2.2.1, x.2.2.2.2.2.2.2.1, x.2.2.2.2.2.2.2.2.1, x.2.2.2.2.2.2.2.2.2.1, x.2.2.2.2.2.2.2.2.2.2.1, x.2.2.2.2.2.2.2.2.2.2.2.1, x.2.2.2.2.2.2.2.2.2.2.2.2.1, x.2.2.2.2.2.2.2.2.2.2.2.2.2.1, x.2.2.2.2.2.2.2.2.2.2.2.2.2.2.1, x.2.2.2.2.2.2.2.2.2.2.2.2.2.2.2) : gX) o z) := by
                intro y o z
                simp only [mM_run, m4, m44.1, m44.2.1, m44.2.2, if_false, mM_run_79, if_true, ho_188, Option.bind_some, eb, is4, ty4, if_neg d10, r_detNow hb2]
              by_cases d0 : (u.1 b).2.2.2.2.1 6 = 0
              · refine ⟨((gup u.1 b (gq_det (u.1 b)), u.2.1, u.2.2.1, u.2.2.2.1, u.2.2.2.2.1, u.2.2.2.2.2.1, u.2.2.2.2.2.2.1, u.2.2.2.2.2.2.2.1, u.2.2.2.2.2.2.2.2.1, u.2.2.2.2.2.2.2.2.2.1, u.2.2.2.2.2.2.2.2.2.2.1, u.2.2.2.2.2.2.2.2.2.2.2.1, u.2.2.2.2.2.2.2.2.2.2.2.2.1, u.2.2.2.2.2.2.2.2.2.2.2.2.2.1, u.2.2.2.2.2.2.2.2.2.2.2.2.2.2) : gU), ((gup x.1 b (gp_det (x.1 b)), x.2.1, x.2.2.1, x.2.2.2.1, x.2.2.2.2.1, x.2.2.2.2.2.1, x.2.2.2.2.2.2.1, x.2.2.2.2.2.2.2.1, x.2.2.2.2.2.2.2.2.1, x.2.2.2.2.2.2.2.2.2.1, x.2.2.2.2.2.2.2.2.2.2.1, x.2.2.2.2.2.2.2.2.2.2.2.1, x.2.2.2.2.2.2.2.2.2.2.2.2.1, x.2.2.2.2.2.2.2.2.2.2.2.2.2.1, x.2.2.2.2.2.2.2.2.2.2.2.2.2.2.1, x.2.2.2.2.2.2.2.2.2.2.2.2.2.2.2) : gX), fun y o z => ?_, ref, gW_T W (gT_ob T ⟨4, c2, gO_det Ob⟩) rfl rfl rfl rfl rfl rfl rfl, rfl, fun j => ?_, fun j hj => ?_, rfl, fun _ _ => rfl, rfl, rfl, rfl, rfl, rfl⟩
                · rw [det, eb]
                  simp only [cS_detachBuffer, ho_1, Option.bind_some, fr, d0, and_self, if_true, if_neg d10, hr_1_0, hT hb2, hpT_6 hb2] <;> rfl
                · show (gup u.1 b (gq_det (u.1 b)) j).2.2.2.2.1 4 = _
                  by_cases e : j = b
                  · subst e; rw [gup_eq]; rfl
                  · rw [gup_ne e]
                · show (gup u.1 b (gq_det (u.1 b)) j).2.2.2.2.1 5 = _
                  by_cases e : j = b
                  · subst e; rw [gup_eq]; rfl
                  · rw [gup_ne e]
              · have er : gp_det (x.1 b) = x.1 b := by
                  have d1 : (x.1 b).2.2.2.2.2.2.1 = 1 := by
                    rw [Ob.ed]
                    rcases Ob.d4 with h | h
                    · exact absurd h d0
                    · exact h.1
                  have c0 : (x.1 b).2.2.2.2.2.1 = 0 := Ob.e0 d0
                  unfold gp_det
                  rw [← d1, ← c0]
                refine ⟨u, x, fun y o z => ?_, fun y o z => ?_, W, same⟩
                · rw [det, eb]
                  simp only [cS_detachBuffer, ho_1, Option.bind_some, fr, d0, and_false, if_false, if_true]
                · rw [ref, er, gup_self]
            · refine ⟨u, x, fun y o z => ?_, fun y o z => ?_, W, same⟩
              · rw [det, eb]
                simp only [cS_detachBuffer, ho_1, Option.bind_some, fr, f4, false_and, if_false, if_true]
              · have ty4 : ¬ (x.1 b).2.2.2.2.1 = 4 := fun h => f4 (e4.mp (Ob.et.symm.trans h))
                simp only [mM_run, m4, m44.1, m44.2.1, m44.2.2, if_false, mM_run_79, if_true, ho_188, Option.bind_some, eb, is4, if_neg ty4]
        · refine ⟨u, x, fun y o z => ?_, fun y o z => ?_, W, same⟩
          · simp only [cW_runGetter, k_fd, k_fm, Option.bind_some, if_neg m1, if_neg m2, if_neg m3, if_neg m4]
          · simp only [mM_run, if_neg m1, if_neg m2, if_neg m3, mM_run_79, if_neg m4]
end H
end
section
/-! records, written -/
theorem gm_layD : ∀ d : Nat, d < 13 → gm_lay (174 + d) = (100, List.replicate 6 (1, 0)) := by decide
section H
variable {n m p q : Nat} {F : gWf}
theorem hk_row {d i : Nat} {u : gU} {x : gX} {o : Nat → Int64} {z : gx_H} (hd : d < 13) (hi : i < 6) : gv_lI (gH u x o z) (some (174 + d)) (Int32.ofNat i) = some (u.2.2.2.2.2.2.2.2.2.2.2.2.2.1 d i) := by
  unfold gH
  rw [gm_lI (gm_blt (by omega)) (by rw [gm_layD d hd]) (n_nn (by omega)) (by rw [gm_layD d hd, n_cl (by omega)]; exact gm_rep hi), n_cl (by omega), gf_dI hd]
theorem hk_arr {d : Nat} {u : gU} {x : gX} {o : Nat → Int64} {z : gx_H} (hd : d < 13) : gv_lA (gH u x o z) (some 173) (Int32.ofNat d) = some (some (174 + d)) := by
  unfold gH
  refine gm_lA rfl rfl (n_nn (by omega)) ?_
  rw [n_cl (by omega)]
  show ((List.range 13).map fun i => ((0, 174 + i) : Nat × Nat))[d]? = _
  simp [hd]
theorem hk_cp {d k c : Nat} {u : gU} {x : gX} {o : Nat → Int64} {z : gx_H} (hd : d < 13) (hk : k < 32) (hc : c ≤ 6) : gv_cp (gH u x o z) (some (3 + 5 * k + 2)) 0 (some (174 + d)) 0 (Int32.ofNat c) = some (gH ((u.1, u.2.1, u.2.2.1, u.2.2.2.1, u.2.2.2.2.1, u.2.2.2.2.2.1, u.2.2.2.2.2.2.1, u.2.2.2.2.2.2.2.1, u.2.2.2.2.2.2.2.2.1, u.2.2.2.2.2.2.2.2.2.1, u.2.2.2.2.2.2.2.2.2.2.1, u.2.2.2.2.2.2.2.2.2.2.2.1, u.2.2.2.2.2.2.2.2.2.2.2.2.1, gup u.2.2.2.2.2.2.2.2.2.2.2.2.2.1 d (fun i => if i < c then (u.1 k).2.1 i else u.2.2.2.2.2.2.2.2.2.2.2.2.2.1 d i), u.2.2.2.2.2.2.2.2.2.2.2.2.2.2) : gU) x o z) := by
  unfold gH
  rw [gm_cp (n0 := 8) (n1 := 6) (by omega) (by omega) (gm_layA hk (by omega) (by omega)) (gm_layD d hd) (by omega) hc (by omega), gf_kd hk hd]
  rfl
theorem gW_kd {e g : Nat} {u : gU} {x : gX} {r : Nat → Nat → Int32} (W : gW n m p q e g u x) : gW n m p q e g ((u.1, u.2.1, u.2.2.1, u.2.2.2.1, u.2.2.2.2.1, u.2.2.2.2.2.1, u.2.2.2.2.2.2.1, u.2.2.2.2.2.2.2.1, u.2.2.2.2.2.2.2.2.1, u.2.2.2.2.2.2.2.2.2.1, u.2.2.2.2.2.2.2.2.2.2.1, u.2.2.2.2.2.2.2.2.2.2.2.1, u.2.2.2.2.2.2.2.2.2.2.2.2.1, r, u.2.2.2.2.2.2.2.2.2.2.2.2.2.2) : gU) x := by
  have T := W.T
  exact ⟨⟨T.hn, T.un, T.xn, T.ob, T.hm, T.um, T.xm, T.bs, T.b8, T.hp, T.up, T.xp, T.pa, T.pb, T.hq, T.uq, T.xq, T.ho, T.fo⟩, W.oc, W.o2, W.he, W.hg, W.dE, W.xe, W.dr, W.ug, W.xg, W.pl⟩
theorem k_lDead {u : gU} {y : gX} {o : Nat → Int64} {z : gx_H} {v : Int64} (h : ¬ u.2.2.2.2.2.2.2.2.1 4 = 0) (W : ∃ n m p q e g x, gW n m p q e g u x) : cW_writeZigzag (some 169) v (gH u y o z) = some (gH u y o z) := by
  obtain ⟨n, m, p, q, e, g, x, W⟩ := W
  obtain ⟨u', x', e', h1, h2, h3, h4, h5⟩ := w_zigzag (v := v) W
  have := (h5.dead h).1
  subst this
  exact h1 y o z
/-- one property's bytes and value, once a getter has run -/
theorem w_prop {D B e g : Nat} {u : gU} {x : gX} {key kd nm : Int32} (ih : gIH n m p q (D + 1) B F) (dead : gDead F) (W : gW n m p q e g u x) (st : u.2.2.2.2.2.2.2.2.1 4 = 0 → g < e ∧ x.2.1 18 = Int32.ofNat (D + 1)) (hv : ∃ j, j < 8 ∧ kd = Int32.ofNat j ∧ (j = 6 → ∃ b, b < n ∧ nm = Int32.ofNat b)) : ∃ u' x1 x', (∀ y o z, cW_writeProperty_54 F (some 169) (some 1) (some 165) (Int32.ofNat (D + 1)) key kd nm (gH u y o z) = some (gH u' y o z)) ∧ (∀ y o z, mM_sayProperty_47 (some 188) key kd nm (gH y x o z) = some (gH y x1 o z)) ∧ gRun B x1 x' ∧ gEnd n m p q (D + 1) e g u x u' x' ∧ (u'.2.2.2.2.2.2.2.2.1 4 = 0 → x'.2.1 18 = Int32.ofNat (D + 1)) := by
  obtain ⟨u1, x1, e1, a1, a2, a3, a4, a5⟩ := w_byte (b := 1) W ⟨1, by omega, rfl⟩
  obtain ⟨u2, x2, e2, b1, b2, b3, b4, b5⟩ := w_zigzag (v := Int32.toInt64 key) a3
  have B5 := gBy_trans a5 b5
  have cl : ∀ y o z, cW_writeProperty_54 F (some 169) (some 1) (some 165) (Int32.ofNat (D + 1)) key kd nm (gH u y o z) = F (some 169) (some 1) (some 165) kd nm (Int32.ofNat (D + 1 + 1)) (gH u2 y o z) := by
    intro y o z
    simp only [cW_writeProperty_54, ho_169, Option.bind_some, a1, b1, n_succ]
    exact Option.bind_fun_some _
  by_cases h0 : u.2.2.2.2.2.2.2.2.1 4 = 0
  · have oc : x.2.1 26 = 0 := W.oc.trans h0
    obtain ⟨g1, g2⟩ := st h0
    have rf : ∀ y o z, mM_sayProperty_47 (some 188) key kd nm (gH y x o z) = mM_sayProperty_68 (some 188) kd nm (gH y x2 o z) := by
      intro y o z
      have := b2 y o z
      simp only [mM_zigzag, Option.bind_some] at this
      simp only [mM_sayProperty_47, hi_188_26, Option.bind_some, oc, if_true, ho_188, a2, mM_zigzag, this]
    by_cases h2 : u2.2.2.2.2.2.2.2.2.1 4 = 0
    · have h1 := gBy_0 b5 h2
      have q1 := a4 h1
      have q2 := b4 h2
      have oc2 : x2.2.1 26 = 0 := b3.oc.trans h2
      obtain ⟨u3, x3, x4, k1, k2, k3, k4, k5⟩ := ih u2 x2 e2 g kd nm b3 h2 (by omega) ((B5.b188 18 (by omega) (by omega)).trans g2) hv
      refine ⟨u3, x3, x4, fun y o z => (cl y o z).trans (k1 y o z), fun y o z => ?_, k3, gEnd_trans (fun q => ⟨h0, by omega, by omega⟩) (gFr_by B5) k4 (Nat.le_refl _), k5⟩
      rw [rf]
      simp only [mM_sayProperty_68, hi_188_26, Option.bind_some, oc2, if_true, ho_188, k2]
    · have oc2 : ¬ x2.2.1 26 = 0 := fun h => h2 (b3.oc.symm.trans h)
      refine ⟨u2, x2, x2, fun y o z => (cl y o z).trans (dead u2 y o z _ _ _ h2), fun y o z => ?_, gRun_mono gRun_refl (by omega), ⟨e2, g, b3, fun q => absurd q h2, gFr_by B5⟩, fun q => absurd q h2⟩
      rw [rf]
      simp only [mM_sayProperty_68, hi_188_26, Option.bind_some, if_neg oc2]
  · have oc : ¬ x.2.1 26 = 0 := fun h => h0 (W.oc.symm.trans h)
    have eu := B5.dead h0
    refine ⟨u, x, x, fun y o z => ?_, fun y o z => ?_, gRun_mono gRun_refl (by omega), ⟨e, g, W, fun q => absurd q h0, gFr_refl⟩, fun q => absurd q h0⟩
    · rw [cl, eu.1]
      exact dead u y o z _ _ _ h0
    · simp only [mM_sayProperty_47, mM_sayProperty_68, hi_188_26, Option.bind_some, if_neg oc]
theorem w_recL {D k c B : Nat} (hD : D + 1 ≤ 12) (hkn : k < n) (hn : n ≤ 32) (ih : gIH n m p q (D + 1) B F) (dead : gDead F) (hc : c ≤ 6) : ∀ (r i f : Nat) (u : gU) (x : gX) (e g : Nat), i + r = c → gW n m p q e g u x → (u.2.2.2.2.2.2.2.2.1 4 = 0 → g < e ∧ x.2.1 18 = Int32.ofNat (D + 1) ∧ x.2.2.2.2.2.2.1 D = Int32.ofNat k ∧ x.2.2.2.2.2.2.2.1 D = Int32.ofNat i ∧ x.2.2.2.2.2.2.2.2.1 D = Int32.ofNat c ∧ ∀ j, j < c → x.2.2.2.2.2.2.2.2.2.1 (6 * D + j) = u.2.2.2.2.2.2.2.2.2.2.2.2.2.1 (D + 1) j) → (u.1 k).2.2.2.2.1 4 = Int32.ofNat 0 → ∃ u' x', (∀ y o z, cW_writeRecord_31 F (f + r + 1) (some 169) (some 1) (some 165) (some (3 + 5 * k)) (Int32.ofNat (D + 1)) (Int32.ofNat c) (some (174 + (D + 1))) (Int32.ofNat i) (gH u y o z) = some (gH u' y o z)) ∧ gRun (r * (B + 1) + 1) x x' ∧ gEnd n m p q D e g u x u' x' ∧ (u'.2.2.2.2.2.2.2.2.1 4 = 0 → x'.2.1 18 = Int32.ofNat D) := by
  have hk : k < 32 := by omega
  have hD14 : D < 14 := by omega
  have d13 : D + 1 < 13 := by omega
  have gone : ∀ (r i f : Nat) (u : gU) (x : gX) (e g : Nat), i + r = c → gW n m p q e g u x → ¬ u.2.2.2.2.2.2.2.2.1 4 = 0 → ∃ u' x', (∀ y o z, cW_writeRecord_31 F (f + r + 1) (some 169) (some 1) (some 165) (some (3 + 5 * k)) (Int32.ofNat (D + 1)) (Int32.ofNat c) (some (174 + (D + 1))) (Int32.ofNat i) (gH u y o z) = some (gH u' y o z)) ∧ gRun (r * (B + 1) + 1) x x' ∧ gEnd n m p q D e g u x u' x' ∧ (u'.2.2.2.2.2.2.2.2.1 4 = 0 → x'.2.1 18 = Int32.ofNat D) := by
    intro r i f u x e g h W h0
    refine ⟨u, x, fun y o z => ?_, gRun_mono gRun_refl (by omega), ⟨e, g, W, fun q => absurd q h0, gFr_refl⟩, fun q => absurd q h0⟩
    rw [cW_writeRecord_31]
    by_cases c1 : Int32.ofNat i < Int32.ofNat c
    · simp only [if_pos c1, hi_169_4, Option.bind_some, if_neg h0, cW_writeRecord_80, ho_169, k_wbDead h0]
    · simp only [if_neg c1, cW_writeRecord_80, ho_169, Option.bind_some, k_wbDead h0]
  intro r
  induction r with
  | zero =>
    intro i f u x e g h W st s1
    obtain rfl : i = c := by omega
    by_cases h0 : u.2.2.2.2.2.2.2.2.1 4 = 0
    · obtain ⟨g1, g2, g3, g4, g5, g6⟩ := st h0
      obtain ⟨s, c', O⟩ := W.T.ob k hkn
      have es : s = 0 := (n_eq (by have := O.s8; omega) (by omega)).mp (O.es.symm.trans s1)
      subst es
      obtain ⟨u1, x1, e1, a1, a2, a3, a4, a5⟩ := w_byte (b := 0) W ⟨0, by omega, rfl⟩
      have nx : ∀ y o z, mM_sayNext (some 188) (gH y x o z) = some (gH y ((x1.1, gup x1.2.1 18 (Int32.ofNat D), x1.2.2.1, x1.2.2.2.1, x1.2.2.2.2.1, x1.2.2.2.2.2.1, x1.2.2.2.2.2.2.1, x1.2.2.2.2.2.2.2.1, x1.2.2.2.2.2.2.2.2.1, x1.2.2.2.2.2.2.2.2.2.1, x1.2.2.2.2.2.2.2.2.2.2.1, x1.2.2.2.2.2.2.2.2.2.2.2.1, x1.2.2.2.2.2.2.2.2.2.2.2.2.1, x1.2.2.2.2.2.2.2.2.2.2.2.2.2.1, x1.2.2.2.2.2.2.2.2.2.2.2.2.2.2.1, x1.2.2.2.2.2.2.2.2.2.2.2.2.2.2.2) : gX) o z) := by
        intro y o z
        have p18 : x1.2.1 18 = Int32.ofNat (D + 1) := (a5.b188 18 (by omega) (by omega)).trans g2
        simp only [mM_sayNext, hi_188_18, Option.bind_some, g2, n_pred, hr_188_19, ha_201 hD14, g3, hr_188_20, ha_202 hD14, g4, hr_188_2, ha_189 hk, O.et, hr_188_21, ha_203 hD14, g5, if_true, show Int32.ofNat 0 = (0 : Int32) from rfl, ho_188, a2, p18, hp_188_18]
      refine ⟨u1, ((x1.1, gup x1.2.1 18 (Int32.ofNat D), x1.2.2.1, x1.2.2.2.1, x1.2.2.2.2.1, x1.2.2.2.2.2.1, x1.2.2.2.2.2.2.1, x1.2.2.2.2.2.2.2.1, x1.2.2.2.2.2.2.2.2.1, x1.2.2.2.2.2.2.2.2.2.1, x1.2.2.2.2.2.2.2.2.2.2.1, x1.2.2.2.2.2.2.2.2.2.2.2.1, x1.2.2.2.2.2.2.2.2.2.2.2.2.1, x1.2.2.2.2.2.2.2.2.2.2.2.2.2.1, x1.2.2.2.2.2.2.2.2.2.2.2.2.2.2.1, x1.2.2.2.2.2.2.2.2.2.2.2.2.2.2.2) : gX), fun y o z => ?_, gRun_mono (gRun_step (W.oc.trans h0) g2 hD14 nx) (by omega), ⟨e1, g, gW_x a3 rfl (fun i h => gup_ne h) rfl rfl rfl rfl rfl rfl, fun q => ⟨h0, by have := a4 q; omega, by have := a4 q; omega⟩, ?_⟩, fun _ => rfl⟩
      · rw [cW_writeRecord_31, if_neg (n_nltl (by omega) (by omega) (by omega))]
        simp only [cW_writeRecord_80, ho_169, Option.bind_some, a1]
      · have := gFr_by (D := D) a5
        exact ⟨this.fkd, this.so, this.fct, this.pi, this.hk, this.fpa⟩
    · exact gone 0 i f u x e g (by omega) W h0
  | succ r IH =>
    intro i f u x e g h W st s1
    by_cases h0 : u.2.2.2.2.2.2.2.2.1 4 = 0
    · obtain ⟨g1, g2, g3, g4, g5, g6⟩ := st h0
      obtain ⟨s, c', O⟩ := W.T.ob k hkn
      have es : s = 0 := (n_eq (by have := O.s8; omega) (by omega)).mp (O.es.symm.trans s1)
      subst es
      have c6 : c' ≤ 6 := O.c8
      have i6 : i < 6 := by omega
      have hi : i < c := by omega
      have ne : ¬ Int32.ofNat i = Int32.ofNat c := fun q => by have := (n_eq (by omega) (by omega)).mp q; omega
      have key := g6 i hi
      have W27 : gW n m p q e g u ((x.1, x.2.1, x.2.2.1, x.2.2.2.1, x.2.2.2.2.1, x.2.2.2.2.2.1, x.2.2.2.2.2.2.1, gup x.2.2.2.2.2.2.2.1 D (Int32.ofNat (i + 1)), x.2.2.2.2.2.2.2.2.1, x.2.2.2.2.2.2.2.2.2.1, x.2.2.2.2.2.2.2.2.2.2.1, x.2.2.2.2.2.2.2.2.2.2.2.1, x.2.2.2.2.2.2.2.2.2.2.2.2.1, x.2.2.2.2.2.2.2.2.2.2.2.2.2.1, x.2.2.2.2.2.2.2.2.2.2.2.2.2.2.1, x.2.2.2.2.2.2.2.2.2.2.2.2.2.2.2) : gX) := gW_x W rfl (fun _ _ => rfl) rfl rfl rfl rfl rfl rfl
      have F27 : gFr D u u x ((x.1, x.2.1, x.2.2.1, x.2.2.2.1, x.2.2.2.2.1, x.2.2.2.2.2.1, x.2.2.2.2.2.2.1, gup x.2.2.2.2.2.2.2.1 D (Int32.ofNat (i + 1)), x.2.2.2.2.2.2.2.2.1, x.2.2.2.2.2.2.2.2.2.1, x.2.2.2.2.2.2.2.2.2.2.1, x.2.2.2.2.2.2.2.2.2.2.2.1, x.2.2.2.2.2.2.2.2.2.2.2.2.1, x.2.2.2.2.2.2.2.2.2.2.2.2.2.1, x.2.2.2.2.2.2.2.2.2.2.2.2.2.2.1, x.2.2.2.2.2.2.2.2.2.2.2.2.2.2.2) : gX) := ⟨fun _ _ => rfl, fun _ => rfl, fun _ _ => rfl, fun j hj => ⟨rfl, gup_ne (by omega), rfl⟩, fun _ _ => rfl, rfl⟩
      have ix := fun y o z => k_index (u := u) (x := y) (o := o) (z := z) (a := 4) (b := u.2.2.2.2.2.2.2.2.2.2.2.2.2.1 (D + 1) i) hk O.ec (show c' ≤ 8 by omega)
      have sl : ∀ y o z, mM_slotOf (some 188) (Int32.ofNat k) (u.2.2.2.2.2.2.2.2.2.2.2.2.2.1 (D + 1) i) (gH y ((x.1, x.2.1, x.2.2.1, x.2.2.2.1, x.2.2.2.2.1, x.2.2.2.2.2.1, x.2.2.2.2.2.2.1, gup x.2.2.2.2.2.2.2.1 D (Int32.ofNat (i + 1)), x.2.2.2.2.2.2.2.2.1, x.2.2.2.2.2.2.2.2.2.1, x.2.2.2.2.2.2.2.2.2.2.1, x.2.2.2.2.2.2.2.2.2.2.2.1, x.2.2.2.2.2.2.2.2.2.2.2.2.1, x.2.2.2.2.2.2.2.2.2.2.2.2.2.1, x.2.2.2.2.2.2.2.2.2.2.2.2.2.2.1, x.2.2.2.2.2.2.2.2.2.2.2.2.2.2.2) : gX) o z) = some (gis k (gfi (fun j => decide ((u.1 k).1 j = 4 ∧ (u.1 k).2.1 j = u.2.2.2.2.2.2.2.2.2.2.2.2.2.1 (D + 1) i)) c' 0)) := fun y o z => by
        rw [r_slot (x := ((x.1, x.2.1, x.2.2.1, x.2.2.2.1, x.2.2.2.2.1, x.2.2.2.2.2.1, x.2.2.2.2.2.2.1, gup x.2.2.2.2.2.2.2.1 D (Int32.ofNat (i + 1)), x.2.2.2.2.2.2.2.2.1, x.2.2.2.2.2.2.2.2.2.1, x.2.2.2.2.2.2.2.2.2.2.1, x.2.2.2.2.2.2.2.2.2.2.2.1, x.2.2.2.2.2.2.2.2.2.2.2.2.1, x.2.2.2.2.2.2.2.2.2.2.2.2.2.1, x.2.2.2.2.2.2.2.2.2.2.2.2.2.2.1, x.2.2.2.2.2.2.2.2.2.2.2.2.2.2.2) : gX)) hk (rec_f6 O) (show c' ≤ 8 by omega), rec_find O]
      have top : ∀ y o z, mM_sayNext (some 188) (gH y x o z) = mM_sayProperty (some 188) (Int32.ofNat k) (u.2.2.2.2.2.2.2.2.2.2.2.2.2.1 (D + 1) i) (gH y ((x.1, x.2.1, x.2.2.1, x.2.2.2.1, x.2.2.2.2.1, x.2.2.2.2.2.1, x.2.2.2.2.2.2.1, gup x.2.2.2.2.2.2.2.1 D (Int32.ofNat (i + 1)), x.2.2.2.2.2.2.2.2.1, x.2.2.2.2.2.2.2.2.2.1, x.2.2.2.2.2.2.2.2.2.2.1, x.2.2.2.2.2.2.2.2.2.2.2.1, x.2.2.2.2.2.2.2.2.2.2.2.2.1, x.2.2.2.2.2.2.2.2.2.2.2.2.2.1, x.2.2.2.2.2.2.2.2.2.2.2.2.2.2.1, x.2.2.2.2.2.2.2.2.2.2.2.2.2.2.2) : gX) o z) := by
        intro y o z
        simp only [mM_sayNext, hi_188_18, Option.bind_some, g2, n_pred, hr_188_19, ha_201 hD14, g3, hr_188_20, ha_202 hD14, g4, hr_188_2, ha_189 hk, O.et, hr_188_21, ha_203 hD14, g5, if_neg ne, hb_202 hD14, n_succ, show Int32.ofNat 0 = (0 : Int32) from rfl, if_true, hr_188_22, n_6, ha_204 (show 6 * D + i < 84 by omega), key, ho_188]
        exact Option.bind_fun_some _
      have cl : ∀ y o z, cW_writeRecord_31 F (f + (r + 1) + 1) (some 169) (some 1) (some 165) (some (3 + 5 * k)) (Int32.ofNat (D + 1)) (Int32.ofNat c) (some (174 + (D + 1))) (Int32.ofNat i) (gH u y o z) = (if gio (gfi (fun j => decide ((u.1 k).1 j = 4 ∧ (u.1 k).2.1 j = u.2.2.2.2.2.2.2.2.2.2.2.2.2.1 (D + 1) i)) c' 0) = -1 then cW_writeRecord_31 F (f + r + 1) (some 169) (some 1) (some 165) (some (3 + 5 * k)) (Int32.ofNat (D + 1)) (Int32.ofNat c) (some (174 + (D + 1))) (Int32.ofNat (i + 1)) (gH u y o z) else (cW_writeProperty F (some 169) (some 1) (some 165) (some (3 + 5 * k)) (gio (gfi (fun j => decide ((u.1 k).1 j = 4 ∧ (u.1 k).2.1 j = u.2.2.2.2.2.2.2.2.2.2.2.2.2.1 (D + 1) i)) c' 0)) (Int32.ofNat (D + 1)) (gH u y o z)).bind fun h10 => cW_writeRecord_31 F (f + r + 1) (some 169) (some 1) (some 165) (some (3 + 5 * k)) (Int32.ofNat (D + 1)) (Int32.ofNat c) (some (174 + (D + 1))) (Int32.ofNat (i + 1)) h10) := by
        intro y o z
        rw [show f + (r + 1) + 1 = (f + r + 1) + 1 by omega, cW_writeRecord_31, if_pos (n_ltl (by omega) (by omega) (by omega))]
        simp only [hi_169_4, Option.bind_some, h0, if_true, hk_row d13 i6, ho_T hk, ix, cW_writeRecord_74, n_succ, ho_169]
      have keep : ∀ (u2 : gU) (x3 : gX) (e3 g3' : Nat), gW n m p q e3 g3' u2 x3 → (u2.2.2.2.2.2.2.2.2.1 4 = 0 → e ≤ e3 ∧ g3' + e ≤ g + e3) → gFr (D + 1) u u2 ((x.1, x.2.1, x.2.2.1, x.2.2.2.1, x.2.2.2.2.1, x.2.2.2.2.2.1, x.2.2.2.2.2.2.1, gup x.2.2.2.2.2.2.2.1 D (Int32.ofNat (i + 1)), x.2.2.2.2.2.2.2.2.1, x.2.2.2.2.2.2.2.2.2.1, x.2.2.2.2.2.2.2.2.2.2.1, x.2.2.2.2.2.2.2.2.2.2.2.1, x.2.2.2.2.2.2.2.2.2.2.2.2.1, x.2.2.2.2.2.2.2.2.2.2.2.2.2.1, x.2.2.2.2.2.2.2.2.2.2.2.2.2.2.1, x.2.2.2.2.2.2.2.2.2.2.2.2.2.2.2) : gX) x3 → (u2.2.2.2.2.2.2.2.2.1 4 = 0 → x3.2.1 18 = Int32.ofNat (D + 1)) → ∃ u' x', (∀ y o z, cW_writeRecord_31 F (f + r + 1) (some 169) (some 1) (some 165) (some (3 + 5 * k)) (Int32.ofNat (D + 1)) (Int32.ofNat c) (some (174 + (D + 1))) (Int32.ofNat (i + 1)) (gH u2 y o z) = some (gH u' y o z)) ∧ gRun (r * (B + 1) + 1) x3 x' ∧ gEnd n m p q D e g u x u' x' ∧ (u'.2.2.2.2.2.2.2.2.1 4 = 0 → x'.2.1 18 = Int32.ofNat D) := by
        intro u2 x3 e3 g3' l1 l2 l3 l4
        obtain ⟨u', x', b1, b2, b3, b4⟩ := IH (i + 1) f u2 x3 e3 g3' (by omega) l1 (fun q => by
          obtain ⟨m2, m3⟩ := l2 q
          obtain ⟨p1, p2, p3⟩ := l3.pi D (by omega)
          refine ⟨by omega, l4 q, p1.trans g3, p2.trans gup_eq, p3.trans g5, fun j hj => ?_⟩
          rw [l3.fkd (D + 1) (Nat.le_refl _)]
          exact (l3.hk (6 * D + j) (by omega)).trans (g6 j hj)) ((l3.so k).trans s1)
        exact ⟨u', x', b1, b2, gEnd_trans (fun q => ⟨h0, l2 q⟩) (gFr_trans F27 l3 (by omega)) b3 (Nat.le_refl _), b4⟩
      cases hf : gfi (fun j => decide ((u.1 k).1 j = 4 ∧ (u.1 k).2.1 j = u.2.2.2.2.2.2.2.2.2.2.2.2.2.1 (D + 1) i)) c' 0 with
      | none =>
        rw [hf] at cl sl
        have nx : ∀ y o z, mM_sayNext (some 188) (gH y x o z) = some (gH y ((x.1, x.2.1, x.2.2.1, x.2.2.2.1, x.2.2.2.2.1, x.2.2.2.2.2.1, x.2.2.2.2.2.2.1, gup x.2.2.2.2.2.2.2.1 D (Int32.ofNat (i + 1)), x.2.2.2.2.2.2.2.2.1, x.2.2.2.2.2.2.2.2.2.1, x.2.2.2.2.2.2.2.2.2.2.1, x.2.2.2.2.2.2.2.2.2.2.2.1, x.2.2.2.2.2.2.2.2.2.2.2.2.1, x.2.2.2.2.2.2.2.2.2.2.2.2.2.1, x.2.2.2.2.2.2.2.2.2.2.2.2.2.2.1, x.2.2.2.2.2.2.2.2.2.2.2.2.2.2.2) : gX) o z) := by
          intro y o z
          rw [top]
          simp only [mM_sayProperty, ho_188, Option.bind_some, sl, gis, show (-1 : Int32) < 0 by decide, if_true]
        obtain ⟨u', x', b1, b2, b3, b4⟩ := keep u _ e g W27 (fun _ => ⟨Nat.le_refl _, Nat.le_refl _⟩) gFr_refl (fun _ => g2)
        refine ⟨u', x', fun y o z => ?_, gRun_mono (gRun_trans (gRun_step (W.oc.trans h0) g2 hD14 nx) b2) (by rw [Nat.succ_mul]; omega), b3, b4⟩
        rw [cl, if_pos (show gio none = -1 from rfl), b1]
      | some t =>
        rw [hf] at cl sl
        obtain ⟨_, ht, ht2, _⟩ := gfi_some _ _ _ hf
        have ht' : t < c' := by omega
        have t8 : t < 8 := by omega
        simp only [decide_eq_true_eq] at ht2
        obtain ⟨v1, v2⟩ := O.vs (by omega) t ht'
        have vv := O.vv (by omega) t ht'
        have nt : ¬ gio (some t) = -1 := n_ne1 (n := t) (by omega)
        have sp : ∀ y o z, mM_sayNext (some 188) (gH y x o z) = (if (u.1 k).2.2.1 t = 8 then (mM_run (some 188) (Int32.ofNat k) ((u.1 k).2.2.2.1 t) (gH y ((x.1, x.2.1, x.2.2.1, x.2.2.2.1, x.2.2.2.2.1, x.2.2.2.2.2.1, x.2.2.2.2.2.2.1, gup x.2.2.2.2.2.2.2.1 D (Int32.ofNat (i + 1)), x.2.2.2.2.2.2.2.2.1, x.2.2.2.2.2.2.2.2.2.1, x.2.2.2.2.2.2.2.2.2.2.1, x.2.2.2.2.2.2.2.2.2.2.2.1, x.2.2.2.2.2.2.2.2.2.2.2.2.1, x.2.2.2.2.2.2.2.2.2.2.2.2.2.1, x.2.2.2.2.2.2.2.2.2.2.2.2.2.2.1, x.2.2.2.2.2.2.2.2.2.2.2.2.2.2.2) : gX) o z)).bind fun r12 => mM_sayProperty_47 (some 188) (u.2.2.2.2.2.2.2.2.2.2.2.2.2.1 (D + 1) i) 4 r12.1 r12.2 else mM_sayProperty_47 (some 188) (u.2.2.2.2.2.2.2.2.2.2.2.2.2.1 (D + 1) i) ((u.1 k).2.2.1 t) ((u.1 k).2.2.2.1 t) (gH y ((x.1, x.2.1, x.2.2.1, x.2.2.2.1, x.2.2.2.2.1, x.2.2.2.2.2.1, x.2.2.2.2.2.2.1, gup x.2.2.2.2.2.2.2.1 D (Int32.ofNat (i + 1)), x.2.2.2.2.2.2.2.2.1, x.2.2.2.2.2.2.2.2.2.1, x.2.2.2.2.2.2.2.2.2.2.1, x.2.2.2.2.2.2.2.2.2.2.2.1, x.2.2.2.2.2.2.2.2.2.2.2.2.1, x.2.2.2.2.2.2.2.2.2.2.2.2.2.1, x.2.2.2.2.2.2.2.2.2.2.2.2.2.2.1, x.2.2.2.2.2.2.2.2.2.2.2.2.2.2.2) : gX) o z)) := by
          intro y o z
          rw [top]
          simp only [mM_sayProperty, ho_188, Option.bind_some, sl]
          rw [if_neg (gis_neg (k := k) (j := t) (by omega))]
          simp only [gis, hr_188_8, hr_188_9, Option.bind_some, ha_195 hk t8, ha_196 hk t8, v1, v2]
        have wp : ∀ y o z, cW_writeProperty F (some 169) (some 1) (some 165) (some (3 + 5 * k)) (gio (some t)) (Int32.ofNat (D + 1)) (gH u y o z) = (if (u.1 k).2.2.1 t = 8 then (cW_runGetter (some 169) (some 1) (some (3 + 5 * k)) ((u.1 k).2.2.2.1 t) (gH u y o z)).bind fun h10 => cW_writeProperty_54 F (some 169) (some 1) (some 165) (Int32.ofNat (D + 1)) (u.2.2.2.2.2.2.2.2.2.2.2.2.2.1 (D + 1) i) 4 ((u.1 k).2.2.2.1 t >>> ((3 : Int32) &&& 31)) h10 else cW_writeProperty_54 F (some 169) (some 1) (some 165) (Int32.ofNat (D + 1)) (u.2.2.2.2.2.2.2.2.2.2.2.2.2.1 (D + 1) i) ((u.1 k).2.2.1 t) ((u.1 k).2.2.2.1 t) (gH u y o z)) := by
          intro y o z
          simp only [cW_writeProperty, gio, hrT_1 hk, hrT_2 hk, hrT_3 hk, Option.bind_some, haT_2 hk t8, haT_3 hk t8, haT_4 hk t8, ht2.2, ho_169, k_fd]
        by_cases k8 : (u.1 k).2.2.1 t = 8
        · obtain ⟨u1, x1, a1, a2, a3, a4⟩ := w_getter (num := (u.1 k).2.2.2.1 t) W27 h0 hkn O
          have Fg : gFr (D + 1) u u1 ((x.1, x.2.1, x.2.2.1, x.2.2.2.1, x.2.2.2.2.1, x.2.2.2.2.2.1, x.2.2.2.2.2.2.1, gup x.2.2.2.2.2.2.2.1 D (Int32.ofNat (i + 1)), x.2.2.2.2.2.2.2.2.1, x.2.2.2.2.2.2.2.2.2.1, x.2.2.2.2.2.2.2.2.2.2.1, x.2.2.2.2.2.2.2.2.2.2.2.1, x.2.2.2.2.2.2.2.2.2.2.2.2.1, x.2.2.2.2.2.2.2.2.2.2.2.2.2.1, x.2.2.2.2.2.2.2.2.2.2.2.2.2.2.1, x.2.2.2.2.2.2.2.2.2.2.2.2.2.2.2) : gX) x1 := ⟨fun j _ => by rw [a4.gkd], a4.so, a4.fct, fun j _ => by rw [a4.g201, a4.g202, a4.g203]; exact ⟨rfl, rfl, rfl⟩, fun j _ => by rw [a4.g204], a4.ga⟩
          obtain ⟨u2, x2, x3, b1, b2, b3, b4, b5⟩ := w_prop (D := D) (key := u.2.2.2.2.2.2.2.2.2.2.2.2.2.1 (D + 1) i) (kd := 4) (nm := (u.1 k).2.2.2.1 t >>> ((3 : Int32) &&& 31)) ih dead a3 (fun q => ⟨g1, (a4.g188 18 (by omega)).trans g2⟩) ⟨4, by omega, rfl, fun h => by omega⟩
          obtain ⟨e3, g3', l1, l2, l3⟩ := b4
          have nx : ∀ y o z, mM_sayNext (some 188) (gH y x o z) = some (gH y x2 o z) := by
            intro y o z
            rw [sp, if_pos k8, a2, Option.bind_some]
            exact b2 y o z
          obtain ⟨u', x', f1, f2, f3, f4⟩ := keep u2 x3 e3 g3' l1 (fun q => (l2 q).2) (gFr_trans Fg l3 (Nat.le_refl _)) b5
          refine ⟨u', x', fun y o z => ?_, gRun_mono (gRun_trans (gRun_trans (gRun_step (W.oc.trans h0) g2 hD14 nx) b3) f2) (by rw [Nat.succ_mul]; omega), f3, f4⟩
          rw [cl, if_neg nt, wp, if_pos k8, a1, Option.bind_some, b1, Option.bind_some, f1]
        · obtain ⟨u2, x2, x3, b1, b2, b3, b4, b5⟩ := w_prop (D := D) (key := u.2.2.2.2.2.2.2.2.2.2.2.2.2.1 (D + 1) i) (kd := (u.1 k).2.2.1 t) (nm := (u.1 k).2.2.2.1 t) ih dead W27 (fun q => ⟨g1, g2⟩) (by
            rcases vv with h | h | h
            · omega
            · exact absurd h.1 k8
            · exact h)
          obtain ⟨e3, g3', l1, l2, l3⟩ := b4
          have nx : ∀ y o z, mM_sayNext (some 188) (gH y x o z) = some (gH y x2 o z) := by
            intro y o z
            rw [sp, if_neg k8]
            exact b2 y o z
          obtain ⟨u', x', f1, f2, f3, f4⟩ := keep u2 x3 e3 g3' l1 (fun q => (l2 q).2) l3 b5
          refine ⟨u', x', fun y o z => ?_, gRun_mono (gRun_trans (gRun_trans (gRun_step (W.oc.trans h0) g2 hD14 nx) b3) f2) (by rw [Nat.succ_mul]; omega), f3, f4⟩
          rw [cl, if_neg nt, wp, if_neg k8, b1, Option.bind_some, f1]
    · exact gone (r + 1) i f u x e g h W h0
end H
end
