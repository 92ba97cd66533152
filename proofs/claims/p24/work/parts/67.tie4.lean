section
/-! places, marks, the pile -/
section H
variable {n m p q e g : Nat} {F : gWf} {u : gU} {x : gX} {o : Nat → Int64} {z : gx_H}
theorem k_placeL {t : Nat} {a : Int32} (hp : u.2.2.2.2.2.1 1 = Int32.ofNat t) (h4 : t ≤ 4) : ∀ (r i f : Nat), i + r = t → cH_placeOf_2 (f + r + 1) (some 165) a (Int32.ofNat i) (gH u x o z) = some (gio (gfi (fun i => decide (u.2.2.2.2.2.2.1 i = a)) r i)) := by
  intro r
  induction r with
  | zero =>
    intro i f h
    rw [cH_placeOf_2, hi_165_1, Option.bind_some, hp, if_neg (n_nltl (by omega) (by omega) (by omega))]
    rfl
  | succ r ih =>
    intro i f h
    rw [show f + (r + 1) + 1 = (f + r + 1) + 1 by omega, cH_placeOf_2, hi_165_1, Option.bind_some, hp, if_pos (n_ltl (by omega) (by omega) (by omega)), gfi]
    simp only [hr_165_0, ha_166 (show i < 4 by omega), Option.bind_some, n_succ, ih (i + 1) f (by omega)]
    by_cases c : u.2.2.2.2.2.2.1 i = a
    · simp [c, gio]
    · simp [c]
theorem k_place {t : Nat} {a : Int32} (hp : u.2.2.2.2.2.1 1 = Int32.ofNat t) (h4 : t ≤ 4) : cH_placeOf (some 165) a (gH u x o z) = some (gio (gfi (fun i => decide (u.2.2.2.2.2.2.1 i = a)) t 0)) := by
  have := k_placeL (x := x) (o := o) (z := z) (a := a) hp h4 t 0 (1000000000000000 - t - 1) (by omega)
  rw [show 1000000000000000 - t - 1 + t + 1 = 1000000000000000 by omega] at this
  exact this
theorem r_passL {t : Nat} {a : Int32} (hp : x.2.1 10 = Int32.ofNat t) (h4 : t ≤ 4) : ∀ (r i f : Nat), i + r = t → mM_passOf_2 (f + r + 1) (some 188) a (Int32.ofNat i) (gH u x o z) = some (gio (gfi (fun i => decide (x.2.2.1 i = a)) r i)) := by
  intro r
  induction r with
  | zero =>
    intro i f h
    rw [mM_passOf_2, hi_188_10, Option.bind_some, hp, if_neg (n_nltl (by omega) (by omega) (by omega))]
    rfl
  | succ r ih =>
    intro i f h
    rw [show f + (r + 1) + 1 = (f + r + 1) + 1 by omega, mM_passOf_2, hi_188_10, Option.bind_some, hp, if_pos (n_ltl (by omega) (by omega) (by omega)), gfi]
    simp only [hr_188_11, ha_197 (show i < 4 by omega), Option.bind_some, n_succ, ih (i + 1) f (by omega)]
    by_cases c : x.2.2.1 i = a
    · simp [c, gio]
    · simp [c]
theorem r_pass {t : Nat} {a : Int32} (hp : x.2.1 10 = Int32.ofNat t) (h4 : t ≤ 4) : mM_passOf (some 188) a (gH u x o z) = some (gio (gfi (fun i => decide (x.2.2.1 i = a)) t 0)) := by
  have := r_passL (u := u) (o := o) (z := z) (a := a) hp h4 t 0 (1000000000000000 - t - 1) (by omega)
  rw [show 1000000000000000 - t - 1 + t + 1 = 1000000000000000 by omega] at this
  exact this
theorem pass_find {a : Int32} (T : gTi n m p q u x) : gfi (fun i => decide (u.2.2.2.2.2.2.1 i = a)) p 0 = gfi (fun i => decide (x.2.2.1 i = a)) p 0 := by
  refine gfi_congr _ _ fun t _ ht => ?_
  rw [T.pa t (by omega)]
theorem r_push {D : Nat} {a w : Int32} (hD : D < 14) (h18 : x.2.1 18 = Int32.ofNat D) : mM_push (some 188) a w (gH u x o z) = some (gH u ((x.1, gup x.2.1 18 (Int32.ofNat (D + 1)), x.2.2.1, x.2.2.2.1, x.2.2.2.2.1, x.2.2.2.2.2.1, gup x.2.2.2.2.2.2.1 D a, gup x.2.2.2.2.2.2.2.1 D 0, gup x.2.2.2.2.2.2.2.2.1 D w, x.2.2.2.2.2.2.2.2.2.1, x.2.2.2.2.2.2.2.2.2.2.1, x.2.2.2.2.2.2.2.2.2.2.2.1, x.2.2.2.2.2.2.2.2.2.2.2.2.1, x.2.2.2.2.2.2.2.2.2.2.2.2.2.1, x.2.2.2.2.2.2.2.2.2.2.2.2.2.2.1, x.2.2.2.2.2.2.2.2.2.2.2.2.2.2.2) : gX) o z) := by
  simp only [mM_push, hr_188_19, hr_188_20, hr_188_21, hi_188_18, Option.bind_some, h18, hb_201 hD, hb_202 hD, hb_203 hD, n_succ, hp_188_18]
theorem k_give {b : Nat} (hb : b < 32) : cW_givePlace (some 169) (Int32.ofNat b) (gH u x o z) = some (gH ((u.1, u.2.1, u.2.2.1, u.2.2.2.1, u.2.2.2.2.1, u.2.2.2.2.2.1, u.2.2.2.2.2.2.1, u.2.2.2.2.2.2.2.1, gup u.2.2.2.2.2.2.2.2.1 2 (u.2.2.2.2.2.2.2.2.1 2 + 1), u.2.2.2.2.2.2.2.2.2.1, u.2.2.2.2.2.2.2.2.2.2.1, gup u.2.2.2.2.2.2.2.2.2.2.2.1 b (u.2.2.2.2.2.2.2.2.1 2), u.2.2.2.2.2.2.2.2.2.2.2.2.1, u.2.2.2.2.2.2.2.2.2.2.2.2.2.1, u.2.2.2.2.2.2.2.2.2.2.2.2.2.2) : gU) x o z) := by
  simp only [cW_givePlace, hr_169_1, hi_169_2, Option.bind_some, hb_172 hb, hp_169_2]
theorem r_give {b : Nat} (hb : b < 32) : mM_getPlace (some 188) (Int32.ofNat b) (gH u x o z) = some (gH u ((x.1, gup x.2.1 29 (x.2.1 29 + 1), x.2.2.1, x.2.2.2.1, x.2.2.2.2.1, x.2.2.2.2.2.1, x.2.2.2.2.2.2.1, x.2.2.2.2.2.2.2.1, x.2.2.2.2.2.2.2.2.1, x.2.2.2.2.2.2.2.2.2.1, x.2.2.2.2.2.2.2.2.2.2.1, x.2.2.2.2.2.2.2.2.2.2.2.1, x.2.2.2.2.2.2.2.2.2.2.2.2.1, x.2.2.2.2.2.2.2.2.2.2.2.2.2.1, gup x.2.2.2.2.2.2.2.2.2.2.2.2.2.2.1 b (x.2.1 29), x.2.2.2.2.2.2.2.2.2.2.2.2.2.2.2) : gX) o z) := by
  simp only [mM_getPlace, hr_188_30, hi_188_29, Option.bind_some, hb_209 hb, hp_188_29]
theorem pl_give {b : Nat} (hb : b < 32) (hg : g < 1000) (h : ∀ i, i < 32 → x.2.2.2.2.2.2.2.2.2.2.2.2.2.2.1 i = u.2.2.2.2.2.2.2.2.2.2.2.1 i ∧ (u.2.2.2.2.2.2.2.2.2.2.2.1 i = -1 ∨ ∃ j, j < 1000 ∧ u.2.2.2.2.2.2.2.2.2.2.2.1 i = Int32.ofNat j)) : ∀ i, i < 32 → gup x.2.2.2.2.2.2.2.2.2.2.2.2.2.2.1 b (Int32.ofNat g) i = gup u.2.2.2.2.2.2.2.2.2.2.2.1 b (Int32.ofNat g) i ∧ (gup u.2.2.2.2.2.2.2.2.2.2.2.1 b (Int32.ofNat g) i = -1 ∨ ∃ j, j < 1000 ∧ gup u.2.2.2.2.2.2.2.2.2.2.2.1 b (Int32.ofNat g) i = Int32.ofNat j) := by
  intro i hi
  by_cases e : i = b
  · subst e; rw [gup_eq, gup_eq]; exact ⟨rfl, Or.inr ⟨g, hg, rfl⟩⟩
  · rw [gup_ne e, gup_ne e]; exact h i hi
/-- a place is given on both sides -/
theorem gW_give {b : Nat} (W : gW n m p q e g u x) (h0 : u.2.2.2.2.2.2.2.2.1 4 = 0) (hlt : g < e) (hb : b < 32) : gW n m p q e (g + 1) ((u.1, u.2.1, u.2.2.1, u.2.2.2.1, u.2.2.2.2.1, u.2.2.2.2.2.1, u.2.2.2.2.2.2.1, u.2.2.2.2.2.2.2.1, gup u.2.2.2.2.2.2.2.2.1 2 (u.2.2.2.2.2.2.2.2.1 2 + 1), u.2.2.2.2.2.2.2.2.2.1, u.2.2.2.2.2.2.2.2.2.2.1, gup u.2.2.2.2.2.2.2.2.2.2.2.1 b (u.2.2.2.2.2.2.2.2.1 2), u.2.2.2.2.2.2.2.2.2.2.2.2.1, u.2.2.2.2.2.2.2.2.2.2.2.2.2.1, u.2.2.2.2.2.2.2.2.2.2.2.2.2.2) : gU) ((x.1, gup x.2.1 29 (x.2.1 29 + 1), x.2.2.1, x.2.2.2.1, x.2.2.2.2.1, x.2.2.2.2.2.1, x.2.2.2.2.2.2.1, x.2.2.2.2.2.2.2.1, x.2.2.2.2.2.2.2.2.1, x.2.2.2.2.2.2.2.2.2.1, x.2.2.2.2.2.2.2.2.2.2.1, x.2.2.2.2.2.2.2.2.2.2.2.1, x.2.2.2.2.2.2.2.2.2.2.2.2.1, x.2.2.2.2.2.2.2.2.2.2.2.2.2.1, gup x.2.2.2.2.2.2.2.2.2.2.2.2.2.2.1 b (x.2.1 29), x.2.2.2.2.2.2.2.2.2.2.2.2.2.2.2) : gX) := by
  have T := W.T
  have he := W.he h0
  rw [W.ug h0, W.xg h0, n_succ]
  exact ⟨⟨T.hn, T.un, T.xn, T.ob, T.hm, T.um, T.xm, T.bs, T.b8, T.hp, T.up, T.xp, T.pa, T.pb, T.hq, T.uq, T.xq, T.ho, T.fo⟩, W.oc, W.o2, W.he, fun _ => by omega, W.dE, W.xe, W.dr, fun _ => rfl, fun _ => rfl, fun _ => pl_give hb (by omega) (W.pl h0)⟩
theorem gW_giveD {r : Nat → Int32} {v : Int32} (W : gW n m p q e g u x) (h0 : ¬ u.2.2.2.2.2.2.2.2.1 4 = 0) : gW n m p q e g ((u.1, u.2.1, u.2.2.1, u.2.2.2.1, u.2.2.2.2.1, u.2.2.2.2.2.1, u.2.2.2.2.2.2.1, u.2.2.2.2.2.2.2.1, gup u.2.2.2.2.2.2.2.2.1 2 v, u.2.2.2.2.2.2.2.2.2.1, u.2.2.2.2.2.2.2.2.2.2.1, r, u.2.2.2.2.2.2.2.2.2.2.2.2.1, u.2.2.2.2.2.2.2.2.2.2.2.2.2.1, u.2.2.2.2.2.2.2.2.2.2.2.2.2.2) : gU) x := by
  have T := W.T
  exact ⟨⟨T.hn, T.un, T.xn, T.ob, T.hm, T.um, T.xm, T.bs, T.b8, T.hp, T.up, T.xp, T.pa, T.pb, T.hq, T.uq, T.xq, T.ho, T.fo⟩, W.oc, W.o2, fun h => absurd h h0, fun h => absurd h h0, fun h => absurd h h0, fun h => absurd h h0, fun h => absurd h h0, fun h => absurd h h0, fun h => absurd h h0, fun h => absurd h h0⟩
/-- an object's mark and its place, in either order -/
theorem w_mark {b : Nat} {v : Int32} (W : gW n m p q e g u x) (h0 : u.2.2.2.2.2.2.2.2.1 4 = 0) (hlt : g < e) (hb : b < 32) (hv : ∃ j, j < 256 ∧ v = Int32.ofNat j) : ∃ u1 x1 e1, (∀ y o z, ((cW_givePlace (some 169) (Int32.ofNat b) (gH u y o z)).bind fun h => cW_writeByte (some 169) v h) = some (gH u1 y o z)) ∧ (∀ y o z, ((mM_say (some 188) v (gH y x o z)).bind fun h => mM_getPlace (some 188) (Int32.ofNat b) h) = some (gH y x1 o z)) ∧ gW n m p q e1 (g + 1) u1 x1 ∧ (u1.2.2.2.2.2.2.2.2.1 4 = 0 → e1 = e + 1) ∧ u1.1 = u.1 ∧ u1.2.2.2.2.2.2.2.2.2.2.2.2.2.1 = u.2.2.2.2.2.2.2.2.2.2.2.2.2.1 ∧ x1.1 = x.1 ∧ x1.2.1 18 = x.2.1 18 ∧ x1.2.2.2.2.2.2.1 = x.2.2.2.2.2.2.1 ∧ x1.2.2.2.2.2.2.2.1 = x.2.2.2.2.2.2.2.1 ∧ x1.2.2.2.2.2.2.2.2.1 = x.2.2.2.2.2.2.2.2.1 ∧ x1.2.2.2.2.2.2.2.2.2.1 = x.2.2.2.2.2.2.2.2.2.1 ∧ u1.2.2.2.2.2.2.1 = u.2.2.2.2.2.2.1 := by
  have d10 : ¬ (1 : Int32) = 0 := by decide
  have T := W.T
  have he := W.he h0
  have de := W.dE h0
  have xe := W.xe h0
  have ug := W.ug h0
  have xg := W.xg h0
  have oc : x.2.1 26 = 0 := W.oc.trans h0
  by_cases c3 : e < 300
  · have l3 : Int32.ofNat e < 300 := n_ltl (m := 300) (by omega) (by omega) c3
    have n3 : ¬ Int32.ofNat e = 300 := fun q => by have := (n_eq (m := 300) (by omega) (by omega)).mp q; omega
    refine ⟨((u.1, u.2.1, u.2.2.1, u.2.2.2.1, u.2.2.2.2.1, u.2.2.2.2.2.1, u.2.2.2.2.2.2.1, u.2.2.2.2.2.2.2.1, gup u.2.2.2.2.2.2.2.2.1 2 (Int32.ofNat (g + 1)), gup u.2.2.2.2.2.2.2.2.2.1 1 (Int32.ofNat (e + 1)), gup u.2.2.2.2.2.2.2.2.2.2.1 e v, gup u.2.2.2.2.2.2.2.2.2.2.2.1 b (Int32.ofNat g), u.2.2.2.2.2.2.2.2.2.2.2.2.1, u.2.2.2.2.2.2.2.2.2.2.2.2.2.1, u.2.2.2.2.2.2.2.2.2.2.2.2.2.2) : gU), ((x.1, gup (gup x.2.1 27 (Int32.ofNat (e + 1))) 29 (Int32.ofNat (g + 1)), x.2.2.1, x.2.2.2.1, x.2.2.2.2.1, x.2.2.2.2.2.1, x.2.2.2.2.2.2.1, x.2.2.2.2.2.2.2.1, x.2.2.2.2.2.2.2.2.1, x.2.2.2.2.2.2.2.2.2.1, x.2.2.2.2.2.2.2.2.2.2.1, x.2.2.2.2.2.2.2.2.2.2.2.1, x.2.2.2.2.2.2.2.2.2.2.2.2.1, gup x.2.2.2.2.2.2.2.2.2.2.2.2.2.1 e v, gup x.2.2.2.2.2.2.2.2.2.2.2.2.2.2.1 b (Int32.ofNat g), x.2.2.2.2.2.2.2.2.2.2.2.2.2.2.2) : gX), e + 1, fun y o z => ?_, fun y o z => ?_, ?_, fun _ => rfl, rfl, rfl, rfl, rfl, rfl, rfl, rfl, rfl, rfl⟩
    · have h0' : gup u.2.2.2.2.2.2.2.2.1 2 (Int32.ofNat (g + 1)) 4 = 0 := h0
      simp only [k_give hb, Option.bind_some, ug, n_succ, cW_writeByte, hi_169_4, h0', if_true, hr_169_0, ho_170, cB_append, hi_170_1, de, if_pos l3, hr_170_0, hb_171 c3, hp_170_1, if_neg d10]
    · have x29 : gup x.2.1 27 (Int32.ofNat (e + 1)) 29 = Int32.ofNat g := xg
      simp only [mM_say, mM_say_22, hi_188_26, Option.bind_some, oc, if_true, hi_188_27, xe, if_neg n3, hr_188_28, hb_208 c3, hp_188_27, n_succ, r_give hb, x29]
    · refine ⟨⟨T.hn, T.un, T.xn, T.ob, T.hm, T.um, T.xm, T.bs, T.b8, T.hp, T.up, T.xp, T.pa, T.pb, T.hq, T.uq, T.xq, T.ho, T.fo⟩, W.oc, W.o2, fun _ => by omega, fun _ => by omega, fun _ => rfl, fun _ => rfl, fun _ i hi => ?_, fun _ => rfl, fun _ => rfl, fun _ => pl_give hb (by omega) (W.pl h0)⟩
      show gup x.2.2.2.2.2.2.2.2.2.2.2.2.2.1 e v i = gup u.2.2.2.2.2.2.2.2.2.2.1 e v i ∧ ∃ j, j < 256 ∧ gup u.2.2.2.2.2.2.2.2.2.2.1 e v i = Int32.ofNat j
      by_cases c : i = e
      · subst c; rw [gup_eq, gup_eq]; exact ⟨rfl, hv⟩
      · rw [gup_ne c, gup_ne c]; exact W.dr h0 i (by omega)
  · obtain rfl : e = 300 := by omega
    refine ⟨((u.1, u.2.1, u.2.2.1, u.2.2.2.1, u.2.2.2.2.1, u.2.2.2.2.2.1, u.2.2.2.2.2.2.1, u.2.2.2.2.2.2.2.1, gup (gup u.2.2.2.2.2.2.2.2.1 2 (Int32.ofNat (g + 1))) 4 1, u.2.2.2.2.2.2.2.2.2.1, u.2.2.2.2.2.2.2.2.2.2.1, gup u.2.2.2.2.2.2.2.2.2.2.2.1 b (Int32.ofNat g), u.2.2.2.2.2.2.2.2.2.2.2.2.1, u.2.2.2.2.2.2.2.2.2.2.2.2.2.1, u.2.2.2.2.2.2.2.2.2.2.2.2.2.2) : gU), ((x.1, gup (gup x.2.1 26 1) 29 (Int32.ofNat (g + 1)), x.2.2.1, x.2.2.2.1, x.2.2.2.2.1, x.2.2.2.2.2.1, x.2.2.2.2.2.2.1, x.2.2.2.2.2.2.2.1, x.2.2.2.2.2.2.2.2.1, x.2.2.2.2.2.2.2.2.2.1, x.2.2.2.2.2.2.2.2.2.2.1, x.2.2.2.2.2.2.2.2.2.2.2.1, x.2.2.2.2.2.2.2.2.2.2.2.2.1, x.2.2.2.2.2.2.2.2.2.2.2.2.2.1, gup x.2.2.2.2.2.2.2.2.2.2.2.2.2.2.1 b (Int32.ofNat g), x.2.2.2.2.2.2.2.2.2.2.2.2.2.2.2) : gX), 300, fun y o z => ?_, fun y o z => ?_, ?_, fun h => absurd h d10, rfl, rfl, rfl, rfl, rfl, rfl, rfl, rfl, rfl⟩
    · have h0' : gup u.2.2.2.2.2.2.2.2.1 2 (Int32.ofNat (g + 1)) 4 = 0 := h0
      simp only [k_give hb, Option.bind_some, ug, n_succ, cW_writeByte, hi_169_4, h0', if_true, hr_169_0, ho_170, cB_append, hi_170_1, de, if_neg (show ¬ Int32.ofNat 300 < 300 by decide), hp_169_4]
    · have x29 : gup x.2.1 26 1 29 = Int32.ofNat g := xg
      simp only [mM_say, mM_say_22, hi_188_26, Option.bind_some, oc, if_true, hi_188_27, xe, show Int32.ofNat 300 = (300 : Int32) from rfl, hp_188_26, gup_eq, if_neg d10, r_give hb, x29, n_succ]
    · exact ⟨⟨T.hn, T.un, T.xn, T.ob, T.hm, T.um, T.xm, T.bs, T.b8, T.hp, T.up, T.xp, T.pa, T.pb, T.hq, T.uq, T.xq, T.ho, T.fo⟩, rfl, Or.inr (Or.inl rfl), fun h => absurd h d10, fun h => absurd h d10, fun h => absurd h d10, fun h => absurd h d10, fun h => absurd h d10, fun h => absurd h d10, fun h => absurd h d10, fun h => absurd h d10⟩
/-- the reference piles a list, a map or a set up -/
theorem r_tail {D b s c : Nat} (hb : b < 32) (hD : D < 14) (h18 : x.2.1 18 = Int32.ofNat D) (hs : s = 1 ∨ s = 2 ∨ s = 3) (hc : (x.1 b).2.2.2.2.2.1 = Int32.ofNat c) (h8 : c ≤ 8) : mM_sayObject_120 (some 188) (Int32.ofNat b) (Int32.ofNat s) (gH u x o z) = some (gH u ((x.1, gup x.2.1 18 (Int32.ofNat (D + 1)), x.2.2.1, x.2.2.2.1, x.2.2.2.2.1, x.2.2.2.2.2.1, gup x.2.2.2.2.2.2.1 D (Int32.ofNat b), gup x.2.2.2.2.2.2.2.1 D 0, gup x.2.2.2.2.2.2.2.2.1 D (Int32.ofNat (if s = 2 then 2 * c else c)), x.2.2.2.2.2.2.2.2.2.1, x.2.2.2.2.2.2.2.2.2.2.1, x.2.2.2.2.2.2.2.2.2.2.2.1, x.2.2.2.2.2.2.2.2.2.2.2.2.1, x.2.2.2.2.2.2.2.2.2.2.2.2.2.1, x.2.2.2.2.2.2.2.2.2.2.2.2.2.2.1, x.2.2.2.2.2.2.2.2.2.2.2.2.2.2.2) : gX) o z) := by
  have s4 : ¬ Int32.ofNat s = 4 := by rcases hs with rfl | rfl | rfl <;> decide
  have s0 : ¬ Int32.ofNat s = 0 := by rcases hs with rfl | rfl | rfl <;> decide
  have t210 : mM_sayObject_210 (some 188) (Int32.ofNat b) (Int32.ofNat s) (gH u x o z) = some (gH u ((x.1, gup x.2.1 18 (Int32.ofNat (D + 1)), x.2.2.1, x.2.2.2.1, x.2.2.2.2.1, x.2.2.2.2.2.1, gup x.2.2.2.2.2.2.1 D (Int32.ofNat b), gup x.2.2.2.2.2.2.2.1 D 0, gup x.2.2.2.2.2.2.2.2.1 D (Int32.ofNat (if s = 2 then 2 * c else c)), x.2.2.2.2.2.2.2.2.2.1, x.2.2.2.2.2.2.2.2.2.2.1, x.2.2.2.2.2.2.2.2.2.2.2.1, x.2.2.2.2.2.2.2.2.2.2.2.2.1, x.2.2.2.2.2.2.2.2.2.2.2.2.2.1, x.2.2.2.2.2.2.2.2.2.2.2.2.2.2.1, x.2.2.2.2.2.2.2.2.2.2.2.2.2.2.2) : gX) o z) := by
    unfold mM_sayObject_210
    by_cases s2 : s = 2
    · subst s2
      have e2 : (2 : Int32) * Int32.ofNat c = Int32.ofNat (2 * c) := by rw [Int32.ofNat_mul]; rfl
      simp only [show Int32.ofNat 2 = (2 : Int32) from rfl, if_true, hr_188_3, Option.bind_some, ha_190 hb, hc, e2, mM_sayObject_234, ho_188, r_push hD h18]
    · have s2' : ¬ Int32.ofNat s = 2 := fun q => s2 ((n_eq (m := 2) (by omega) (by omega)).mp q)
      simp only [if_neg s2', if_neg s2, hr_188_3, Option.bind_some, ha_190 hb, hc, mM_sayObject_234, ho_188, r_push hD h18]
  have t158 : mM_sayObject_158 (some 188) (Int32.ofNat b) (Int32.ofNat s) (gH u x o z) = mM_sayObject_210 (some 188) (Int32.ofNat b) (Int32.ofNat s) (gH u x o z) := by
    unfold mM_sayObject_158
    rw [if_neg s4, mM_sayObject_165, hr_188_3, Option.bind_some, ha_190 hb, Option.bind_some, if_neg s0]
    split <;> rfl
  unfold mM_sayObject_120
  rw [mM_sayObject_122, hr_188_3, Option.bind_some, ha_190 hb, Option.bind_some, if_neg s4, ← t210, ← t158]
  split <;> rfl
/-- the reference keeps a record's keys and piles it up -/
theorem r_keysL {D b c : Nat} (hb : b < 32) (hD : D < 13) (hc6 : c ≤ 6) : ∀ (r i f : Nat) (x : gX), i + r = c → x.2.1 18 = Int32.ofNat D → (x.1 b).2.2.2.2.2.1 = Int32.ofNat c → ∃ h, (∀ y o z, mM_sayObject_165 (f + r + 1) (some 188) (Int32.ofNat b) 0 (Int32.ofNat i) (gH y x o z) = some (gH y ((x.1, gup x.2.1 18 (Int32.ofNat (D + 1)), x.2.2.1, x.2.2.2.1, x.2.2.2.2.1, x.2.2.2.2.2.1, gup x.2.2.2.2.2.2.1 D (Int32.ofNat b), gup x.2.2.2.2.2.2.2.1 D 0, gup x.2.2.2.2.2.2.2.2.1 D (Int32.ofNat c), h, x.2.2.2.2.2.2.2.2.2.2.1, x.2.2.2.2.2.2.2.2.2.2.2.1, x.2.2.2.2.2.2.2.2.2.2.2.2.1, x.2.2.2.2.2.2.2.2.2.2.2.2.2.1, x.2.2.2.2.2.2.2.2.2.2.2.2.2.2.1, x.2.2.2.2.2.2.2.2.2.2.2.2.2.2.2) : gX) o z)) ∧ (∀ j, j < 6 * D → h j = x.2.2.2.2.2.2.2.2.2.1 j) ∧ (∀ j, j < i → h (6 * D + j) = x.2.2.2.2.2.2.2.2.2.1 (6 * D + j)) ∧ ∀ j, i ≤ j → j < c → h (6 * D + j) = (x.1 b).2.1 j := by
  intro r
  induction r with
  | zero =>
    intro i f x h h18 hc
    refine ⟨x.2.2.2.2.2.2.2.2.2.1, fun y o z => ?_, fun _ _ => rfl, fun _ _ => rfl, fun j h1 h2 => by omega⟩
    rw [mM_sayObject_165, hr_188_3, Option.bind_some, ha_190 hb, Option.bind_some, hc, if_neg (n_nltl (by omega) (by omega) (by omega))]
    simp only [mM_sayObject_210, show ¬ (0 : Int32) = 2 by decide, if_false, hr_188_3, Option.bind_some, ha_190 hb, hc, mM_sayObject_234, ho_188, r_push (show D < 14 by omega) h18]
  | succ r ih =>
    intro i f x h h18 hc
    have i8 : i < 8 := by omega
    obtain ⟨h2, k1, k2, k3, k4⟩ := ih (i + 1) f ((x.1, x.2.1, x.2.2.1, x.2.2.2.1, x.2.2.2.2.1, x.2.2.2.2.2.1, x.2.2.2.2.2.2.1, x.2.2.2.2.2.2.2.1, x.2.2.2.2.2.2.2.2.1, gup x.2.2.2.2.2.2.2.2.2.1 (6 * D + i) ((x.1 b).2.1 i), x.2.2.2.2.2.2.2.2.2.2.1, x.2.2.2.2.2.2.2.2.2.2.2.1, x.2.2.2.2.2.2.2.2.2.2.2.2.1, x.2.2.2.2.2.2.2.2.2.2.2.2.2.1, x.2.2.2.2.2.2.2.2.2.2.2.2.2.2.1, x.2.2.2.2.2.2.2.2.2.2.2.2.2.2.2) : gX) (by omega) h18 hc
    refine ⟨h2, fun y o z => ?_, fun j hj => (k2 j hj).trans (gup_ne (by omega)), fun j hj => (k3 j (by omega)).trans (gup_ne (by omega)), fun j j1 j2 => ?_⟩
    · rw [show f + (r + 1) + 1 = (f + r + 1) + 1 by omega, mM_sayObject_165, hr_188_3, Option.bind_some, ha_190 hb, Option.bind_some, hc, if_pos (n_ltl (by omega) (by omega) (by omega)), if_pos rfl]
      simp only [hr_188_22, hi_188_18, hr_188_6, Option.bind_some, h18, n_8, n_6, ha_193 hb i8, hb_204 (show 6 * D + i < 84 by omega), n_succ]
      exact k1 y o z
    · by_cases e : j = i
      · subst e
        exact (k3 j (by omega)).trans gup_eq
      · exact k4 j (by omega) j2
theorem r_keys {D b c : Nat} (hb : b < 32) (hD : D < 13) (hc6 : c ≤ 6) (h18 : x.2.1 18 = Int32.ofNat D) (hc : (x.1 b).2.2.2.2.2.1 = Int32.ofNat c) : ∃ h, (∀ y o z, mM_sayObject_120 (some 188) (Int32.ofNat b) 0 (gH y x o z) = some (gH y ((x.1, gup x.2.1 18 (Int32.ofNat (D + 1)), x.2.2.1, x.2.2.2.1, x.2.2.2.2.1, x.2.2.2.2.2.1, gup x.2.2.2.2.2.2.1 D (Int32.ofNat b), gup x.2.2.2.2.2.2.2.1 D 0, gup x.2.2.2.2.2.2.2.2.1 D (Int32.ofNat c), h, x.2.2.2.2.2.2.2.2.2.2.1, x.2.2.2.2.2.2.2.2.2.2.2.1, x.2.2.2.2.2.2.2.2.2.2.2.2.1, x.2.2.2.2.2.2.2.2.2.2.2.2.2.1, x.2.2.2.2.2.2.2.2.2.2.2.2.2.2.1, x.2.2.2.2.2.2.2.2.2.2.2.2.2.2.2) : gX) o z)) ∧ (∀ j, j < 6 * D → h j = x.2.2.2.2.2.2.2.2.2.1 j) ∧ ∀ j, j < c → h (6 * D + j) = (x.1 b).2.1 j := by
  obtain ⟨h, k1, k2, k3, k4⟩ := r_keysL (D := D) hb hD hc6 c 0 (1000000000000000 - c - 1) x (by omega) h18 hc
  rw [show 1000000000000000 - c - 1 + c + 1 = 1000000000000000 by omega] at k1
  refine ⟨h, fun y o z => ?_, k2, fun j hj => k4 j (by omega) hj⟩
  have n4 : ¬ (0 : Int32) = 4 := by decide
  unfold mM_sayObject_120
  rw [mM_sayObject_122, hr_188_3, Option.bind_some, ha_190 hb, Option.bind_some, if_neg n4]
  rw [ite_self]
  unfold mM_sayObject_158
  rw [if_neg n4]
  exact k1 y o z
end H
end
section
/-! an object, written -/
section H
variable {n m p q e g : Nat} {F : gWf} {u : gU} {x : gX}
/-- what the object's case must give -/
def gOb (n m p q D B e g : Nat) (u : gU) (x : gX) (A : gx_H → Option gx_H) (M : gx_H → Option gx_H) : Prop := ∃ u' x1 x', (∀ y o z, A (gH u y o z) = some (gH u' y o z)) ∧ (∀ y o z, M (gH y x o z) = some (gH y x1 o z)) ∧ gRun B x1 x' ∧ gEnd n m p q D e g u x u' x' ∧ (u'.2.2.2.2.2.2.2.2.1 4 = 0 → x'.2.1 18 = Int32.ofNat D)
theorem gOb_by {D B e' : Nat} {A M : gx_H → Option gx_H} {u' : gU} {x' : gX} (h : gBy u u' x x') (W : gW n m p q e' g u' x') (he : u'.2.2.2.2.2.2.2.2.1 4 = 0 → e ≤ e') (h18 : x.2.1 18 = Int32.ofNat D) (hA : ∀ y o z, A (gH u y o z) = some (gH u' y o z)) (hM : ∀ y o z, M (gH y x o z) = some (gH y x' o z)) : gOb n m p q D B e g u x A M :=
  ⟨u', x', x', hA, hM, gRun_mono gRun_refl (by omega), gEnd_by h W he, fun _ => (h.b188 18 (by omega) (by omega)).trans h18⟩
theorem gOb_bad {D B : Nat} {A M : gx_H → Option gx_H} (W : gW n m p q e g u x) (hA : ∀ y o z, A (gH u y o z) = some (gH ((u.1, u.2.1, u.2.2.1, u.2.2.2.1, u.2.2.2.2.1, u.2.2.2.2.2.1, u.2.2.2.2.2.2.1, u.2.2.2.2.2.2.2.1, gup u.2.2.2.2.2.2.2.2.1 4 1, u.2.2.2.2.2.2.2.2.2.1, u.2.2.2.2.2.2.2.2.2.2.1, u.2.2.2.2.2.2.2.2.2.2.2.1, u.2.2.2.2.2.2.2.2.2.2.2.2.1, u.2.2.2.2.2.2.2.2.2.2.2.2.2.1, u.2.2.2.2.2.2.2.2.2.2.2.2.2.2) : gU) y o z)) (hM : ∀ y o z, M (gH y x o z) = some (gH y ((x.1, gup x.2.1 26 1, x.2.2.1, x.2.2.2.1, x.2.2.2.2.1, x.2.2.2.2.2.1, x.2.2.2.2.2.2.1, x.2.2.2.2.2.2.2.1, x.2.2.2.2.2.2.2.2.1, x.2.2.2.2.2.2.2.2.2.1, x.2.2.2.2.2.2.2.2.2.2.1, x.2.2.2.2.2.2.2.2.2.2.2.1, x.2.2.2.2.2.2.2.2.2.2.2.2.1, x.2.2.2.2.2.2.2.2.2.2.2.2.2.1, x.2.2.2.2.2.2.2.2.2.2.2.2.2.2.1, x.2.2.2.2.2.2.2.2.2.2.2.2.2.2.2) : gX) o z)) : gOb n m p q D B e g u x A M :=
  ⟨_, _, _, hA, hM, gRun_mono gRun_refl (by omega), ⟨e, g, gW_bad W (Or.inl rfl), fun h => absurd h (show ¬ (1 : Int32) = 0 by decide), ⟨fun _ _ => rfl, fun _ => rfl, fun _ _ => rfl, fun _ _ => ⟨rfl, rfl, rfl⟩, fun _ _ => rfl, rfl⟩⟩, fun h => absurd h (show ¬ (1 : Int32) = 0 by decide)⟩
/-- the frame of a mark -/
theorem gFr_mark {D : Nat} {u1 : gU} {x1 : gX} (h1 : u1.1 = u.1) (h2 : u1.2.2.2.2.2.2.2.2.2.2.2.2.2.1 = u.2.2.2.2.2.2.2.2.2.2.2.2.2.1) (h3 : x1.2.2.2.2.2.2.1 = x.2.2.2.2.2.2.1) (h4 : x1.2.2.2.2.2.2.2.1 = x.2.2.2.2.2.2.2.1) (h5 : x1.2.2.2.2.2.2.2.2.1 = x.2.2.2.2.2.2.2.2.1) (h6 : x1.2.2.2.2.2.2.2.2.2.1 = x.2.2.2.2.2.2.2.2.2.1) (h7 : u1.2.2.2.2.2.2.1 = u.2.2.2.2.2.2.1) : gFr D u u1 x x1 :=
  ⟨fun _ _ => by rw [h2], fun _ => by rw [h1], fun _ _ => by rw [h1], fun _ _ => by rw [h3, h4, h5]; exact ⟨rfl, rfl, rfl⟩, fun _ _ => by rw [h6], h7⟩
theorem gFr_push {D : Nat} {x2 : gX} {a w h : Nat → Int32} {b c d : Int32} (hx : ∀ j, j < 6 * D → h j = x2.2.2.2.2.2.2.2.2.2.1 j) (hw : w = x2.2.1) : gFr D u u x2 ((x2.1, a, x2.2.2.1, x2.2.2.2.1, x2.2.2.2.2.1, x2.2.2.2.2.2.1, gup x2.2.2.2.2.2.2.1 D b, gup x2.2.2.2.2.2.2.2.1 D c, gup x2.2.2.2.2.2.2.2.2.1 D d, h, x2.2.2.2.2.2.2.2.2.2.2.1, x2.2.2.2.2.2.2.2.2.2.2.2.1, x2.2.2.2.2.2.2.2.2.2.2.2.2.1, x2.2.2.2.2.2.2.2.2.2.2.2.2.2.1, x2.2.2.2.2.2.2.2.2.2.2.2.2.2.2.1, x2.2.2.2.2.2.2.2.2.2.2.2.2.2.2.2) : gX) :=
  ⟨fun _ _ => rfl, fun _ => rfl, fun _ _ => rfl, fun i hi => ⟨gup_ne (by omega), gup_ne (by omega), gup_ne (by omega)⟩, hx, rfl⟩
/-- lists, maps and sets: their mark, their count, what is in them -/
theorem w_many {D B b s c : Nat} (hD : D + 1 ≤ 12) (hn : n ≤ 32) (hbn : b < n) (ih : gIH n m p q (D + 1) B F) (dead : gDead F) (W : gW n m p q e g u x) (h0 : u.2.2.2.2.2.2.2.2.1 4 = 0) (hlt : g < e) (h18 : x.2.1 18 = Int32.ofNat D) (hs : s = 1 ∨ s = 2 ∨ s = 3) (O : gO n s c (u.1 b) (x.1 b)) : gOb n m p q D (8 * (B + 1) + 1) e g u x (fun h => (cW_givePlace (some 169) (Int32.ofNat b) h).bind fun h26 => cW_writeParts F (some 169) (some 1) (some 165) (some (3 + 5 * b)) (Int32.ofNat (D + 1)) h26) (fun h => mM_sayObject_33 (some 188) (Int32.ofNat b) (Int32.ofNat s) h) := by
  have hb : b < 32 := by omega
  have c8 : c ≤ 8 := gcap8 O.c8
  have f6 : (u.1 b).2.2.2.2.1 6 = 0 := (O.d4).resolve_right (fun h => absurd h.2 (by rcases hs with q | q | q <;> rw [q] <;> decide))
  have hD14 : D < 14 := by omega
  have e8 : (8 : Int32) + Int32.ofNat s = Int32.ofNat (8 + s) := n_add (a := 8)
  have s5 : ¬ Int32.ofNat s = 5 := by rcases hs with rfl | rfl | rfl <;> decide
  have s6 : ¬ Int32.ofNat s = 6 := by rcases hs with rfl | rfl | rfl <;> decide
  have s0 : ¬ Int32.ofNat s = 0 := by rcases hs with rfl | rfl | rfl <;> decide
  obtain ⟨u1, x1, e1, a1, a2, a3, a4, a5, a6, a7, a8, a9, a10, a11, a12, a13⟩ := w_mark (b := b) (v := Int32.ofNat (8 + s)) W h0 hlt hb ⟨8 + s, by omega, rfl⟩
  obtain ⟨u2, x2, e2, b1, b2, b3, b4, b5⟩ := w_byte (b := Int32.ofNat c) a3 ⟨c, by omega, rfl⟩
  have Cu : u2.1 = u.1 := b5.bC.trans a5
  have Rx : x2.1 = x.1 := b5.bR.trans a7
  have p18 : x2.2.1 18 = Int32.ofNat D := (b5.b188 18 (by omega) (by omega)).trans (a8.trans h18)
  have F2 : gFr D u u2 x x2 := gFr_trans (gFr_mark a5 a6 a9 a10 a11 a12 a13) (gFr_by (D := D) b5) (Nat.le_refl _)
  have ct2 : (x2.1 b).2.2.2.2.2.1 = Int32.ofNat c := by rw [Rx]; exact O.ep f6
  have rf : ∀ y o z, mM_sayObject_33 (some 188) (Int32.ofNat b) (Int32.ofNat s) (gH y x o z) = some (gH y ((x2.1, gup x2.2.1 18 (Int32.ofNat (D + 1)), x2.2.2.1, x2.2.2.2.1, x2.2.2.2.2.1, x2.2.2.2.2.2.1, gup x2.2.2.2.2.2.2.1 D (Int32.ofNat b), gup x2.2.2.2.2.2.2.2.1 D 0, gup x2.2.2.2.2.2.2.2.2.1 D (Int32.ofNat (if s = 2 then 2 * c else c)), x2.2.2.2.2.2.2.2.2.2.1, x2.2.2.2.2.2.2.2.2.2.2.1, x2.2.2.2.2.2.2.2.2.2.2.2.1, x2.2.2.2.2.2.2.2.2.2.2.2.2.1, x2.2.2.2.2.2.2.2.2.2.2.2.2.2.1, x2.2.2.2.2.2.2.2.2.2.2.2.2.2.2.1, x2.2.2.2.2.2.2.2.2.2.2.2.2.2.2.2) : gX) o z) := by
    intro y o z
    have q2 := a2 y o z
    have ct1 : (x1.1 b).2.2.2.2.2.1 = Int32.ofNat c := by rw [a7]; exact O.ep f6
    obtain ⟨h3, hh1, hh2⟩ := Option.bind_eq_some_iff.mp q2
    simp only [mM_sayObject_33, ho_188, Option.bind_some, e8, hh1, if_neg s5]
    have i3 : gv_is h3 (some 188) 7 = some 188 := by
      have := W.T
      revert hh1
      intro hh1
      obtain ⟨u', x', e', k1, k2, k3, k4, k5⟩ := w_byte (b := Int32.ofNat (8 + s)) W ⟨8 + s, by omega, rfl⟩
      rw [k2] at hh1
      cases hh1
      exact ho_188
    rw [i3, Option.bind_some, hh2, Option.bind_some, if_neg s6, if_neg s0]
    simp only [hr_188_3, Option.bind_some, ha_190 hb, ct1, ho_188, b2, r_tail hb hD14 p18 hs ct2 c8]
  have Wp : gW n m p q e2 (g + 1) u2 ((x2.1, gup x2.2.1 18 (Int32.ofNat (D + 1)), x2.2.2.1, x2.2.2.2.1, x2.2.2.2.2.1, x2.2.2.2.2.2.1, gup x2.2.2.2.2.2.2.1 D (Int32.ofNat b), gup x2.2.2.2.2.2.2.2.1 D 0, gup x2.2.2.2.2.2.2.2.2.1 D (Int32.ofNat (if s = 2 then 2 * c else c)), x2.2.2.2.2.2.2.2.2.2.1, x2.2.2.2.2.2.2.2.2.2.2.1, x2.2.2.2.2.2.2.2.2.2.2.2.1, x2.2.2.2.2.2.2.2.2.2.2.2.2.1, x2.2.2.2.2.2.2.2.2.2.2.2.2.2.1, x2.2.2.2.2.2.2.2.2.2.2.2.2.2.2.1, x2.2.2.2.2.2.2.2.2.2.2.2.2.2.2.2) : gX) := gW_x b3 rfl (fun i h => gup_ne h) rfl rfl rfl rfl rfl rfl
  have Fp : gFr D u u2 x ((x2.1, gup x2.2.1 18 (Int32.ofNat (D + 1)), x2.2.2.1, x2.2.2.2.1, x2.2.2.2.2.1, x2.2.2.2.2.2.1, gup x2.2.2.2.2.2.2.1 D (Int32.ofNat b), gup x2.2.2.2.2.2.2.2.1 D 0, gup x2.2.2.2.2.2.2.2.2.1 D (Int32.ofNat (if s = 2 then 2 * c else c)), x2.2.2.2.2.2.2.2.2.2.1, x2.2.2.2.2.2.2.2.2.2.2.1, x2.2.2.2.2.2.2.2.2.2.2.2.1, x2.2.2.2.2.2.2.2.2.2.2.2.2.1, x2.2.2.2.2.2.2.2.2.2.2.2.2.2.1, x2.2.2.2.2.2.2.2.2.2.2.2.2.2.2.1, x2.2.2.2.2.2.2.2.2.2.2.2.2.2.2.2) : gX) := gFr_trans F2 (gFr_push (w := x2.2.1) (fun _ _ => rfl) rfl) (Nat.le_refl _)
  have cnt : u2.2.2.2.2.2.2.2.2.1 4 = 0 → e2 = e + 2 := fun q => by
    have q1 := gBy_0 b5 q
    have := a4 q1
    have := b4 q
    omega
  have ends : ∀ (u' : gU) (x' : gX), gEnd n m p q D e2 (g + 1) u2 ((x2.1, gup x2.2.1 18 (Int32.ofNat (D + 1)), x2.2.2.1, x2.2.2.2.1, x2.2.2.2.2.1, x2.2.2.2.2.2.1, gup x2.2.2.2.2.2.2.1 D (Int32.ofNat b), gup x2.2.2.2.2.2.2.2.1 D 0, gup x2.2.2.2.2.2.2.2.2.1 D (Int32.ofNat (if s = 2 then 2 * c else c)), x2.2.2.2.2.2.2.2.2.2.1, x2.2.2.2.2.2.2.2.2.2.2.1, x2.2.2.2.2.2.2.2.2.2.2.2.1, x2.2.2.2.2.2.2.2.2.2.2.2.2.1, x2.2.2.2.2.2.2.2.2.2.2.2.2.2.1, x2.2.2.2.2.2.2.2.2.2.2.2.2.2.2.1, x2.2.2.2.2.2.2.2.2.2.2.2.2.2.2.2) : gX) u' x' → gEnd n m p q D e g u x u' x' := fun u' x' E => gEnd_trans (fun q => ⟨h0, by have := cnt q; omega, by have := cnt q; omega⟩) Fp E (Nat.le_refl _)
  have cl : ∀ y o z, ((cW_givePlace (some 169) (Int32.ofNat b) (gH u y o z)).bind fun h26 => cW_writeParts F (some 169) (some 1) (some 165) (some (3 + 5 * b)) (Int32.ofNat (D + 1)) h26) = (if s = 1 then cW_writeList_11 F 1000000000000000 (some 169) (some 1) (some 165) (some (3 + 5 * b)) (Int32.ofNat (D + 1)) 0 (gH u2 y o z) else if s = 2 then cW_writeMap_11 F 1000000000000000 (some 169) (some 1) (some 165) (some (3 + 5 * b)) (Int32.ofNat (D + 1)) 0 (gH u2 y o z) else cW_writeSet_11 F 1000000000000000 (some 169) (some 1) (some 165) (some (3 + 5 * b)) (Int32.ofNat (D + 1)) 0 (gH u2 y o z)) := by
    intro y o z
    have q1 := a1 y o z
    rw [k_give hb, Option.bind_some] at q1 ⊢
    have es1 : (u1.1 b).2.2.2.2.1 4 = Int32.ofNat s := by rw [a5]; exact O.es
    have ec1 : (u1.1 b).2.2.2.2.1 5 = Int32.ofNat c := by rw [a5]; exact O.ec
    simp only [cW_writeParts, hiT_4 hb, O.es, Option.bind_some, ho_169, e8, q1, es1]
    rcases hs with rfl | rfl | rfl
    · simp only [show ¬ Int32.ofNat 1 = (0 : Int32) by decide, show Int32.ofNat 1 = (1 : Int32) from rfl, if_false, if_true, cW_writeList, hiT_5 hb, ec1, Option.bind_some, ho_169, b1]
      exact Option.bind_fun_some _
    · simp only [show Int32.ofNat 2 = (2 : Int32) from rfl, show ¬ (2 : Int32) = 0 by decide, show ¬ (2 : Int32) = 1 by decide, show ¬ (2 : Nat) = 1 by omega, if_false, if_true, cW_writeMap, hiT_5 hb, ec1, Option.bind_some, ho_169, b1]
      exact Option.bind_fun_some _
    · simp only [show Int32.ofNat 3 = (3 : Int32) from rfl, show ¬ (3 : Int32) = 0 by decide, show ¬ (3 : Int32) = 1 by decide, show ¬ (3 : Int32) = 2 by decide, show ¬ (3 : Nat) = 1 by omega, show ¬ (3 : Nat) = 2 by omega, if_false, if_true, cW_writeSet, hiT_5 hb, ec1, Option.bind_some, ho_169, b1]
      exact Option.bind_fun_some _
  have g1e : u2.2.2.2.2.2.2.2.2.1 4 = 0 → g + 1 < e2 := fun q => by have := cnt q; omega
  rcases hs with rfl | rfl | rfl
  · obtain ⟨u', x', k1, k2, k3, k4⟩ := w_listL (B := B) hD hbn hn ih dead c8 c 0 (1000000000000000 - c - 1) u2 _ e2 (g + 1) (by omega) Wp (fun q => ⟨g1e q, rfl, by show gup _ _ _ _ = _; rw [gup_eq], by show gup _ _ _ _ = _; rw [gup_eq]; rfl, by show gup _ _ _ _ = _; rw [gup_eq]; rfl⟩) (by rw [Cu]; exact O.es) (by rw [Cu]; exact O.ec)
    rw [show 1000000000000000 - c - 1 + c + 1 = 1000000000000000 by omega] at k1
    exact ⟨u', _, x', fun y o z => ((cl y o z).trans (if_pos rfl)).trans (k1 y o z), rf, gRun_mono k2 (by have := Nat.mul_le_mul_right (B + 1) c8; omega), ends u' x' k3, k4⟩
  · have c4 : c ≤ 4 := O.c8
    obtain ⟨u', x', k1, k2, k3, k4⟩ := w_mapL (B := B) hD hbn hn ih dead c4 c 0 (1000000000000000 - c - 1) u2 _ e2 (g + 1) (by omega) Wp (fun q => ⟨g1e q, rfl, by show gup _ _ _ _ = _; rw [gup_eq], by show gup _ _ _ _ = _; rw [gup_eq]; rfl, by show gup _ _ _ _ = _; rw [gup_eq]; rfl⟩) (by rw [Cu]; exact O.es) (by rw [Cu]; exact O.ec)
    rw [show 1000000000000000 - c - 1 + c + 1 = 1000000000000000 by omega] at k1
    exact ⟨u', _, x', fun y o z => (((cl y o z).trans (if_neg (by decide))).trans (if_pos rfl)).trans (k1 y o z), rf, gRun_mono k2 (by have := Nat.mul_le_mul_right (2 * (B + 1)) c4; omega), ends u' x' k3, k4⟩
  · obtain ⟨u', x', k1, k2, k3, k4⟩ := w_setL (B := B) hD hbn hn ih dead c8 c 0 (1000000000000000 - c - 1) u2 _ e2 (g + 1) (by omega) Wp (fun q => ⟨g1e q, rfl, by show gup _ _ _ _ = _; rw [gup_eq], by show gup _ _ _ _ = _; rw [gup_eq]; rfl, by show gup _ _ _ _ = _; rw [gup_eq]; rfl⟩) (by rw [Cu]; exact O.es) (by rw [Cu]; exact O.ec)
    rw [show 1000000000000000 - c - 1 + c + 1 = 1000000000000000 by omega] at k1
    exact ⟨u', _, x', fun y o z => (((cl y o z).trans (if_neg (by decide))).trans (if_neg (by decide))).trans (k1 y o z), rf, gRun_mono k2 (by have := Nat.mul_le_mul_right (B + 1) c8; omega), ends u' x' k3, k4⟩
end H
end
section
section H
variable {n m p q e g : Nat} {F : gWf} {u : gU} {x : gX}
/-- the first half of the reference's object: mark and place -/
theorem r_33 {b s : Nat} {x1 : gX} (W : gW n m p q e g u x) (hs : s < 8) (s5 : ¬ s = 5) (a2 : ∀ y o z, ((mM_say (some 188) (Int32.ofNat (8 + s)) (gH y x o z)).bind fun h => mM_getPlace (some 188) (Int32.ofNat b) h) = some (gH y x1 o z)) : ∀ y o z, mM_sayObject_33 (some 188) (Int32.ofNat b) (Int32.ofNat s) (gH y x o z) = (if s = 6 then ((gv_gR (gH y x1 o z) (some 188) 7 5).bind fun v9 => (gv_lJ (gH y x1 o z) v9 (Int32.ofNat b)).bind fun v10 => (mM_zigzag v10).bind fun v11 => (gv_is (gH y x1 o z) (some 188) 7).bind fun _ => (mM_sayLengthy (some 188) v11 (gH y x1 o z)).bind fun h14 => some h14) else if s = 0 then mM_sayObject_120 (some 188) (Int32.ofNat b) (Int32.ofNat s) (gH y x1 o z) else ((gv_gR (gH y x1 o z) (some 188) 7 3).bind fun v16 => (gv_lI (gH y x1 o z) v16 (Int32.ofNat b)).bind fun v17 => (gv_is (gH y x1 o z) (some 188) 7).bind fun _ => (mM_say (some 188) v17 (gH y x1 o z)).bind fun h20 => mM_sayObject_120 (some 188) (Int32.ofNat b) (Int32.ofNat s) h20)) := by
  intro y o z
  obtain ⟨_, e6, _, e0, _, _, _, _, e5⟩ := n_s6 s hs
  have e8 : (8 : Int32) + Int32.ofNat s = Int32.ofNat (8 + s) := n_add (a := 8)
  obtain ⟨h3, hh1, hh2⟩ := Option.bind_eq_some_iff.mp (a2 y o z)
  have i3 : gv_is h3 (some 188) 7 = some 188 := by
    obtain ⟨u', x', e', k1, k2, k3, k4, k5⟩ := w_byte (b := Int32.ofNat (8 + s)) W ⟨8 + s, by omega, rfl⟩
    rw [k2] at hh1
    cases hh1
    exact ho_188
  simp only [mM_sayObject_33, ho_188, Option.bind_some, e8, hh1, e5, if_neg s5]
  rw [i3, Option.bind_some, hh2, Option.bind_some]
  by_cases c6 : s = 6
  · rw [if_pos c6, if_pos (e6.mpr c6)]
    simp only [ho_188, Option.bind_some]
  · rw [if_neg c6, if_neg (fun q => c6 (e6.mp q))]
    by_cases c0 : s = 0
    · rw [if_pos c0, if_pos (e0.mpr c0)]
    · rw [if_neg c0, if_neg (fun q => c0 (e0.mp q))]
      simp only [ho_188, Option.bind_some]
theorem w_stamp {D B b c : Nat} (hn : n ≤ 32) (hbn : b < n) (W : gW n m p q e g u x) (h0 : u.2.2.2.2.2.2.2.2.1 4 = 0) (hlt : g < e) (h18 : x.2.1 18 = Int32.ofNat D) (O : gO n 6 c (u.1 b) (x.1 b)) : gOb n m p q D B e g u x (fun h => (cW_givePlace (some 169) (Int32.ofNat b) h).bind fun h26 => cW_writeParts F (some 169) (some 1) (some 165) (some (3 + 5 * b)) (Int32.ofNat (D + 1)) h26) (fun h => mM_sayObject_33 (some 188) (Int32.ofNat b) (Int32.ofNat 6) h) := by
  have hb : b < 32 := by omega
  obtain ⟨u1, x1, e1, a1, a2, a3, a4, a5, a6, a7, a8, a9, a10, a11, a12, a13⟩ := w_mark (b := b) (v := Int32.ofNat (8 + 6)) W h0 hlt hb ⟨8 + 6, by omega, rfl⟩
  obtain ⟨u2, x2, e2, b1, b2, b3, b4, b5⟩ := w_zigzag (v := (u.1 b).2.2.2.2.2 10) a3
  refine ⟨u2, x2, x2, fun y o z => ?_, fun y o z => ?_, gRun_mono gRun_refl (by omega), ⟨e2, g + 1, b3, fun q => ⟨h0, ?_, ?_⟩, gFr_trans (gFr_mark a5 a6 a9 a10 a11 a12 a13) (gFr_by (D := D) b5) (Nat.le_refl _)⟩, fun q => (b5.b188 18 (by omega) (by omega)).trans (a8.trans h18)⟩
  · have q1 := a1 y o z
    show ((cW_givePlace (some 169) (Int32.ofNat b) (gH u y o z)).bind _) = _
    rw [k_give hb, Option.bind_some] at q1 ⊢
    have es1 : (u1.1 b).2.2.2.2.1 4 = Int32.ofNat 6 := by rw [a5]; exact O.es
    have ew1 : (u1.1 b).2.2.2.2.2 10 = (u.1 b).2.2.2.2.2 10 := by rw [a5]
    simp only [cW_writeParts, hiT_4 hb, O.es, Option.bind_some, ho_169, show (8 : Int32) + Int32.ofNat 6 = Int32.ofNat (8 + 6) from rfl, q1, es1]
    simp only [show Int32.ofNat 6 = (6 : Int32) from rfl, Option.bind_some, ho_169, show ¬ (6 : Int32) = 0 by decide, show ¬ (6 : Int32) = 1 by decide, show ¬ (6 : Int32) = 2 by decide, show ¬ (6 : Int32) = 3 by decide, show ¬ (6 : Int32) = 4 by decide, if_false, hjT_10 hb, ew1, b1]
  · show mM_sayObject_33 (some 188) (Int32.ofNat b) (Int32.ofNat 6) (gH y x o z) = _
    rw [r_33 W (by omega) (by omega) a2, if_pos rfl]
    have q2 := b2 y o z
    have st1 : (x1.1 b).2.2.2.2.2.2.2 = (u.1 b).2.2.2.2.2 10 := by rw [a7]; exact O.sT rfl
    simp only [mM_zigzag, Option.bind_some] at q2
    simp only [hr_188_5, Option.bind_some, ha_192 hb, st1, mM_zigzag, ho_188, q2]
  · have := a4 (gBy_0 b5 q); have := b4 q; omega
  · have := a4 (gBy_0 b5 q); have := b4 q; omega
theorem w_buf {D B b c : Nat} (hn : n ≤ 32) (hbn : b < n) (W : gW n m p q e g u x) (h0 : u.2.2.2.2.2.2.2.2.1 4 = 0) (hlt : g < e) (h18 : x.2.1 18 = Int32.ofNat D) (O : gO n 4 c (u.1 b) (x.1 b)) (f6 : (u.1 b).2.2.2.2.1 6 = 0) : gOb n m p q D B e g u x (fun h => (cW_givePlace (some 169) (Int32.ofNat b) h).bind fun h26 => cW_writeParts F (some 169) (some 1) (some 165) (some (3 + 5 * b)) (Int32.ofNat (D + 1)) h26) (fun h => mM_sayObject_33 (some 188) (Int32.ofNat b) (Int32.ofNat 4) h) := by
  have hb : b < 32 := by omega
  have c8 : c ≤ 8 := O.c8
  obtain ⟨u1, x1, e1, a1, a2, a3, a4, a5, a6, a7, a8, a9, a10, a11, a12, a13⟩ := w_mark (b := b) (v := Int32.ofNat (8 + 4)) W h0 hlt hb ⟨8 + 4, by omega, rfl⟩
  obtain ⟨u2, x2, e2, b1, b2, b3, b4, b5⟩ := w_byte (b := Int32.ofNat c) a3 ⟨c, by omega, rfl⟩
  have Rx : x2.1 = x.1 := b5.bR.trans a7
  obtain ⟨u3, x3, e3, d1, d2, d3, d4, d5⟩ := w_bufL (w := (u.1 b).2.2.2.2.2 10) (k := b) hb c8 c 0 (1000000000000000 - c - 1) (1000000000000000 - c - 1) u2 x2 e2 (by omega) (by rw [Rx]; exact O.ep f6) (by rw [Rx]; exact O.bb rfl) b3
  rw [show 1000000000000000 - c - 1 + c + 1 = 1000000000000000 by omega] at d1 d2
  refine ⟨u3, x3, x3, fun y o z => ?_, fun y o z => ?_, gRun_mono gRun_refl (by omega), ⟨e3, g + 1, d3, fun q => ⟨h0, ?_, ?_⟩, gFr_trans (gFr_trans (gFr_mark a5 a6 a9 a10 a11 a12 a13) (gFr_by (D := D) b5) (Nat.le_refl _)) (gFr_by (D := D) d5) (Nat.le_refl _)⟩, fun q => (d5.b188 18 (by omega) (by omega)).trans ((b5.b188 18 (by omega) (by omega)).trans (a8.trans h18))⟩
  · have q1 := a1 y o z
    show ((cW_givePlace (some 169) (Int32.ofNat b) (gH u y o z)).bind _) = _
    rw [k_give hb, Option.bind_some] at q1 ⊢
    have es1 : (u1.1 b).2.2.2.2.1 4 = Int32.ofNat 4 := by rw [a5]; exact O.es
    have ew1 : (u1.1 b).2.2.2.2.2 10 = (u.1 b).2.2.2.2.2 10 := by rw [a5]
    have ec1 : (u1.1 b).2.2.2.2.1 5 = Int32.ofNat c := by rw [a5]; exact O.ec
    have dd := d1 y o z
    simp only [cW_writeParts, hiT_4 hb, O.es, Option.bind_some, ho_169, show (8 : Int32) + Int32.ofNat 4 = Int32.ofNat (8 + 4) from rfl, q1, es1]
    simp only [show Int32.ofNat 4 = (4 : Int32) from rfl, Option.bind_some, ho_169, show ¬ (4 : Int32) = 0 by decide, show ¬ (4 : Int32) = 1 by decide, show ¬ (4 : Int32) = 2 by decide, show ¬ (4 : Int32) = 3 by decide, if_false, if_true, hjT_10 hb, ew1, hiT_5 hb, ec1, cW_writeWord, b1]
    rw [show (0 : Int32) = Int32.ofNat 0 from rfl, dd]
    rfl
  · show mM_sayObject_33 (some 188) (Int32.ofNat b) (Int32.ofNat 4) (gH y x o z) = _
    rw [r_33 W (by omega) (by omega) a2, if_neg (by decide), if_neg (by decide)]
    have ct1 : (x1.1 b).2.2.2.2.2.1 = Int32.ofNat c := by rw [a7]; exact O.ep f6
    simp only [hr_188_3, Option.bind_some, ha_190 hb, ct1, ho_188, b2, mM_sayObject_120]
    exact d2 y o z
  · have := a4 (gBy_0 b5 (gBy_0 d5 q)); have := b4 (gBy_0 d5 q); have := d4 q; omega
  · have := a4 (gBy_0 b5 (gBy_0 d5 q)); have := b4 (gBy_0 d5 q); have := d4 q; omega
theorem w_rec {D B b c : Nat} (hD : D + 1 ≤ 12) (hn : n ≤ 32) (hbn : b < n) (ih : gIH n m p q (D + 1) B F) (dead : gDead F) (W : gW n m p q e g u x) (h0 : u.2.2.2.2.2.2.2.2.1 4 = 0) (hlt : g < e) (h18 : x.2.1 18 = Int32.ofNat D) (O : gO n 0 c (u.1 b) (x.1 b)) : gOb n m p q D (8 * (B + 1) + 1) e g u x (fun h => (cW_givePlace (some 169) (Int32.ofNat b) h).bind fun h26 => cW_writeParts F (some 169) (some 1) (some 165) (some (3 + 5 * b)) (Int32.ofNat (D + 1)) h26) (fun h => mM_sayObject_33 (some 188) (Int32.ofNat b) (Int32.ofNat 0) h) := by
  have hb : b < 32 := by omega
  have c6 : c ≤ 6 := O.c8
  obtain ⟨u1, x1, e1, a1, a2, a3, a4, a5, a6, a7, a8, a9, a10, a11, a12, a13⟩ := w_mark (b := b) (v := Int32.ofNat (8 + 0)) W h0 hlt hb ⟨8 + 0, by omega, rfl⟩
  have p18 : x1.2.1 18 = Int32.ofNat D := a8.trans h18
  obtain ⟨h, k1, k2, k3⟩ := r_keys (x := x1) (D := D) hb (by omega) c6 p18 (by rw [a7]; exact rec_f6 O)
  have W2 : gW n m p q e1 (g + 1) ((u1.1, u1.2.1, u1.2.2.1, u1.2.2.2.1, u1.2.2.2.2.1, u1.2.2.2.2.2.1, u1.2.2.2.2.2.2.1, u1.2.2.2.2.2.2.2.1, u1.2.2.2.2.2.2.2.2.1, u1.2.2.2.2.2.2.2.2.2.1, u1.2.2.2.2.2.2.2.2.2.2.1, u1.2.2.2.2.2.2.2.2.2.2.2.1, u1.2.2.2.2.2.2.2.2.2.2.2.2.1, gup u1.2.2.2.2.2.2.2.2.2.2.2.2.2.1 (D + 1) (fun i => if i < c then (u1.1 b).2.1 i else u1.2.2.2.2.2.2.2.2.2.2.2.2.2.1 (D + 1) i), u1.2.2.2.2.2.2.2.2.2.2.2.2.2.2) : gU) ((x1.1, gup x1.2.1 18 (Int32.ofNat (D + 1)), x1.2.2.1, x1.2.2.2.1, x1.2.2.2.2.1, x1.2.2.2.2.2.1, gup x1.2.2.2.2.2.2.1 D (Int32.ofNat b), gup x1.2.2.2.2.2.2.2.1 D 0, gup x1.2.2.2.2.2.2.2.2.1 D (Int32.ofNat c), h, x1.2.2.2.2.2.2.2.2.2.2.1, x1.2.2.2.2.2.2.2.2.2.2.2.1, x1.2.2.2.2.2.2.2.2.2.2.2.2.1, x1.2.2.2.2.2.2.2.2.2.2.2.2.2.1, x1.2.2.2.2.2.2.2.2.2.2.2.2.2.2.1, x1.2.2.2.2.2.2.2.2.2.2.2.2.2.2.2) : gX) := gW_x (gW_kd a3) rfl (fun i h => gup_ne h) rfl rfl rfl rfl rfl rfl
  have F2 : gFr D u ((u1.1, u1.2.1, u1.2.2.1, u1.2.2.2.1, u1.2.2.2.2.1, u1.2.2.2.2.2.1, u1.2.2.2.2.2.2.1, u1.2.2.2.2.2.2.2.1, u1.2.2.2.2.2.2.2.2.1, u1.2.2.2.2.2.2.2.2.2.1, u1.2.2.2.2.2.2.2.2.2.2.1, u1.2.2.2.2.2.2.2.2.2.2.2.1, u1.2.2.2.2.2.2.2.2.2.2.2.2.1, gup u1.2.2.2.2.2.2.2.2.2.2.2.2.2.1 (D + 1) (fun i => if i < c then (u1.1 b).2.1 i else u1.2.2.2.2.2.2.2.2.2.2.2.2.2.1 (D + 1) i), u1.2.2.2.2.2.2.2.2.2.2.2.2.2.2) : gU) x ((x1.1, gup x1.2.1 18 (Int32.ofNat (D + 1)), x1.2.2.1, x1.2.2.2.1, x1.2.2.2.2.1, x1.2.2.2.2.2.1, gup x1.2.2.2.2.2.2.1 D (Int32.ofNat b), gup x1.2.2.2.2.2.2.2.1 D 0, gup x1.2.2.2.2.2.2.2.2.1 D (Int32.ofNat c), h, x1.2.2.2.2.2.2.2.2.2.2.1, x1.2.2.2.2.2.2.2.2.2.2.2.1, x1.2.2.2.2.2.2.2.2.2.2.2.2.1, x1.2.2.2.2.2.2.2.2.2.2.2.2.2.1, x1.2.2.2.2.2.2.2.2.2.2.2.2.2.2.1, x1.2.2.2.2.2.2.2.2.2.2.2.2.2.2.2) : gX) := by
    refine gFr_trans (gFr_mark a5 a6 a9 a10 a11 a12 a13) (D2 := D) ⟨fun i hi => gup_ne (by omega), fun _ => rfl, fun _ _ => rfl, fun i hi => ⟨gup_ne (by omega), gup_ne (by omega), gup_ne (by omega)⟩, k2, rfl⟩ (Nat.le_refl _)
  obtain ⟨u', x', f1, f2, f3, f4⟩ := w_recL (B := B) (c := c) hD hbn hn ih dead c6 c 0 (1000000000000000 - c - 1) _ _ e1 (g + 1) (by omega) W2 (fun q => by
    have := a4 q
    refine ⟨by omega, rfl, by show gup _ _ _ _ = _; rw [gup_eq], by show gup _ _ _ _ = _; rw [gup_eq]; rfl, by show gup _ _ _ _ = _; rw [gup_eq], fun j hj => ?_⟩
    show h (6 * D + j) = gup u1.2.2.2.2.2.2.2.2.2.2.2.2.2.1 (D + 1) _ (D + 1) j
    rw [gup_eq, if_pos hj, k3 j hj, a7, a5, O.kE (Or.inl rfl) j hj]) (by show (u1.1 b).2.2.2.2.1 4 = _; rw [a5]; exact O.es)
  rw [show 1000000000000000 - c - 1 + c + 1 = 1000000000000000 by omega] at f1
  refine ⟨u', _, x', fun y o z => ?_, fun y o z => ?_, gRun_mono f2 (by have := Nat.mul_le_mul_right (B + 1) c6; omega), gEnd_trans (fun q => ⟨h0, by have := a4 q; omega, by have := a4 q; omega⟩) F2 f3 (Nat.le_refl _), f4⟩
  · have q1 := a1 y o z
    show ((cW_givePlace (some 169) (Int32.ofNat b) (gH u y o z)).bind _) = _
    rw [k_give hb, Option.bind_some] at q1 ⊢
    have es1 : (u1.1 b).2.2.2.2.1 4 = Int32.ofNat 0 := by rw [a5]; exact O.es
    have ec1 : (u1.1 b).2.2.2.2.1 5 = Int32.ofNat c := by rw [a5]; exact O.ec
    simp only [cW_writeParts, hiT_4 hb, O.es, Option.bind_some, ho_169, show (8 : Int32) + Int32.ofNat 0 = Int32.ofNat (8 + 0) from rfl, q1, es1]
    simp only [show Int32.ofNat 0 = (0 : Int32) from rfl, Option.bind_some, ho_169, if_true, cW_writeRecord, hiT_5 hb, ec1, hr_169_3, hk_arr (show D + 1 < 13 by omega), hrT_1 hb, hk_cp (show D + 1 < 13 by omega) hb c6]
    have ff := f1 y o z
    rw [show Int32.ofNat 0 = (0 : Int32) from rfl] at ff
    rw [ff]
    rfl
  · show mM_sayObject_33 (some 188) (Int32.ofNat b) (Int32.ofNat 0) (gH y x o z) = _
    rw [r_33 W (by omega) (by omega) a2, if_neg (by decide), if_pos rfl]
    exact k1 y o z
end H
end
section
section H
variable {n m p q e g : Nat} {F : gWf} {u : gU} {x : gX}
theorem w_view {D B b c : Nat} (hD : D + 1 ≤ 12) (hn : n ≤ 32) (hbn : b < n) (ih : gIH n m p q (D + 1) B F) (dead : gDead F) (W : gW n m p q e g u x) (h0 : u.2.2.2.2.2.2.2.2.1 4 = 0) (hlt : g < e) (h18 : x.2.1 18 = Int32.ofNat D) (O : gO n 5 c (u.1 b) (x.1 b)) : gOb n m p q D (8 * (B + 1) + 1) e g u x (fun h => (cW_writeView F (some 169) (some 1) (some 165) (some (3 + 5 * b)) (Int32.ofNat (D + 1)) h).bind fun h20 => (gv_is h20 (some 169) 5).bind fun _ => (cW_givePlace (some 169) (Int32.ofNat b) h20).bind fun h23 => some h23) (fun h => mM_sayObject_33 (some 188) (Int32.ofNat b) (Int32.ofNat 5) h) := by
  have hb : b < 32 := by omega
  have hD14 : D < 14 := by omega
  have c8 : c ≤ 8 := O.c8
  obtain ⟨v0, v1, v2, v3, ⟨t, ht, et⟩, ⟨w1, hw1, ew1⟩, ⟨w2, hw2, ew2⟩⟩ := O.vw rfl
  obtain ⟨u1, x1, e1, a1, a2, a3, a4, a5⟩ := w_byte (b := 13) W ⟨13, by omega, rfl⟩
  obtain ⟨u2, x2, e2, b1, b2, b3, b4, b5⟩ := w_byte (b := (u.1 b).2.2.2.2.1 8) a3 ⟨w1, by omega, ew1⟩
  obtain ⟨u3, x3, e3, c1, c2, c3, c4, c5⟩ := w_byte (b := (u.1 b).2.2.2.2.1 9) b3 ⟨w2, by omega, ew2⟩
  obtain ⟨u4, x4, e4, d1, d2, d3, d4, d5⟩ := w_byte (b := (u.1 b).2.2.2.2.1 5) c3 ⟨c, by omega, O.ec⟩
  have B2 := gBy_trans a5 b5
  have B3 := gBy_trans B2 c5
  have B4 := gBy_trans B3 d5
  have p18 : x4.2.1 18 = Int32.ofNat D := (B4.b188 18 (by omega) (by omega)).trans h18
  have cnt : u4.2.2.2.2.2.2.2.2.1 4 = 0 → e4 = e + 4 := fun q => by
    have q3 := gBy_0 d5 q
    have q2 := gBy_0 c5 q3
    have q1 := gBy_0 b5 q2
    have := a4 q1; have := b4 q2; have := c4 q3; have := d4 q
    omega
  have n1 : (x1.1 b).2.2.2.1 1 = (u.1 b).2.2.2.2.1 8 := by rw [a5.bR]; exact v1
  have n2 : (x2.1 b).2.2.2.1 2 = (u.1 b).2.2.2.2.1 9 := by rw [B2.bR]; exact v2
  have n3 : (x3.1 b).2.2.2.1 3 = (u.1 b).2.2.2.2.1 5 := by rw [B3.bR]; exact v3
  have rf : ∀ y o z, mM_sayObject_33 (some 188) (Int32.ofNat b) (Int32.ofNat 5) (gH y x o z) = some (gH y ((x4.1, gup x4.2.1 18 (Int32.ofNat (D + 1)), x4.2.2.1, x4.2.2.2.1, x4.2.2.2.2.1, x4.2.2.2.2.2.1, gup x4.2.2.2.2.2.2.1 D (Int32.ofNat b), gup x4.2.2.2.2.2.2.2.1 D 0, gup x4.2.2.2.2.2.2.2.2.1 D 1, x4.2.2.2.2.2.2.2.2.2.1, x4.2.2.2.2.2.2.2.2.2.2.1, x4.2.2.2.2.2.2.2.2.2.2.2.1, x4.2.2.2.2.2.2.2.2.2.2.2.2.1, x4.2.2.2.2.2.2.2.2.2.2.2.2.2.1, x4.2.2.2.2.2.2.2.2.2.2.2.2.2.2.1, x4.2.2.2.2.2.2.2.2.2.2.2.2.2.2.2) : gX) o z) := by
    intro y o z
    simp only [mM_sayObject_33, ho_188, Option.bind_some, show (8 : Int32) + 5 = 13 from rfl, a2, show Int32.ofNat 5 = (5 : Int32) from rfl, if_true]
    obtain ⟨f, hf⟩ : ∃ f, 1000000000000000 = f + 1 + 1 + 1 + 1 := ⟨999999999999996, rfl⟩
    rw [hf, mM_sayObject_48]
    simp only [show (1 : Int32) < 4 by decide, if_true, hr_188_9, Option.bind_some, n_81, ha_196 (i := 1) hb (by omega), n1, ho_188, b2]
    rw [mM_sayObject_48]
    simp only [show (1 : Int32) + 1 = 2 from rfl, show (2 : Int32) < 4 by decide, if_true, hr_188_9, Option.bind_some, n_82, ha_196 (i := 2) hb (by omega), n2, ho_188, c2]
    rw [mM_sayObject_48]
    simp only [show (2 : Int32) + 1 = 3 from rfl, show (3 : Int32) < 4 by decide, if_true, hr_188_9, Option.bind_some, n_83, ha_196 (i := 3) hb (by omega), n3, ho_188, d2]
    rw [mM_sayObject_48]
    simp only [show (3 : Int32) + 1 = 4 from rfl, show ¬ (4 : Int32) < 4 by decide, if_false, ho_188, Option.bind_some, r_push hD14 p18]
  have Wp : gW n m p q e4 g u4 ((x4.1, gup x4.2.1 18 (Int32.ofNat (D + 1)), x4.2.2.1, x4.2.2.2.1, x4.2.2.2.2.1, x4.2.2.2.2.2.1, gup x4.2.2.2.2.2.2.1 D (Int32.ofNat b), gup x4.2.2.2.2.2.2.2.1 D 0, gup x4.2.2.2.2.2.2.2.2.1 D 1, x4.2.2.2.2.2.2.2.2.2.1, x4.2.2.2.2.2.2.2.2.2.2.1, x4.2.2.2.2.2.2.2.2.2.2.2.1, x4.2.2.2.2.2.2.2.2.2.2.2.2.1, x4.2.2.2.2.2.2.2.2.2.2.2.2.2.1, x4.2.2.2.2.2.2.2.2.2.2.2.2.2.2.1, x4.2.2.2.2.2.2.2.2.2.2.2.2.2.2.2) : gX) := gW_x d3 rfl (fun i h => gup_ne h) rfl rfl rfl rfl rfl rfl
  have Fp : gFr D u u4 x ((x4.1, gup x4.2.1 18 (Int32.ofNat (D + 1)), x4.2.2.1, x4.2.2.2.1, x4.2.2.2.2.1, x4.2.2.2.2.2.1, gup x4.2.2.2.2.2.2.1 D (Int32.ofNat b), gup x4.2.2.2.2.2.2.2.1 D 0, gup x4.2.2.2.2.2.2.2.2.1 D 1, x4.2.2.2.2.2.2.2.2.2.1, x4.2.2.2.2.2.2.2.2.2.2.1, x4.2.2.2.2.2.2.2.2.2.2.2.1, x4.2.2.2.2.2.2.2.2.2.2.2.2.1, x4.2.2.2.2.2.2.2.2.2.2.2.2.2.1, x4.2.2.2.2.2.2.2.2.2.2.2.2.2.2.1, x4.2.2.2.2.2.2.2.2.2.2.2.2.2.2.2) : gX) := gFr_trans (gFr_by (D := D) B4) (gFr_push (w := x4.2.1) (fun _ _ => rfl) rfl) (Nat.le_refl _)
  have C1 : u1.1 = u.1 := a5.bC
  have C2 : u2.1 = u.1 := B2.bC
  have C3 : u3.1 = u.1 := B3.bC
  have C4 : u4.1 = u.1 := B4.bC
  have cl : ∀ y o z, cW_writeView F (some 169) (some 1) (some 165) (some (3 + 5 * b)) (Int32.ofNat (D + 1)) (gH u y o z) = F (some 169) (some 1) (some 165) 6 ((u.1 b).2.2.2.2.1 7) (Int32.ofNat (D + 1 + 1)) (gH u4 y o z) := by
    intro y o z
    simp only [cW_writeView, ho_169, Option.bind_some, a1, hiT_8 hb, C1, b1, hiT_9 hb, C2, c1, hiT_5 hb, C3, d1, hiT_7 hb, C4, n_succ]
    exact Option.bind_fun_some _
  by_cases h4 : u4.2.2.2.2.2.2.2.2.1 4 = 0
  · have e4e := cnt h4
    have R4 : x4.1 = x.1 := B4.bR
    have ty : (x4.1 b).2.2.2.2.1 = Int32.ofNat 5 := by rw [R4]; exact O.et
    have nu0 : (x4.1 b).2.2.2.1 0 = (u.1 b).2.2.2.2.1 7 := by rw [R4]; exact v0
    obtain ⟨u5, x5, e5, g5, k1, k2, k3, k4, k5⟩ := w_one (i := 0) (kd := 6) (nm := (u.1 b).2.2.2.2.1 7) ih hD14 Wp h4 (by omega) rfl ⟨6, by omega, rfl, fun _ => ⟨t, ht, et⟩⟩ (fun y o z => by
      simp only [mM_sayNext, hi_188_18, Option.bind_some, show gup x4.2.1 18 (Int32.ofNat (D + 1)) 18 = Int32.ofNat (D + 1) from rfl, n_pred, hr_188_19, ha_201 hD14, gup_eq, hr_188_20, ha_202 hD14, hr_188_2, ha_189 hb, ty, hr_188_21, ha_203 hD14, show ¬ (0 : Int32) = 1 by decide, if_false, hb_202 hD14, show (0 : Int32) + 1 = Int32.ofNat (0 + 1) from rfl, show Int32.ofNat 5 = (5 : Int32) from rfl, show ¬ (5 : Int32) = 0 by decide, if_true, hr_188_9, show (8 : Int32) * Int32.ofNat b = Int32.ofNat (8 * b + 0) from n_80, ha_196 (i := 0) hb (by omega), nu0, ho_188]
      exact Option.bind_fun_some _)
    by_cases h5 : u5.2.2.2.2.2.2.2.2.1 4 = 0
    · obtain ⟨m1, m2, m3, m4, m5, m6⟩ := k4 h5
      have s5 : (u5.1 b).2.2.2.2.1 4 = Int32.ofNat 5 := (k5.so b).trans (by rw [C4]; exact O.es)
      have O5 := ob_at k3 hbn (by omega) s5 c8 ((k5.fct b (by rw [C4, O.es]; decide)).trans (by rw [C4]; exact O.ec))
      have nx : ∀ y o z, mM_sayNext (some 188) (gH y x5 o z) = some (gH y ((x5.1, gup (gup x5.2.1 29 (x5.2.1 29 + 1)) 18 (Int32.ofNat D), x5.2.2.1, x5.2.2.2.1, x5.2.2.2.2.1, x5.2.2.2.2.2.1, x5.2.2.2.2.2.2.1, x5.2.2.2.2.2.2.2.1, x5.2.2.2.2.2.2.2.2.1, x5.2.2.2.2.2.2.2.2.2.1, x5.2.2.2.2.2.2.2.2.2.2.1, x5.2.2.2.2.2.2.2.2.2.2.2.1, x5.2.2.2.2.2.2.2.2.2.2.2.2.1, x5.2.2.2.2.2.2.2.2.2.2.2.2.2.1, gup x5.2.2.2.2.2.2.2.2.2.2.2.2.2.2.1 b (x5.2.1 29), x5.2.2.2.2.2.2.2.2.2.2.2.2.2.2.2) : gX) o z) := by
        intro y o z
        have m4' : x5.2.2.2.2.2.2.1 D = Int32.ofNat b := m4.trans gup_eq
        have m6' : x5.2.2.2.2.2.2.2.2.1 D = 1 := m6.trans gup_eq
        have p5 : gup x5.2.1 29 (x5.2.1 29 + 1) 18 = Int32.ofNat (D + 1) := m3
        simp only [mM_sayNext, hi_188_18, Option.bind_some, m3, n_pred, hr_188_19, ha_201 hD14, m4', hr_188_20, ha_202 hD14, m5, hr_188_2, ha_189 hb, O5.et, hr_188_21, ha_203 hD14, m6', show Int32.ofNat (0 + 1) = (1 : Int32) from rfl, if_true, show Int32.ofNat 5 = (5 : Int32) from rfl, show ¬ (5 : Int32) = 0 by decide, if_false, ho_188, r_give hb, p5, hp_188_18]
      have W6 := gW_give (b := b) k3 h5 (by omega) hb
      refine ⟨_, _, ((x5.1, gup (gup x5.2.1 29 (x5.2.1 29 + 1)) 18 (Int32.ofNat D), x5.2.2.1, x5.2.2.2.1, x5.2.2.2.2.1, x5.2.2.2.2.2.1, x5.2.2.2.2.2.2.1, x5.2.2.2.2.2.2.2.1, x5.2.2.2.2.2.2.2.2.1, x5.2.2.2.2.2.2.2.2.2.1, x5.2.2.2.2.2.2.2.2.2.2.1, x5.2.2.2.2.2.2.2.2.2.2.2.1, x5.2.2.2.2.2.2.2.2.2.2.2.2.1, x5.2.2.2.2.2.2.2.2.2.2.2.2.2.1, gup x5.2.2.2.2.2.2.2.2.2.2.2.2.2.2.1 b (x5.2.1 29), x5.2.2.2.2.2.2.2.2.2.2.2.2.2.2.2) : gX), fun y o z => ?_, rf, gRun_mono (gRun_trans k2 (gRun_step (k3.oc.trans h5) m3 hD14 nx)) (by omega), ⟨e5, g5 + 1, gW_x W6 rfl (fun i h => gup_ne h) rfl rfl rfl rfl rfl rfl, fun _ => ⟨h0, by omega, by omega⟩, gFr_trans Fp (D2 := D) (gFr_trans k5 (D2 := D) ⟨fun _ _ => rfl, fun _ => rfl, fun _ _ => rfl, fun _ _ => ⟨rfl, rfl, rfl⟩, fun _ _ => rfl, rfl⟩ (Nat.le_refl _)) (Nat.le_refl _)⟩, fun _ => rfl⟩
      show ((cW_writeView F (some 169) (some 1) (some 165) (some (3 + 5 * b)) (Int32.ofNat (D + 1)) (gH u y o z)).bind _) = _
      rw [cl, k1, Option.bind_some, ho_169, Option.bind_some, k_give hb]
      rfl
    · refine ⟨_, _, x5, fun y o z => ?_, rf, gRun_mono k2 (by omega), ⟨e5, g5, gW_giveD (r := gup u5.2.2.2.2.2.2.2.2.2.2.2.1 b (u5.2.2.2.2.2.2.2.2.1 2)) (v := u5.2.2.2.2.2.2.2.2.1 2 + 1) k3 h5, fun q => absurd q h5, gFr_trans Fp (D2 := D) (gFr_trans k5 (D2 := D) ⟨fun _ _ => rfl, fun _ => rfl, fun _ _ => rfl, fun _ _ => ⟨rfl, rfl, rfl⟩, fun _ _ => rfl, rfl⟩ (Nat.le_refl _)) (Nat.le_refl _)⟩, fun q => absurd q h5⟩
      show ((cW_writeView F (some 169) (some 1) (some 165) (some (3 + 5 * b)) (Int32.ofNat (D + 1)) (gH u y o z)).bind _) = _
      rw [cl, k1, Option.bind_some, ho_169, Option.bind_some, k_give hb]
      rfl
  · refine ⟨_, _, _, fun y o z => ?_, rf, gRun_mono gRun_refl (by omega), ⟨e4, g, gW_giveD (r := gup u4.2.2.2.2.2.2.2.2.2.2.2.1 b (u4.2.2.2.2.2.2.2.2.1 2)) (v := u4.2.2.2.2.2.2.2.2.1 2 + 1) Wp h4, fun q => absurd q h4, gFr_trans Fp (D2 := D) ⟨fun _ _ => rfl, fun _ => rfl, fun _ _ => rfl, fun _ _ => ⟨rfl, rfl, rfl⟩, fun _ _ => rfl, rfl⟩ (Nat.le_refl _)⟩, fun q => absurd q h4⟩
    show ((cW_writeView F (some 169) (some 1) (some 165) (some (3 + 5 * b)) (Int32.ofNat (D + 1)) (gH u y o z)).bind _) = _
    rw [cl, dead u4 y o z _ _ _ h4, Option.bind_some, ho_169, Option.bind_some, k_give hb]
    rfl
theorem w_obj {D B b : Nat} (hD : D + 1 ≤ 12) (hbn : b < n) (ih : gIH n m p q (D + 1) B F) (dead : gDead F) (W : gW n m p q e g u x) (h0 : u.2.2.2.2.2.2.2.2.1 4 = 0) (hlt : g < e) (h18 : x.2.1 18 = Int32.ofNat D) : gOb n m p q D (8 * (B + 1) + 1) e g u x (fun h => cW_writeObject F (some 169) (some 1) (some 165) (Int32.ofNat b) (Int32.ofNat (D + 1)) h) (fun h => mM_sayValue (some 188) 6 (Int32.ofNat b) h) := by
  have T := W.T
  have hn := T.hn
  have hb : b < 32 := by omega
  have l12 : ¬ (12 : Int32) < Int32.ofNat (D + 1) := n_nltl (n := 12) (by omega) (by omega) (by omega)
  obtain ⟨s, c, O⟩ := T.ob b hbn
  obtain ⟨pl1, pl2⟩ := W.pl h0 b hb
  have con : ¬ (6 : Int32) = 7 ∧ ¬ (6 : Int32) < 4 ∧ ¬ (6 : Int32) = 4 ∧ ¬ (6 : Int32) = 5 ∧ (-1 : Int32) < 0 := by decide
  have ref : ∀ y o z, mM_sayValue (some 188) 6 (Int32.ofNat b) (gH y x o z) = (if u.2.2.2.2.2.2.2.2.2.2.2.1 b < 0 then (if gio (gfi (fun i => decide (u.2.2.2.2.2.2.1 i = Int32.ofNat b)) p 0) < 0 then mM_sayObject (some 188) (Int32.ofNat b) (gH y x o z) else (mM_say (some 188) 7 (gH y x o z)).bind fun h37 => (gv_is h37 (some 188) 7).bind fun _ => (mM_passOf (some 188) (Int32.ofNat b) h37).bind fun v39 => (gv_is h37 (some 188) 7).bind fun _ => (mM_sayLengthy (some 188) (Int32.toInt64 v39) h37).bind fun h42 => some h42) else (mM_say (some 188) 6 (gH y x o z)).bind fun h45 => (gv_gR h45 (some 188) 7 30).bind fun v46 => (gv_lI h45 v46 (Int32.ofNat b)).bind fun v47 => (gv_is h45 (some 188) 7).bind fun _ => (mM_sayLengthy (some 188) (Int32.toInt64 v47) h45).bind fun h50 => some h50) := by
    intro y o z
    simp only [mM_sayValue, hi_188_18, Option.bind_some, h18, n_succ, if_neg l12, con.1, con.2.1, con.2.2.1, con.2.2.2.1, if_false, hr_188_30, ha_209 hb, pl1, ho_188, r_pass T.xp T.hp, ← pass_find T]
    split
    · split
      · exact Option.bind_fun_some _
      · rfl
    · rfl
  have cls : ∀ y o z, cW_writeObject F (some 169) (some 1) (some 165) (Int32.ofNat b) (Int32.ofNat (D + 1)) (gH u y o z) = (if u.2.2.2.2.2.2.2.2.2.2.2.1 b = -1 then (if gio (gfi (fun i => decide (u.2.2.2.2.2.2.1 i = Int32.ofNat b)) p 0) = -1 then (if Int32.ofNat s = 7 then some (gH ((u.1, u.2.1, u.2.2.1, u.2.2.2.1, u.2.2.2.2.1, u.2.2.2.2.2.1, u.2.2.2.2.2.2.1, u.2.2.2.2.2.2.2.1, gup u.2.2.2.2.2.2.2.2.1 4 1, u.2.2.2.2.2.2.2.2.2.1, u.2.2.2.2.2.2.2.2.2.2.1, u.2.2.2.2.2.2.2.2.2.2.2.1, u.2.2.2.2.2.2.2.2.2.2.2.2.1, u.2.2.2.2.2.2.2.2.2.2.2.2.2.1, u.2.2.2.2.2.2.2.2.2.2.2.2.2.2) : gU) y o z) else if (u.1 b).2.2.2.2.1 6 = 0 then (if Int32.ofNat s = 5 then ((cW_writeView F (some 169) (some 1) (some 165) (some (3 + 5 * b)) (Int32.ofNat (D + 1)) (gH u y o z)).bind fun h20 => (gv_is h20 (some 169) 5).bind fun _ => (cW_givePlace (some 169) (Int32.ofNat b) h20).bind fun h23 => some h23) else ((cW_givePlace (some 169) (Int32.ofNat b) (gH u y o z)).bind fun h26 => (gv_is h26 (some 169) 5).bind fun _ => (cW_writeParts F (some 169) (some 1) (some 165) (some (3 + 5 * b)) (Int32.ofNat (D + 1)) h26).bind fun h29 => some h29)) else some (gH ((u.1, u.2.1, u.2.2.1, u.2.2.2.1, u.2.2.2.2.1, u.2.2.2.2.2.1, u.2.2.2.2.2.2.1, u.2.2.2.2.2.2.2.1, gup u.2.2.2.2.2.2.2.2.1 4 1, u.2.2.2.2.2.2.2.2.2.1, u.2.2.2.2.2.2.2.2.2.2.1, u.2.2.2.2.2.2.2.2.2.2.2.1, u.2.2.2.2.2.2.2.2.2.2.2.2.1, u.2.2.2.2.2.2.2.2.2.2.2.2.2.1, u.2.2.2.2.2.2.2.2.2.2.2.2.2.2) : gU) y o z)) else (cW_writeByte (some 169) 7 (gH u y o z)).bind fun h33 => (gv_is h33 (some 165) 4).bind fun _ => (cH_placeOf (some 165) (Int32.ofNat b) h33).bind fun v35 => (gv_is h33 (some 169) 5).bind fun _ => (cW_writeLengthy (some 169) (Int32.toInt64 v35) h33).bind fun h38 => some h38) else (cW_writeByte (some 169) 6 (gH u y o z)).bind fun h41 => (gv_gR h41 (some 169) 5 1).bind fun v42 => (gv_lI h41 v42 (Int32.ofNat b)).bind fun v43 => (gv_is h41 (some 169) 5).bind fun _ => (cW_writeLengthy (some 169) (Int32.toInt64 v43) h41).bind fun h45 => some h45) := by
    intro y o z
    simp only [cW_writeObject, ho_1, Option.bind_some, k_tin T.un hn hbn, reduceCtorEq, if_false, hr_169_1, ha_172 hb, ho_165, k_place T.up T.hp, hiT_4 hb, O.es, hp_169_4, hiT_6 hb, ho_169]
  rcases pl2 with pm | ⟨j, hj, pj⟩
  · have pn : u.2.2.2.2.2.2.2.2.2.2.2.1 b < 0 := by rw [pm]; exact con.2.2.2.2
    cases hf : gfi (fun i => decide (u.2.2.2.2.2.2.1 i = Int32.ofNat b)) p 0 with
    | some t =>
      rw [hf] at ref cls
      have htp := (gfi_some _ _ _ hf).2.1
      have hp4 := T.hp
      have t1 : ¬ gio (some t) < 0 := n_nn (n := t) (by omega)
      have t2 : ¬ gio (some t) = -1 := n_ne1 (n := t) (by omega)
      obtain ⟨u1, x1, e1, a1, a2, a3, a4, a5⟩ := w_byte (b := 7) W ⟨7, by omega, rfl⟩
      obtain ⟨u2, x2, e2, b1, b2, b3, b4, b5⟩ := w_lengthy (v := Int32.toInt64 (Int32.ofNat t)) a3
      have hf1 : gfi (fun i => decide (u1.2.2.2.2.2.2.1 i = Int32.ofNat b)) p 0 = some t := by rw [a5.u6]; exact hf
      have hf2 : gfi (fun i => decide (x1.2.2.1 i = Int32.ofNat b)) p 0 = some t := by rw [a5.b197, ← pass_find T]; exact hf
      have T1 := a3.T
      refine gOb_by (gBy_trans a5 b5) b3 (fun q => by have := a4 (gBy_0 b5 q); have := b4 q; omega) h18 (fun y o z => ?_) (fun y o z => ?_)
      · rw [cls, if_pos pm, if_neg t2, a1, Option.bind_some, ho_165, Option.bind_some, k_place T1.up T1.hp, hf1, Option.bind_some, ho_169, Option.bind_some]
        show (cW_writeLengthy (some 169) (Int32.toInt64 (Int32.ofNat t)) (gH u1 y o z)).bind _ = _
        rw [b1]; rfl
      · rw [ref, if_pos pn, if_neg t1, a2, Option.bind_some, ho_188, Option.bind_some, r_pass T1.xp T1.hp, hf2, Option.bind_some, Option.bind_some]
        show (mM_sayLengthy (some 188) (Int32.toInt64 (Int32.ofNat t)) (gH y x1 o z)).bind _ = _
        rw [b2]; rfl
    | none =>
      rw [hf] at ref cls
      have ref2 : ∀ y o z, mM_sayValue (some 188) 6 (Int32.ofNat b) (gH y x o z) = mM_sayObject (some 188) (Int32.ofNat b) (gH y x o z) := fun y o z => by
        rw [ref, if_pos pn, if_pos (show gio none < 0 from con.2.2.2.2)]
      have cls2 := fun y o z => (cls y o z).trans ((if_pos pm).trans (if_pos (show gio none = -1 from rfl)))
      obtain ⟨_, e6, e7, e0, e1, e2, e3, e4, e5⟩ := n_s6 s O.s8
      by_cases s7 : s = 7
      · refine gOb_bad W (fun y o z => ?_) (fun y o z => ?_)
        · rw [cls2, if_pos (e7.mpr s7)]
        · rw [ref2]
          simp only [mM_sayObject, hr_188_2, Option.bind_some, ha_189 hb, O.et, e7, if_pos s7, hp_188_26]
      · by_cases d0 : (u.1 b).2.2.2.2.1 6 = 0
        · have ref3 : ∀ y o z, mM_sayValue (some 188) 6 (Int32.ofNat b) (gH y x o z) = mM_sayObject_33 (some 188) (Int32.ofNat b) (Int32.ofNat s) (gH y x o z) := by
            intro y o z
            rw [ref2]
            simp only [mM_sayObject, hr_188_2, Option.bind_some, ha_189 hb, O.et, e7, if_neg s7, e4, hr_188_4, ha_191 hb, O.ed, d0, if_true, ite_self]
          have cls3 := fun y o z => (cls2 y o z).trans ((if_neg (fun q => s7 (e7.mp q))).trans (if_pos d0))
          by_cases s5 : s = 5
          · subst s5
            obtain ⟨u', x1, x', k1, k2, k3, k4, k5⟩ := w_view hD hn hbn ih dead W h0 hlt h18 O
            exact ⟨u', x1, x', fun y o z => ((cls3 y o z).trans (if_pos rfl)).trans (k1 y o z), fun y o z => (ref3 y o z).trans (k2 y o z), k3, k4, k5⟩
          · have cls4 : ∀ y o z, cW_writeObject F (some 169) (some 1) (some 165) (Int32.ofNat b) (Int32.ofNat (D + 1)) (gH u y o z) = (cW_givePlace (some 169) (Int32.ofNat b) (gH u y o z)).bind fun h26 => cW_writeParts F (some 169) (some 1) (some 165) (some (3 + 5 * b)) (Int32.ofNat (D + 1)) h26 := fun y o z => by
              rw [cls3, if_neg (fun q => s5 (e5.mp q)), k_give hb, Option.bind_some, Option.bind_some, ho_169, Option.bind_some]
              exact Option.bind_fun_some _
            have fin : gOb n m p q D (8 * (B + 1) + 1) e g u x (fun h => (cW_givePlace (some 169) (Int32.ofNat b) h).bind fun h26 => cW_writeParts F (some 169) (some 1) (some 165) (some (3 + 5 * b)) (Int32.ofNat (D + 1)) h26) (fun h => mM_sayObject_33 (some 188) (Int32.ofNat b) (Int32.ofNat s) h) := by
              have h8 := O.s8
              rcases (by omega : s = 0 ∨ (s = 1 ∨ s = 2 ∨ s = 3) ∨ s = 4 ∨ s = 6) with r | r | r | r
              · subst r; exact w_rec hD hn hbn ih dead W h0 hlt h18 O
              · exact w_many hD hn hbn ih dead W h0 hlt h18 r O
              · subst r; exact w_buf hn hbn W h0 hlt h18 O d0
              · subst r; exact w_stamp hn hbn W h0 hlt h18 O
            obtain ⟨u', x1, x', k1, k2, k3, k4, k5⟩ := fin
            exact ⟨u', x1, x', fun y o z => (cls4 y o z).trans (k1 y o z), fun y o z => (ref3 y o z).trans (k2 y o z), k3, k4, k5⟩
        · have s4 : s = 4 := by rcases O.d4 with h | h; exact absurd h d0; exact h.2
          refine gOb_bad W (fun y o z => ?_) (fun y o z => ?_)
          · rw [cls2, if_neg (fun q => s7 (e7.mp q)), if_neg d0]
          · rw [ref2]
            simp only [mM_sayObject, hr_188_2, Option.bind_some, ha_189 hb, O.et, e7, if_neg s7, e4, if_pos s4, hr_188_4, ha_191 hb, O.ed, if_neg d0, hp_188_26]
  · have pn : ¬ u.2.2.2.2.2.2.2.2.2.2.2.1 b < 0 := by rw [pj]; exact n_nn (by omega)
    have pm : ¬ u.2.2.2.2.2.2.2.2.2.2.2.1 b = -1 := by rw [pj]; exact n_ne1 (by omega)
    obtain ⟨u1, x1, e1, a1, a2, a3, a4, a5⟩ := w_byte (b := 6) W ⟨6, by omega, rfl⟩
    obtain ⟨u2, x2, e2, b1, b2, b3, b4, b5⟩ := w_lengthy (v := Int32.toInt64 (u.2.2.2.2.2.2.2.2.2.2.2.1 b)) a3
    refine gOb_by (gBy_trans a5 b5) b3 (fun q => by have := a4 (gBy_0 b5 q); have := b4 q; omega) h18 (fun y o z => ?_) (fun y o z => ?_)
    · have e1 : u1.2.2.2.2.2.2.2.2.2.2.2.1 b = u.2.2.2.2.2.2.2.2.2.2.2.1 b := by rw [a5.b172]
      rw [cls, if_neg pm, a1, Option.bind_some, hr_169_1, Option.bind_some, ha_172 hb, Option.bind_some, ho_169, Option.bind_some, e1, b1]
      rfl
    · have e1 : x1.2.2.2.2.2.2.2.2.2.2.2.2.2.2.1 b = u.2.2.2.2.2.2.2.2.2.2.2.1 b := by rw [a5.b209]; exact pl1
      rw [ref, if_neg pn, a2, Option.bind_some, hr_188_30, Option.bind_some, ha_209 hb, Option.bind_some, ho_188, Option.bind_some, e1, b2]
      rfl
/-- how many turns the reference's loop may take for one value, t levels below the deepest -/
def gBd : Nat → Nat
  | 0 => 0
  | t + 1 => 8 * (gBd t + 1) + 1
theorem w_dead {f : Nat} : gDead (cW_writeValue (f + 1)) := by
  intro u y o z k v d h
  rw [cW_writeValue]
  simp only [hi_169_4, Option.bind_some, if_neg h]
theorem w_val : ∀ (t D f : Nat), D + t = 12 → gIH n m p q D (gBd t) (cW_writeValue (f + t + 1)) := by
  intro t
  induction t with
  | zero =>
    intro D f hD u x e g k v W h0 hlt h18 hv
    obtain rfl : D = 12 := by omega
    have l12 : (12 : Int32) < Int32.ofNat (12 + 1) := by decide
    refine gOb_bad (B := gBd 0) (A := fun h => cW_writeValue (f + 0 + 1) (some 169) (some 1) (some 165) k v (Int32.ofNat (12 + 1)) h) (M := fun h => mM_sayValue (some 188) k v h) W (fun y o z => ?_) (fun y o z => ?_)
    · show cW_writeValue (f + 0 + 1) _ _ _ _ _ _ _ = _
      rw [cW_writeValue]
      simp only [hi_169_4, Option.bind_some, h0, if_true, if_pos l12, hp_169_4]
    · simp only [mM_sayValue, hi_188_18, Option.bind_some, h18, n_succ, if_pos l12, hp_188_26]
  | succ t IH =>
    intro D f hD u x e g k v W h0 hlt h18 hv
    have l12 : ¬ (12 : Int32) < Int32.ofNat (D + 1) := n_nltl (n := 12) (by omega) (by omega) (by omega)
    have ih := IH (D + 1) f (by omega)
    have dead : gDead (cW_writeValue (f + t + 1)) := w_dead
    obtain ⟨j, hj, rfl, hv6⟩ := hv
    by_cases j7 : j = 7
    · subst j7
      refine gOb_bad (B := gBd (t + 1)) (A := fun h => cW_writeValue (f + (t + 1) + 1) (some 169) (some 1) (some 165) (Int32.ofNat 7) v (Int32.ofNat (D + 1)) h) (M := fun h => mM_sayValue (some 188) (Int32.ofNat 7) v h) W (fun y o z => ?_) (fun y o z => ?_)
      · show cW_writeValue (f + (t + 1) + 1) _ _ _ _ _ _ _ = _
        rw [cW_writeValue]
        simp only [hi_169_4, Option.bind_some, h0, if_true, if_neg l12, show Int32.ofNat 7 = (7 : Int32) from rfl, hp_169_4]
      · simp only [mM_sayValue, hi_188_18, Option.bind_some, h18, n_succ, if_neg l12, show Int32.ofNat 7 = (7 : Int32) from rfl, if_true, hp_188_26]
    · by_cases j6 : j = 6
      · subst j6
        obtain ⟨b, hb, rfl⟩ := hv6 rfl
        obtain ⟨u', x1, x', k1, k2, k3, k4, k5⟩ := w_obj (B := gBd t) (by omega) hb ih dead W h0 hlt h18
        refine ⟨u', x1, x', fun y o z => ?_, k2, k3, k4, k5⟩
        rw [show f + (t + 1) + 1 = (f + t + 1) + 1 by omega, cW_writeValue]
        simp only [hi_169_4, Option.bind_some, h0, if_true, if_neg l12, show Int32.ofNat 6 = (6 : Int32) from rfl, show ¬ (6 : Int32) = 7 by decide, if_false, ho_169]
        exact (Option.bind_fun_some _).trans (k1 y o z)
      · obtain ⟨u', x', e', k1, k2, k3, k4, k5⟩ := w_prim (F := f + t + 1) (v := v) W h0 (by omega) h18 (show j ≤ 5 by omega)
        exact gOb_by k5 k3 (fun q => by have := k4 q; omega) h18 (A := fun h => cW_writeValue (f + (t + 1) + 1) (some 169) (some 1) (some 165) (Int32.ofNat j) v (Int32.ofNat (D + 1)) h) (M := fun h => mM_sayValue (some 188) (Int32.ofNat j) v h) k1 k2
end H
end
section
/-! write: what is asked before and behind -/
def gfl (r : Nat → Int32) (i : Nat) : Nat → Int32 := fun j => if i ≤ j ∧ j < 32 then -1 else r j
theorem gfl_32 {r : Nat → Int32} : gfl r 32 = r := by funext j; unfold gfl; rw [if_neg (by omega)]
theorem gfl_step {r : Nat → Int32} {i : Nat} (h : i < 32) : gfl (gup r i (-1)) (i + 1) = gfl r i := by
  funext j; unfold gfl gup
  by_cases c : j = i
  · subst c; rw [if_neg (by omega), if_pos rfl, if_pos (by omega)]
  · by_cases c2 : i + 1 ≤ j ∧ j < 32
    · rw [if_pos c2, if_pos (by omega)]
    · rw [if_neg c2, if_neg c, if_neg (by omega)]
/-- the object that is passed at place i -/
def gpk (u : gU) (i : Nat) : Nat := (u.2.2.2.2.2.2.1 i).toNatClampNeg
section H
variable {n m p q e g : Nat} {u : gU} {x : gX}
theorem gpk_at (T : gTi n m p q u x) {i : Nat} (hi : i < p) : gpk u i < n ∧ u.2.2.2.2.2.2.1 i = Int32.ofNat (gpk u i) ∧ x.2.2.1 i = Int32.ofNat (gpk u i) := by
  obtain ⟨k, h1, h2⟩ := T.pb i hi
  have hn := T.hn
  have : gpk u i = k := by unfold gpk; rw [h2]; exact n_cl (by omega)
  rw [this]
  exact ⟨h1, h2, (T.pa i hi).trans h2⟩
theorem k_fillW {k v : Int32} {o : Nat → Int64} {z : gx_H} : ∀ (r i f : Nat) (u : gU), i + r = 32 → cW_run_16 (f + r + 1) (some 169) (some 1) (some 165) k v (Int32.ofNat i) (gH u x o z) = cW_run_16 (f + 1) (some 169) (some 1) (some 165) k v (Int32.ofNat 32) (gH ((u.1, u.2.1, u.2.2.1, u.2.2.2.1, u.2.2.2.2.1, u.2.2.2.2.2.1, u.2.2.2.2.2.2.1, u.2.2.2.2.2.2.2.1, u.2.2.2.2.2.2.2.2.1, u.2.2.2.2.2.2.2.2.2.1, u.2.2.2.2.2.2.2.2.2.2.1, gfl u.2.2.2.2.2.2.2.2.2.2.2.1 i, u.2.2.2.2.2.2.2.2.2.2.2.2.1, u.2.2.2.2.2.2.2.2.2.2.2.2.2.1, u.2.2.2.2.2.2.2.2.2.2.2.2.2.2) : gU) x o z) := by
  intro r
  induction r with
  | zero => intro i f u h; obtain rfl : i = 32 := by omega
            rw [gfl_32]
  | succ r ih =>
    intro i f u h
    rw [show f + (r + 1) + 1 = (f + r + 1) + 1 by omega, cW_run_16, if_pos (show Int32.ofNat i < 32 from n_ltl (m := 32) (by omega) (by omega) (by omega)), hr_169_1, Option.bind_some, hb_172 (show i < 32 by omega), Option.bind_some, n_succ, ih (i + 1) f _ (by omega)]
    simp only [gfl_step (show i < 32 by omega)]
theorem r_fillW {k v : Int32} {o : Nat → Int64} {z : gx_H} : ∀ (r i f : Nat) (x : gX), i + r = 32 → mM_write_42 (f + r + 1) (some 188) k v (Int32.ofNat i) (gH u x o z) = mM_write_42 (f + 1) (some 188) k v (Int32.ofNat 32) (gH u ((x.1, x.2.1, x.2.2.1, x.2.2.2.1, x.2.2.2.2.1, x.2.2.2.2.2.1, x.2.2.2.2.2.2.1, x.2.2.2.2.2.2.2.1, x.2.2.2.2.2.2.2.2.1, x.2.2.2.2.2.2.2.2.2.1, x.2.2.2.2.2.2.2.2.2.2.1, x.2.2.2.2.2.2.2.2.2.2.2.1, x.2.2.2.2.2.2.2.2.2.2.2.2.1, x.2.2.2.2.2.2.2.2.2.2.2.2.2.1, gfl x.2.2.2.2.2.2.2.2.2.2.2.2.2.2.1 i, x.2.2.2.2.2.2.2.2.2.2.2.2.2.2.2) : gX) o z) := by
  intro r
  induction r with
  | zero => intro i f x h; obtain rfl : i = 32 := by omega
            rw [gfl_32]
  | succ r ih =>
    intro i f x h
    rw [show f + (r + 1) + 1 = (f + r + 1) + 1 by omega, mM_write_42, if_pos (show Int32.ofNat i < 32 from n_ltl (m := 32) (by omega) (by omega) (by omega)), hr_188_30, Option.bind_some, hb_209 (show i < 32 by omega), Option.bind_some, n_succ, ih (i + 1) f _ (by omega)]
    simp only [gfl_step (show i < 32 by omega)]
theorem k_fr {k : Nat} {o : Nat → Int64} {z : gx_H} (hu : u.2.2.1 1 = Int32.ofNat n) (hn : n ≤ 32) (hk : k < n) : cS_isFreeBuffer (some 1) (Int32.ofNat k) (gH u x o z) = some (if (u.1 k).2.2.2.2.1 4 = 4 ∧ (u.1 k).2.2.2.2.1 6 = 0 then 1 else 0) := by
  have hk2 : k < 32 := by omega
  unfold cS_isFreeBuffer
  simp only [ho_1, Option.bind_some, k_tin hu hn hk, reduceCtorEq, if_false, hiT_4 hk2, hiT_6 hk2]
  by_cases c1 : (u.1 k).2.2.2.2.1 4 = 4 <;> by_cases c2 : (u.1 k).2.2.2.2.1 6 = 0 <;> simp [c1, c2]
theorem k_freeL (T : gTi n m p q u x) : ∀ (r i f : Nat), i + r = p → ∃ a, (∀ y o z, cH_areFreeBuffers_2 (f + r + 1) (some 165) (some 1) (Int32.ofNat i) (gH u y o z) = some a) ∧ (a = 0 ∨ a = 1) ∧ (a = 1 ↔ ∀ t, i ≤ t → t < p → (u.1 (gpk u t)).2.2.2.2.1 4 = 4 ∧ (u.1 (gpk u t)).2.2.2.2.1 6 = 0) := by
  have hp := T.hp
  have hn := T.hn
  intro r
  induction r with
  | zero =>
    intro i f h
    refine ⟨1, fun y o z => ?_, Or.inr rfl, fun _ t h1 h2 => by omega, fun _ => rfl⟩
    rw [cH_areFreeBuffers_2, hi_165_1, Option.bind_some, T.up, if_neg (n_nltl (by omega) (by omega) (by omega))]
  | succ r ih =>
    intro i f h
    obtain ⟨g1, g2, g3⟩ := gpk_at T (show i < p by omega)
    obtain ⟨a, a1, a2, a3⟩ := ih (i + 1) f (by omega)
    have st : ∀ y o z, cH_areFreeBuffers_2 (f + (r + 1) + 1) (some 165) (some 1) (Int32.ofNat i) (gH u y o z) = if (u.1 (gpk u i)).2.2.2.2.1 4 = 4 ∧ (u.1 (gpk u i)).2.2.2.2.1 6 = 0 then some a else some 0 := by
      intro y o z
      rw [show f + (r + 1) + 1 = (f + r + 1) + 1 by omega, cH_areFreeBuffers_2, hi_165_1, Option.bind_some, T.up, if_pos (n_ltl (by omega) (by omega) (by omega)), hr_165_0, Option.bind_some, ha_166 (by omega), Option.bind_some, ho_1, Option.bind_some, g2, k_fr T.un hn g1, Option.bind_some, n_succ, a1]
      by_cases c : (u.1 (gpk u i)).2.2.2.2.1 4 = 4 ∧ (u.1 (gpk u i)).2.2.2.2.1 6 = 0
      · rw [if_pos c, if_pos c, if_neg (by decide)]
      · rw [if_neg c, if_neg c, if_pos rfl]
    by_cases c : (u.1 (gpk u i)).2.2.2.2.1 4 = 4 ∧ (u.1 (gpk u i)).2.2.2.2.1 6 = 0
    · refine ⟨a, fun y o z => (st y o z).trans (if_pos c), a2, fun q t h1 h2 => ?_, fun q => a3.mpr fun t h1 h2 => q t (by omega) h2⟩
      by_cases e : t = i
      · subst e; exact c
      · exact a3.mp q t (by omega) h2
    · exact ⟨0, fun y o z => (st y o z).trans (if_neg c), Or.inl rfl, fun q => absurd q (by decide), fun q => absurd (q i (by omega) (by omega)) c⟩
theorem k_freeAll (T : gTi n m p q u x) : ∃ a, (∀ y o z, cH_areFreeBuffers (some 165) (some 1) (gH u y o z) = some a) ∧ (a = 0 ∨ a = 1) ∧ (a = 1 ↔ ∀ t, t < p → (u.1 (gpk u t)).2.2.2.2.1 4 = 4 ∧ (u.1 (gpk u t)).2.2.2.2.1 6 = 0) := by
  obtain ⟨a, a1, a2, a3⟩ := k_freeL T p 0 (1000000000000000 - p - 1) (by omega)
  have hp := T.hp
  rw [show 1000000000000000 - p - 1 + p + 1 = 1000000000000000 by omega] at a1
  exact ⟨a, a1, a2, fun q t h => a3.mp q t (by omega) h, fun q => a3.mpr fun t _ h => q t h⟩
theorem k_twiceL (T : gTi n m p q u x) : ∀ (r i f : Nat), i + r = p → ∃ a, (∀ y o z, cH_noneTwice_2 (f + r + 1) (some 165) (Int32.ofNat i) (gH u y o z) = some a) ∧ (a = 0 ∨ a = 1) ∧ (a = 1 ↔ ∀ t, i ≤ t → t < p → gio (gfi (fun j => decide (u.2.2.2.2.2.2.1 j = u.2.2.2.2.2.2.1 t)) p 0) = Int32.ofNat t) := by
  have hp := T.hp
  intro r
  induction r with
  | zero =>
    intro i f h
    refine ⟨1, fun y o z => ?_, Or.inr rfl, fun _ t h1 h2 => by omega, fun _ => rfl⟩
    rw [cH_noneTwice_2, hi_165_1, Option.bind_some, T.up, if_neg (n_nltl (by omega) (by omega) (by omega))]
  | succ r ih =>
    intro i f h
    obtain ⟨a, a1, a2, a3⟩ := ih (i + 1) f (by omega)
    have st : ∀ y o z, cH_noneTwice_2 (f + (r + 1) + 1) (some 165) (Int32.ofNat i) (gH u y o z) = if gio (gfi (fun j => decide (u.2.2.2.2.2.2.1 j = u.2.2.2.2.2.2.1 i)) p 0) = Int32.ofNat i then some a else some 0 := by
      intro y o z
      rw [show f + (r + 1) + 1 = (f + r + 1) + 1 by omega, cH_noneTwice_2, hi_165_1, Option.bind_some, T.up, if_pos (n_ltl (by omega) (by omega) (by omega)), hr_165_0, Option.bind_some, ha_166 (by omega), Option.bind_some, ho_165, Option.bind_some, k_place T.up T.hp, Option.bind_some, n_succ, a1]
    by_cases c : gio (gfi (fun j => decide (u.2.2.2.2.2.2.1 j = u.2.2.2.2.2.2.1 i)) p 0) = Int32.ofNat i
    · refine ⟨a, fun y o z => (st y o z).trans (if_pos c), a2, fun q t h1 h2 => ?_, fun q => a3.mpr fun t h1 h2 => q t (by omega) h2⟩
      by_cases e : t = i
      · subst e; exact c
      · exact a3.mp q t (by omega) h2
    · exact ⟨0, fun y o z => (st y o z).trans (if_neg c), Or.inl rfl, fun q => absurd q (by decide), fun q => absurd (q i (by omega) (by omega)) c⟩
theorem k_twice (T : gTi n m p q u x) : ∃ a, (∀ y o z, cH_noneTwice (some 165) (gH u y o z) = some a) ∧ (a = 0 ∨ a = 1) ∧ (a = 1 ↔ ∀ t, t < p → gio (gfi (fun j => decide (u.2.2.2.2.2.2.1 j = u.2.2.2.2.2.2.1 t)) p 0) = Int32.ofNat t) := by
  obtain ⟨a, a1, a2, a3⟩ := k_twiceL T p 0 (1000000000000000 - p - 1) (by omega)
  have hp := T.hp
  rw [show 1000000000000000 - p - 1 + p + 1 = 1000000000000000 by omega] at a1
  exact ⟨a, a1, a2, fun q t h => a3.mp q t (by omega) h, fun q => a3.mpr fun t _ h => q t h⟩
theorem r_can0 (T : gTi n m p q u x) : ∀ (r i f : Nat), i + r = p → ∀ y o z, mM_canPass_4 (f + r + 1) (some 188) 0 (Int32.ofNat i) (gH y x o z) = some 0 := by
  have hp := T.hp
  intro r
  induction r with
  | zero =>
    intro i f h y o z
    rw [mM_canPass_4, hi_188_10, Option.bind_some, T.xp, if_neg (n_nltl (by omega) (by omega) (by omega))]
    rfl
  | succ r ih =>
    intro i f h y o z
    rw [show f + (r + 1) + 1 = (f + r + 1) + 1 by omega, mM_canPass_4, hi_188_10, Option.bind_some, T.xp, if_pos (n_ltl (by omega) (by omega) (by omega)), if_pos rfl]
    simp only [mM_canPass_63, mM_canPass_64, n_succ]
    exact ih (i + 1) f (by omega) y o z
theorem r_canL (T : gTi n m p q u x) : ∀ (r i f : Nat), i + r = p → ∃ a, (∀ y o z, mM_canPass_4 (f + r + 1) (some 188) 1 (Int32.ofNat i) (gH y x o z) = some a) ∧ (a = 0 ∨ a = 1) ∧ (a = 1 ↔ ∀ t, i ≤ t → t < p → ((u.1 (gpk u t)).2.2.2.2.1 4 = 4 ∧ (u.1 (gpk u t)).2.2.2.2.1 6 = 0) ∧ gio (gfi (fun j => decide (u.2.2.2.2.2.2.1 j = u.2.2.2.2.2.2.1 t)) p 0) = Int32.ofNat t) := by
  have hp := T.hp
  have hn := T.hn
  intro r
  induction r with
  | zero =>
    intro i f h
    refine ⟨1, fun y o z => ?_, Or.inr rfl, fun _ t h1 h2 => by omega, fun _ => rfl⟩
    rw [mM_canPass_4, hi_188_10, Option.bind_some, T.xp, if_neg (n_nltl (by omega) (by omega) (by omega))]
    rfl
  | succ r ih =>
    intro i f h
    obtain ⟨g1, g2, g3⟩ := gpk_at T (show i < p by omega)
    obtain ⟨s, c', O⟩ := T.ob _ g1
    have hk : gpk u i < 32 := by omega
    obtain ⟨a, a1, a2, a3⟩ := ih (i + 1) f (by omega)
    have et : (x.1 (gpk u i)).2.2.2.2.1 = (u.1 (gpk u i)).2.2.2.2.1 4 := O.et.trans O.es.symm
    have pl : ∀ y o z, mM_passOf (some 188) (Int32.ofNat (gpk u i)) (gH y x o z) = some (gio (gfi (fun j => decide (u.2.2.2.2.2.2.1 j = u.2.2.2.2.2.2.1 i)) p 0)) := fun y o z => by
      rw [← g2, r_pass T.xp T.hp, ← pass_find T]
    have st : ∀ y o z, mM_canPass_4 (f + (r + 1) + 1) (some 188) 1 (Int32.ofNat i) (gH y x o z) = if ((u.1 (gpk u i)).2.2.2.2.1 4 = 4 ∧ (u.1 (gpk u i)).2.2.2.2.1 6 = 0) ∧ gio (gfi (fun j => decide (u.2.2.2.2.2.2.1 j = u.2.2.2.2.2.2.1 i)) p 0) = Int32.ofNat i then some a else some 0 := by
      intro y o z
      rw [show f + (r + 1) + 1 = (f + r + 1) + 1 by omega, mM_canPass_4, hi_188_10, Option.bind_some, T.xp, if_pos (n_ltl (by omega) (by omega) (by omega)), if_neg (show ¬ (1 : Int32) = 0 by decide)]
      simp only [hr_188_2, hr_188_11, hr_188_4, Option.bind_some, ha_197 (show i < 4 by omega), g3, ha_189 hk, et, ha_191 hk, O.ed, ho_188, pl, mM_canPass_63, mM_canPass_64, n_succ, a1, r_can0 T r (i + 1) f (by omega)]
      by_cases c1 : (u.1 (gpk u i)).2.2.2.2.1 4 = 4
      · by_cases c2 : (u.1 (gpk u i)).2.2.2.2.1 6 = 0
        · by_cases c3 : gio (gfi (fun j => decide (u.2.2.2.2.2.2.1 j = u.2.2.2.2.2.2.1 i)) p 0) = Int32.ofNat i
          · simp [c1, c2, c3]
          · simp [c1, c2, c3]
        · simp [c1, c2]
      · simp [c1]
    by_cases c : ((u.1 (gpk u i)).2.2.2.2.1 4 = 4 ∧ (u.1 (gpk u i)).2.2.2.2.1 6 = 0) ∧ gio (gfi (fun j => decide (u.2.2.2.2.2.2.1 j = u.2.2.2.2.2.2.1 i)) p 0) = Int32.ofNat i
    · refine ⟨a, fun y o z => (st y o z).trans (if_pos c), a2, fun q t h1 h2 => ?_, fun q => a3.mpr fun t h1 h2 => q t (by omega) h2⟩
      by_cases e : t = i
      · subst e; exact c
      · exact a3.mp q t (by omega) h2
    · exact ⟨0, fun y o z => (st y o z).trans (if_neg c), Or.inl rfl, fun q => absurd q (by decide), fun q => absurd (q i (by omega) (by omega)) c⟩
theorem r_can (T : gTi n m p q u x) : ∃ a, (∀ y o z, mM_canPass (some 188) (gH y x o z) = some a) ∧ (a = 0 ∨ a = 1) ∧ (a = 1 ↔ ∀ t, t < p → ((u.1 (gpk u t)).2.2.2.2.1 4 = 4 ∧ (u.1 (gpk u t)).2.2.2.2.1 6 = 0) ∧ gio (gfi (fun j => decide (u.2.2.2.2.2.2.1 j = u.2.2.2.2.2.2.1 t)) p 0) = Int32.ofNat t) := by
  obtain ⟨a, a1, a2, a3⟩ := r_canL T p 0 (1000000000000000 - p - 1) (by omega)
  have hp := T.hp
  rw [show 1000000000000000 - p - 1 + p + 1 = 1000000000000000 by omega] at a1
  exact ⟨a, a1, a2, fun q t h => a3.mp q t (by omega) h, fun q => a3.mpr fun t _ h => q t h⟩
/-- the reference's look at what is passed, behind the loop -/
theorem r_103L (T : gTi n m p q u x) : ∀ (r i f : Nat) (b : Nat → Int32), i + r = p → (∀ j, ¬ j = 26 → b j = x.2.1 j) → b 26 = 0 → ∃ v, (v = 0 ∨ v = 1) ∧ (v = 0 ↔ ∀ t, i ≤ t → t < p → (u.1 (gpk u t)).2.2.2.2.1 6 = 0) ∧ ∀ y o z, mM_write_103 (f + r + 1) (some 188) (Int32.ofNat i) (gH y ((x.1, b, x.2.2.1, x.2.2.2.1, x.2.2.2.2.1, x.2.2.2.2.2.1, x.2.2.2.2.2.2.1, x.2.2.2.2.2.2.2.1, x.2.2.2.2.2.2.2.2.1, x.2.2.2.2.2.2.2.2.2.1, x.2.2.2.2.2.2.2.2.2.2.1, x.2.2.2.2.2.2.2.2.2.2.2.1, x.2.2.2.2.2.2.2.2.2.2.2.2.1, x.2.2.2.2.2.2.2.2.2.2.2.2.2.1, x.2.2.2.2.2.2.2.2.2.2.2.2.2.2.1, x.2.2.2.2.2.2.2.2.2.2.2.2.2.2.2) : gX) o z) = mM_write_147 (some 188) (gH y ((x.1, gup b 26 v, x.2.2.1, x.2.2.2.1, x.2.2.2.2.1, x.2.2.2.2.2.1, x.2.2.2.2.2.2.1, x.2.2.2.2.2.2.2.1, x.2.2.2.2.2.2.2.2.1, x.2.2.2.2.2.2.2.2.2.1, x.2.2.2.2.2.2.2.2.2.2.1, x.2.2.2.2.2.2.2.2.2.2.2.1, x.2.2.2.2.2.2.2.2.2.2.2.2.1, x.2.2.2.2.2.2.2.2.2.2.2.2.2.1, x.2.2.2.2.2.2.2.2.2.2.2.2.2.2.1, x.2.2.2.2.2.2.2.2.2.2.2.2.2.2.2) : gX) o z) := by
  have hp := T.hp
  have hn := T.hn
  intro r
  induction r with
  | zero =>
    intro i f b h hb h0
    refine ⟨0, Or.inl rfl, ⟨fun _ t h1 h2 => by omega, fun _ => rfl⟩, fun y o z => ?_⟩
    have b10 : b 10 = Int32.ofNat p := (hb 10 (by omega)).trans T.xp
    rw [mM_write_103, hi_188_10, Option.bind_some]
    simp only [b10]
    rw [if_neg (n_nltl (by omega) (by omega) (by omega)), gup_same h0]
  | succ r ih =>
    intro i f b h hb h0
    obtain ⟨g1, g2, g3⟩ := gpk_at T (show i < p by omega)
    obtain ⟨s, c', O⟩ := T.ob _ g1
    have hk : gpk u i < 32 := by omega
    have b10 : b 10 = Int32.ofNat p := (hb 10 (by omega)).trans T.xp
    have st : ∀ y o z, mM_write_103 (f + (r + 1) + 1) (some 188) (Int32.ofNat i) (gH y ((x.1, b, x.2.2.1, x.2.2.2.1, x.2.2.2.2.1, x.2.2.2.2.2.1, x.2.2.2.2.2.2.1, x.2.2.2.2.2.2.2.1, x.2.2.2.2.2.2.2.2.1, x.2.2.2.2.2.2.2.2.2.1, x.2.2.2.2.2.2.2.2.2.2.1, x.2.2.2.2.2.2.2.2.2.2.2.1, x.2.2.2.2.2.2.2.2.2.2.2.2.1, x.2.2.2.2.2.2.2.2.2.2.2.2.2.1, x.2.2.2.2.2.2.2.2.2.2.2.2.2.2.1, x.2.2.2.2.2.2.2.2.2.2.2.2.2.2.2) : gX) o z) = mM_write_103 (f + r + 1) (some 188) (Int32.ofNat (i + 1)) (gH y ((x.1, gup b 26 (if (u.1 (gpk u i)).2.2.2.2.1 6 = 0 then 0 else 1), x.2.2.1, x.2.2.2.1, x.2.2.2.2.1, x.2.2.2.2.2.1, x.2.2.2.2.2.2.1, x.2.2.2.2.2.2.2.1, x.2.2.2.2.2.2.2.2.1, x.2.2.2.2.2.2.2.2.2.1, x.2.2.2.2.2.2.2.2.2.2.1, x.2.2.2.2.2.2.2.2.2.2.2.1, x.2.2.2.2.2.2.2.2.2.2.2.2.1, x.2.2.2.2.2.2.2.2.2.2.2.2.2.1, x.2.2.2.2.2.2.2.2.2.2.2.2.2.2.1, x.2.2.2.2.2.2.2.2.2.2.2.2.2.2.2) : gX) o z) := by
      intro y o z
      rw [show f + (r + 1) + 1 = (f + r + 1) + 1 by omega, mM_write_103]
      simp only [hi_188_10, Option.bind_some, b10, if_pos (n_ltl (n := i) (m := p) (by omega) (by omega) (by omega)), hi_188_26, h0, if_true, hr_188_4, hr_188_11, ha_197 (show i < 4 by omega), g3, ha_191 hk, O.ed, mM_write_138, hp_188_26, n_succ]
      by_cases c : (u.1 (gpk u i)).2.2.2.2.1 6 = 0
      · rw [if_pos c, if_pos c]
      · rw [if_neg c, if_neg c]
    by_cases c : (u.1 (gpk u i)).2.2.2.2.1 6 = 0
    · rw [if_pos c] at st
      obtain ⟨v, v1, v2, v3⟩ := ih (i + 1) f (gup b 26 0) (by omega) (fun j hj => (gup_ne hj).trans (hb j hj)) gup_eq
      refine ⟨v, v1, ⟨fun q t h1 h2 => ?_, fun q => v2.mpr fun t h1 h2 => q t (by omega) h2⟩, fun y o z => ?_⟩
      · by_cases e : t = i
        · subst e; exact c
        · exact v2.mp q t (by omega) h2
      · rw [st, v3, gup_gup]
    · rw [if_neg c] at st
      refine ⟨1, Or.inr rfl, ⟨fun q => absurd q (by decide), fun q => absurd (q i (by omega) (by omega)) c⟩, fun y o z => ?_⟩
      rw [st, mM_write_103, hi_188_10, Option.bind_some]
      by_cases c2 : Int32.ofNat (i + 1) < gup b 26 1 10
      · rw [if_pos c2, hi_188_26, Option.bind_some, if_neg (show ¬ gup b 26 1 26 = 0 by rw [gup_eq]; decide)]
      · rw [if_neg c2]
end H
end
section
/-! handing over, on both sides -/
section H
variable {n m p q e g : Nat} {u : gU} {x : gX}
theorem r_ho8 {rec : Option Nat → Int32 → gx_H → Option gx_H} {k i : Nat} (hk : k < 32) (hi : i < 4) : ∀ (r j f : Nat) (x : gX), j + r = 8 → x.2.2.1 i = Int32.ofNat k → ∃ h, (∀ y o z, mM_handOver_37 rec (f + r + 1) (some 188) (Int32.ofNat i) (Int32.ofNat j) (gH y x o z) = rec (some 188) (Int32.ofNat (i + 1)) (gH y ((gup x.1 k (gp_det (x.1 k)), x.2.1, x.2.2.1, x.2.2.2.1, h, x.2.2.2.2.2.1, x.2.2.2.2.2.2.1, x.2.2.2.2.2.2.2.1, x.2.2.2.2.2.2.2.2.1, x.2.2.2.2.2.2.2.2.2.1, x.2.2.2.2.2.2.2.2.2.2.1, x.2.2.2.2.2.2.2.2.2.2.2.1, x.2.2.2.2.2.2.2.2.2.2.2.2.1, x.2.2.2.2.2.2.2.2.2.2.2.2.2.1, x.2.2.2.2.2.2.2.2.2.2.2.2.2.2.1, x.2.2.2.2.2.2.2.2.2.2.2.2.2.2.2) : gX) o z)) ∧ (∀ t, t < 8 * i → h t = x.2.2.2.2.1 t) ∧ (∀ t, t < j → h (8 * i + t) = x.2.2.2.2.1 (8 * i + t)) ∧ ∀ t, j ≤ t → t < 8 → h (8 * i + t) = (x.1 k).2.2.2.1 t := by
  intro r
  induction r with
  | zero =>
    intro j f x h hx
    obtain rfl : j = 8 := by omega
    refine ⟨x.2.2.2.2.1, fun y o z => ?_, fun _ _ => rfl, fun _ _ => rfl, fun t h1 h2 => by omega⟩
    rw [mM_handOver_37, if_neg (show ¬ Int32.ofNat 8 < 8 by decide)]
    simp only [hr_188_11, Option.bind_some, ha_197 hi, hx, ho_188, r_detNow hk, n_succ]
  | succ r ih =>
    intro j f x h hx
    obtain ⟨h2, k1, k2, k3, k4⟩ := ih (j + 1) f ((x.1, x.2.1, x.2.2.1, x.2.2.2.1, gup x.2.2.2.2.1 (8 * i + j) ((x.1 k).2.2.2.1 j), x.2.2.2.2.2.1, x.2.2.2.2.2.2.1, x.2.2.2.2.2.2.2.1, x.2.2.2.2.2.2.2.2.1, x.2.2.2.2.2.2.2.2.2.1, x.2.2.2.2.2.2.2.2.2.2.1, x.2.2.2.2.2.2.2.2.2.2.2.1, x.2.2.2.2.2.2.2.2.2.2.2.2.1, x.2.2.2.2.2.2.2.2.2.2.2.2.2.1, x.2.2.2.2.2.2.2.2.2.2.2.2.2.2.1, x.2.2.2.2.2.2.2.2.2.2.2.2.2.2.2) : gX) (by omega) hx
    refine ⟨h2, fun y o z => ?_, fun t ht => (k2 t ht).trans (gup_ne (by omega)), fun t ht => (k3 t (by omega)).trans (gup_ne (by omega)), fun t t1 t2 => ?_⟩
    · rw [show f + (r + 1) + 1 = (f + r + 1) + 1 by omega, mM_handOver_37, if_pos (show Int32.ofNat j < 8 from n_ltl (m := 8) (by omega) (by omega) (by omega))]
      simp only [hr_188_14, hr_188_9, hr_188_11, Option.bind_some, ha_197 hi, hx, n_8, ha_196 hk (show j < 8 by omega), hb_199 (show 8 * i + j < 32 by omega), n_succ]
      exact k1 y o z
    · by_cases c : t = j
      · subst c
        exact (k3 t (by omega)).trans gup_eq
      · exact k4 t (by omega) t2
theorem r_hoStep {k i c t f : Nat} (hk : k < 32) (hi : i < t) (ht : t ≤ 4) (hx : x.2.1 10 = Int32.ofNat t) (e2 : x.2.2.1 i = Int32.ofNat k) (hc : (x.1 k).2.2.2.2.2.1 = Int32.ofNat c) : ∃ h, (∀ y o z, mM_handOver_10 (f + 1) (some 188) (Int32.ofNat i) (gH y x o z) = mM_handOver_10 f (some 188) (Int32.ofNat (i + 1)) (gH y ((gup x.1 k (gp_det (x.1 k)), x.2.1, x.2.2.1, gup x.2.2.2.1 i (Int32.ofNat c), h, x.2.2.2.2.2.1, x.2.2.2.2.2.2.1, x.2.2.2.2.2.2.2.1, x.2.2.2.2.2.2.2.2.1, x.2.2.2.2.2.2.2.2.2.1, x.2.2.2.2.2.2.2.2.2.2.1, x.2.2.2.2.2.2.2.2.2.2.2.1, x.2.2.2.2.2.2.2.2.2.2.2.2.1, x.2.2.2.2.2.2.2.2.2.2.2.2.2.1, x.2.2.2.2.2.2.2.2.2.2.2.2.2.2.1, x.2.2.2.2.2.2.2.2.2.2.2.2.2.2.2) : gX) o z)) ∧ (∀ t, t < 8 * i → h t = x.2.2.2.2.1 t) ∧ ∀ t, t < 8 → h (8 * i + t) = (x.1 k).2.2.2.1 t := by
  have i4 : i < 4 := by omega
  obtain ⟨G, hG⟩ : ∃ G, 1000000000000000 = G + 8 + 1 := ⟨999999999999991, rfl⟩
  obtain ⟨h9, a1, a2, a3, a4⟩ := r_ho8 (rec := mM_handOver_10 f) (i := i) hk i4 8 0 G ((x.1, x.2.1, x.2.2.1, gup x.2.2.2.1 i (Int32.ofNat c), x.2.2.2.2.1, x.2.2.2.2.2.1, x.2.2.2.2.2.2.1, x.2.2.2.2.2.2.2.1, x.2.2.2.2.2.2.2.2.1, x.2.2.2.2.2.2.2.2.2.1, x.2.2.2.2.2.2.2.2.2.2.1, x.2.2.2.2.2.2.2.2.2.2.2.1, x.2.2.2.2.2.2.2.2.2.2.2.2.1, x.2.2.2.2.2.2.2.2.2.2.2.2.2.1, x.2.2.2.2.2.2.2.2.2.2.2.2.2.2.1, x.2.2.2.2.2.2.2.2.2.2.2.2.2.2.2) : gX) (by omega) e2
  refine ⟨h9, fun y o z => ?_, a2, fun t ht => a4 t (by omega) ht⟩
  have a1' := a1 y o z
  rw [← hG] at a1'
  rw [mM_handOver_10]
  simp only [hi_188_10, Option.bind_some, hx, if_pos (n_ltl (n := i) (m := t) (by omega) (by omega) hi), hr_188_13, hr_188_3, hr_188_11, ha_197 i4, e2, ha_190 hk, hc, hb_198 i4]
  exact a1'
theorem k_hoStep {k i c t f : Nat} (hn : n ≤ 32) (hu : u.2.2.1 1 = Int32.ofNat n) (hk : k < n) (hi : i < t) (ht : t ≤ 4) (hx : u.2.2.2.2.2.1 1 = Int32.ofNat t) (e1 : u.2.2.2.2.2.2.1 i = Int32.ofNat k) (hc : (u.1 k).2.2.2.2.1 5 = Int32.ofNat c) : ∀ y o z, cH_handOver_2 (f + 1) (some 165) (some 1) (Int32.ofNat i) (gH u y o z) = cH_handOver_2 f (some 165) (some 1) (Int32.ofNat (i + 1)) (gH ((gup u.1 k (gq_det (u.1 k)), u.2.1, u.2.2.1, u.2.2.2.1, u.2.2.2.2.1, u.2.2.2.2.2.1, u.2.2.2.2.2.2.1, gup u.2.2.2.2.2.2.2.1 i (Int32.ofNat c), u.2.2.2.2.2.2.2.2.1, u.2.2.2.2.2.2.2.2.2.1, u.2.2.2.2.2.2.2.2.2.2.1, u.2.2.2.2.2.2.2.2.2.2.2.1, u.2.2.2.2.2.2.2.2.2.2.2.2.1, u.2.2.2.2.2.2.2.2.2.2.2.2.2.1, gup u.2.2.2.2.2.2.2.2.2.2.2.2.2.2 i ((u.1 k).2.2.2.2.2 10)) : gU) y o z) := by
  intro y o z
  have i4 : i < 4 := by omega
  have hk2 : k < 32 := by omega
  rw [cH_handOver_2]
  simp only [hi_165_1, Option.bind_some, hx, if_pos (n_ltl (n := i) (m := t) (by omega) (by omega) hi), hr_165_0, ha_166 i4, e1, ho_1, k_tin hu hn hk, reduceCtorEq, if_false, hr_165_2, hjT_10 hk2, hb_167 i4, hr_165_3, hiT_5 hk2, hc, hb_168 i4, hpT_6 hk2, cH_handOver_50, n_succ]
  rfl
/-- the loop that hands over: what is passed is free, and none twice -/
theorem w_handL {pk : Nat → Nat} (hn : n ≤ 32) (hp4 : p ≤ 4) (hpk : ∀ t, t < p → pk t < n) (dis : ∀ s t, s < t → t < p → ¬ pk s = pk t) : ∀ (r i f f2 : Nat) (u : gU) (x : gX), i + r = p → u.2.2.1 1 = Int32.ofNat n → u.2.2.2.2.2.1 1 = Int32.ofNat p → x.2.1 10 = Int32.ofNat p → (∀ t, t < p → u.2.2.2.2.2.2.1 t = Int32.ofNat (pk t) ∧ x.2.2.1 t = Int32.ofNat (pk t)) → (∀ k, k < n → ∃ s c, gO n s c (u.1 k) (x.1 k)) → (∀ t, i ≤ t → t < p → ∃ c, gO n 4 c (u.1 (pk t)) (x.1 (pk t)) ∧ (u.1 (pk t)).2.2.2.2.1 6 = 0) → ∃ C' R' h8 hw' x8 x9, (∀ y o z, cH_handOver_2 (f + r + 1) (some 165) (some 1) (Int32.ofNat i) (gH u y o z) = some (gH ((C', u.2.1, u.2.2.1, u.2.2.2.1, u.2.2.2.2.1, gup u.2.2.2.2.2.1 4 (Int32.ofNat p), u.2.2.2.2.2.2.1, h8, u.2.2.2.2.2.2.2.2.1, u.2.2.2.2.2.2.2.2.2.1, u.2.2.2.2.2.2.2.2.2.2.1, u.2.2.2.2.2.2.2.2.2.2.2.1, u.2.2.2.2.2.2.2.2.2.2.2.2.1, u.2.2.2.2.2.2.2.2.2.2.2.2.2.1, hw') : gU) y o z)) ∧ (∀ y o z, mM_handOver_10 (f2 + r + 1) (some 188) (Int32.ofNat i) (gH y x o z) = some (gH y ((R', x.2.1, x.2.2.1, x8, x9, x.2.2.2.2.2.1, x.2.2.2.2.2.2.1, x.2.2.2.2.2.2.2.1, x.2.2.2.2.2.2.2.2.1, x.2.2.2.2.2.2.2.2.2.1, x.2.2.2.2.2.2.2.2.2.2.1, x.2.2.2.2.2.2.2.2.2.2.2.1, x.2.2.2.2.2.2.2.2.2.2.2.2.1, x.2.2.2.2.2.2.2.2.2.2.2.2.2.1, x.2.2.2.2.2.2.2.2.2.2.2.2.2.2.1, x.2.2.2.2.2.2.2.2.2.2.2.2.2.2.2) : gX) o z)) ∧ (∀ k, k < n → ∃ s c, gO n s c (C' k) (R' k)) ∧ (∀ t, t < i → h8 t = u.2.2.2.2.2.2.2.1 t ∧ hw' t = u.2.2.2.2.2.2.2.2.2.2.2.2.2.2 t ∧ x8 t = x.2.2.2.1 t ∧ ∀ j, j < 8 → x9 (8 * t + j) = x.2.2.2.2.1 (8 * t + j)) ∧ ∀ t, i ≤ t → t < p → ∃ l, l ≤ 8 ∧ h8 t = Int32.ofNat l ∧ x8 t = Int32.ofNat l ∧ ∀ j, j < l → x9 (8 * t + j) = gt_w (hw' t) j := by
  intro r
  induction r with
  | zero =>
    intro i f f2 u x h hu hc hx hps ob fr
    refine ⟨u.1, x.1, u.2.2.2.2.2.2.2.1, u.2.2.2.2.2.2.2.2.2.2.2.2.2.2, x.2.2.2.1, x.2.2.2.2.1, fun y o z => ?_, fun y o z => ?_, ob, fun t ht => ⟨rfl, rfl, rfl, fun _ _ => rfl⟩, fun t h1 h2 => by omega⟩
    · rw [cH_handOver_2, hi_165_1, Option.bind_some, hc, if_neg (n_nltl (by omega) (by omega) (by omega)), Option.bind_some, hp_165_4]
      rfl
    · rw [mM_handOver_10, hi_188_10, Option.bind_some, hx, if_neg (n_nltl (by omega) (by omega) (by omega))]
  | succ r ih =>
    intro i f f2 u x h hu hc hx hps ob fr
    have hip : i < p := by omega
    have i4 : i < 4 := by omega
    obtain ⟨e1, e2⟩ := hps i hip
    have hkn := hpk i hip
    have hk : pk i < 32 := by omega
    obtain ⟨c, O, f6⟩ := fr i (Nat.le_refl _) hip
    have c8 : c ≤ 8 := O.c8
    obtain ⟨h9, a1, a2, a4⟩ := r_hoStep (x := x) (f := f2 + r + 1) hk hip hp4 hx e2 (O.ep f6)
    have ks := k_hoStep (u := u) (f := f + r + 1) hn hu hkn hip hp4 hc e1 O.ec
    obtain ⟨C', R', h8, hw', x8, x9, b1, b2, b3, b4, b5⟩ := ih (i + 1) f f2 ((gup u.1 (pk i) (gq_det (u.1 (pk i))), u.2.1, u.2.2.1, u.2.2.2.1, u.2.2.2.2.1, u.2.2.2.2.2.1, u.2.2.2.2.2.2.1, gup u.2.2.2.2.2.2.2.1 i (Int32.ofNat c), u.2.2.2.2.2.2.2.2.1, u.2.2.2.2.2.2.2.2.2.1, u.2.2.2.2.2.2.2.2.2.2.1, u.2.2.2.2.2.2.2.2.2.2.2.1, u.2.2.2.2.2.2.2.2.2.2.2.2.1, u.2.2.2.2.2.2.2.2.2.2.2.2.2.1, gup u.2.2.2.2.2.2.2.2.2.2.2.2.2.2 i ((u.1 (pk i)).2.2.2.2.2 10)) : gU) ((gup x.1 (pk i) (gp_det (x.1 (pk i))), x.2.1, x.2.2.1, gup x.2.2.2.1 i (Int32.ofNat c), h9, x.2.2.2.2.2.1, x.2.2.2.2.2.2.1, x.2.2.2.2.2.2.2.1, x.2.2.2.2.2.2.2.2.1, x.2.2.2.2.2.2.2.2.2.1, x.2.2.2.2.2.2.2.2.2.2.1, x.2.2.2.2.2.2.2.2.2.2.2.1, x.2.2.2.2.2.2.2.2.2.2.2.2.1, x.2.2.2.2.2.2.2.2.2.2.2.2.2.1, x.2.2.2.2.2.2.2.2.2.2.2.2.2.2.1, x.2.2.2.2.2.2.2.2.2.2.2.2.2.2.2) : gX) (by omega) hu hc hx hps (gob_up ob ⟨4, c, gO_det O⟩) (fun t h1 h2 => by
      have ne : ¬ pk t = pk i := fun q => dis i t (by omega) h2 q.symm
      obtain ⟨c2, O2, f2⟩ := fr t (by omega) h2
      refine ⟨c2, ?_, ?_⟩
      · show gO n 4 c2 (gup u.1 (pk i) _ (pk t)) (gup x.1 (pk i) _ (pk t))
        rw [gup_ne ne, gup_ne ne]; exact O2
      · show (gup u.1 (pk i) _ (pk t)).2.2.2.2.1 6 = 0
        rw [gup_ne ne]; exact f2)
    refine ⟨C', R', h8, hw', x8, x9, fun y o z => ?_, fun y o z => ?_, b3, fun t ht => ?_, fun t h1 h2 => ?_⟩
    · exact (ks y o z).trans (b1 y o z)
    · exact (a1 y o z).trans (b2 y o z)
    · obtain ⟨q1, q2, q3, q4⟩ := b4 t (by omega)
      refine ⟨q1.trans (gup_ne (by omega)), q2.trans (gup_ne (by omega)), q3.trans (gup_ne (by omega)), fun j hj => (q4 j hj).trans (a2 (8 * t + j) (by omega))⟩
    · by_cases e : t = i
      · subst e
        obtain ⟨q1, q2, q3, q4⟩ := b4 t (by omega)
        refine ⟨c, c8, q1.trans gup_eq, q3.trans gup_eq, fun j hj => ?_⟩
        rw [q4 j (by omega), q2]
        show h9 (8 * t + j) = gt_w (gup u.2.2.2.2.2.2.2.2.2.2.2.2.2.2 t ((u.1 (pk t)).2.2.2.2.2 10) t) j
        rw [gup_eq, a4 j (by omega)]
        exact O.bb rfl j hj
      · exact b5 t (by omega) h2
theorem r_copyW {t : Nat} (ht : t ≤ 300) : ∀ (r i f : Nat) (x : gX), i + r = t → x.2.1 27 = Int32.ofNat t → ∃ h, (∀ y o z, mM_write_168 (f + r + 1) (some 188) (Int32.ofNat i) (gH y x o z) = mM_write_194 (some 188) (gH y ((x.1, x.2.1, x.2.2.1, x.2.2.2.1, x.2.2.2.2.1, h, x.2.2.2.2.2.2.1, x.2.2.2.2.2.2.2.1, x.2.2.2.2.2.2.2.2.1, x.2.2.2.2.2.2.2.2.2.1, x.2.2.2.2.2.2.2.2.2.2.1, x.2.2.2.2.2.2.2.2.2.2.2.1, x.2.2.2.2.2.2.2.2.2.2.2.2.1, x.2.2.2.2.2.2.2.2.2.2.2.2.2.1, x.2.2.2.2.2.2.2.2.2.2.2.2.2.2.1, x.2.2.2.2.2.2.2.2.2.2.2.2.2.2.2) : gX) o z)) ∧ (∀ j, j < i → h j = x.2.2.2.2.2.1 j) ∧ ∀ j, i ≤ j → j < t → h j = x.2.2.2.2.2.2.2.2.2.2.2.2.2.1 j := by
  intro r
  induction r with
  | zero =>
    intro i f x h hx
    refine ⟨x.2.2.2.2.2.1, fun y o z => ?_, fun _ _ => rfl, fun j h1 h2 => by omega⟩
    rw [mM_write_168, hi_188_27, Option.bind_some, hx, if_neg (n_nltl (by omega) (by omega) (by omega))]
  | succ r ih =>
    intro i f x h hx
    obtain ⟨h2, k1, k2, k3⟩ := ih (i + 1) f ((x.1, x.2.1, x.2.2.1, x.2.2.2.1, x.2.2.2.2.1, gup x.2.2.2.2.2.1 i (x.2.2.2.2.2.2.2.2.2.2.2.2.2.1 i), x.2.2.2.2.2.2.1, x.2.2.2.2.2.2.2.1, x.2.2.2.2.2.2.2.2.1, x.2.2.2.2.2.2.2.2.2.1, x.2.2.2.2.2.2.2.2.2.2.1, x.2.2.2.2.2.2.2.2.2.2.2.1, x.2.2.2.2.2.2.2.2.2.2.2.2.1, x.2.2.2.2.2.2.2.2.2.2.2.2.2.1, x.2.2.2.2.2.2.2.2.2.2.2.2.2.2.1, x.2.2.2.2.2.2.2.2.2.2.2.2.2.2.2) : gX) (by omega) hx
    refine ⟨h2, fun y o z => ?_, fun j hj => (k2 j (by omega)).trans (gup_ne (by omega)), fun j j1 j2 => ?_⟩
    · rw [show f + (r + 1) + 1 = (f + r + 1) + 1 by omega, mM_write_168, hi_188_27, Option.bind_some, hx, if_pos (n_ltl (by omega) (by omega) (by omega))]
      simp only [hr_188_16, hr_188_28, Option.bind_some, ha_208 (show i < 300 by omega), hb_200 (show i < 300 by omega), n_succ]
      exact k1 y o z
    · by_cases e : j = i
      · subst e; exact (k2 j (by omega)).trans gup_eq
      · exact k3 j (by omega) j2
theorem hb_like {t : Nat} {o : Nat → Int64} {z : gx_H} (ht : t ≤ 300) : gv_cp (gH u x o z) (some 171) 0 (some 164) 0 (Int32.ofNat t) = some (gH ((u.1, u.2.1, u.2.2.1, u.2.2.2.1, fun i => if i < t then u.2.2.2.2.2.2.2.2.2.2.1 i else u.2.2.2.2.1 i, u.2.2.2.2.2.1, u.2.2.2.2.2.2.1, u.2.2.2.2.2.2.2.1, u.2.2.2.2.2.2.2.2.1, u.2.2.2.2.2.2.2.2.2.1, u.2.2.2.2.2.2.2.2.2.2.1, u.2.2.2.2.2.2.2.2.2.2.2.1, u.2.2.2.2.2.2.2.2.2.2.2.2.1, u.2.2.2.2.2.2.2.2.2.2.2.2.2.1, u.2.2.2.2.2.2.2.2.2.2.2.2.2.2) : gU) x o z) := by
  unfold gH
  rw [gm_cp (n0 := 300) (n1 := 300) (by omega) (by omega) rfl rfl ht ht (by omega), gf_bl]
  rfl
end H
end
section
/-! write -/
section H
variable {n m p q e g : Nat} {u : gU} {x : gX}
theorem w_start (W : gW n m p q 0 0 u x) (c0 : u.2.2.2.2.2.2.2.2.1 4 = 0) : ∃ u' x', (∀ y o z, cW_writeByte (some 169) 15 (gH u y o z) = some (gH u' y o z)) ∧ (∀ y o z, mM_say (some 188) 15 (gH y x o z) = some (gH y x' o z)) ∧ gW n m p q 1 0 u' x' ∧ u'.2.2.2.2.2.2.2.2.1 4 = 0 ∧ gBy u u' x x' := by
  have d10 : ¬ (1 : Int32) = 0 := by decide
  have de := W.dE c0
  have xe := W.xe c0
  have oc : x.2.1 26 = 0 := W.oc.trans c0
  have B : gBy u ((u.1, u.2.1, u.2.2.1, u.2.2.2.1, u.2.2.2.2.1, u.2.2.2.2.2.1, u.2.2.2.2.2.2.1, u.2.2.2.2.2.2.2.1, u.2.2.2.2.2.2.2.2.1, gup u.2.2.2.2.2.2.2.2.2.1 1 (Int32.ofNat (0 + 1)), gup u.2.2.2.2.2.2.2.2.2.2.1 0 15, u.2.2.2.2.2.2.2.2.2.2.2.1, u.2.2.2.2.2.2.2.2.2.2.2.2.1, u.2.2.2.2.2.2.2.2.2.2.2.2.2.1, u.2.2.2.2.2.2.2.2.2.2.2.2.2.2) : gU) x ((x.1, gup x.2.1 27 (Int32.ofNat (0 + 1)), x.2.2.1, x.2.2.2.1, x.2.2.2.2.1, x.2.2.2.2.2.1, x.2.2.2.2.2.2.1, x.2.2.2.2.2.2.2.1, x.2.2.2.2.2.2.2.2.1, x.2.2.2.2.2.2.2.2.2.1, x.2.2.2.2.2.2.2.2.2.2.1, x.2.2.2.2.2.2.2.2.2.2.2.1, x.2.2.2.2.2.2.2.2.2.2.2.2.1, gup x.2.2.2.2.2.2.2.2.2.2.2.2.2.1 0 15, x.2.2.2.2.2.2.2.2.2.2.2.2.2.2.1, x.2.2.2.2.2.2.2.2.2.2.2.2.2.2.2) : gX) :=
    ⟨rfl, rfl, rfl, rfl, rfl, rfl, rfl, rfl, rfl, rfl, rfl, rfl, rfl, fun i _ h => gup_ne h, rfl, rfl, rfl, rfl, rfl, rfl, rfl, rfl, rfl, fun h => absurd c0 h⟩
  refine ⟨((u.1, u.2.1, u.2.2.1, u.2.2.2.1, u.2.2.2.2.1, u.2.2.2.2.2.1, u.2.2.2.2.2.2.1, u.2.2.2.2.2.2.2.1, u.2.2.2.2.2.2.2.2.1, gup u.2.2.2.2.2.2.2.2.2.1 1 (Int32.ofNat (0 + 1)), gup u.2.2.2.2.2.2.2.2.2.2.1 0 15, u.2.2.2.2.2.2.2.2.2.2.2.1, u.2.2.2.2.2.2.2.2.2.2.2.2.1, u.2.2.2.2.2.2.2.2.2.2.2.2.2.1, u.2.2.2.2.2.2.2.2.2.2.2.2.2.2) : gU), ((x.1, gup x.2.1 27 (Int32.ofNat (0 + 1)), x.2.2.1, x.2.2.2.1, x.2.2.2.2.1, x.2.2.2.2.2.1, x.2.2.2.2.2.2.1, x.2.2.2.2.2.2.2.1, x.2.2.2.2.2.2.2.2.1, x.2.2.2.2.2.2.2.2.2.1, x.2.2.2.2.2.2.2.2.2.2.1, x.2.2.2.2.2.2.2.2.2.2.2.1, x.2.2.2.2.2.2.2.2.2.2.2.2.1, gup x.2.2.2.2.2.2.2.2.2.2.2.2.2.1 0 15, x.2.2.2.2.2.2.2.2.2.2.2.2.2.2.1, x.2.2.2.2.2.2.2.2.2.2.2.2.2.2.2) : gX), fun y o z => ?_, fun y o z => ?_, ?_, c0, B⟩
  · simp only [cW_writeByte, hi_169_4, Option.bind_some, c0, if_true, hr_169_0, ho_170, cB_append, hi_170_1, de, if_pos (show Int32.ofNat 0 < 300 by decide), hr_170_0, hb_171 (show 0 < 300 by omega), hp_170_1, n_succ, if_neg d10]
  · simp only [mM_say, mM_say_22, hi_188_26, Option.bind_some, oc, if_true, hi_188_27, xe, if_neg (show ¬ Int32.ofNat 0 = 300 by decide), hr_188_28, hb_208 (show 0 < 300 by omega), hp_188_27, n_succ]
  · refine ⟨gT_by W.T B, W.oc, W.o2, fun _ => by omega, fun _ => by omega, fun _ => rfl, fun _ => rfl, fun _ i hi => ?_, W.ug, W.xg, W.pl⟩
    obtain rfl : i = 0 := by omega
    exact ⟨rfl, 15, by omega, rfl⟩
/-- write is refused, or a getter throws: nothing but what is passed changes -/
theorem w_refuse {k v c : Int32} {u0 u' : gU} {x0 x' : gX} {o : Nat → Int64} {z : gx_H} (T : gTi n m p q u' x') (hc : c = 1 ∨ c = 2) (hx : x'.2.1 26 = c) (h1 : ∀ y o z, cW_run (some 169) (some 1) (some 165) k v (gH u0 y o z) = some (c, gH u' y o z)) (h2 : ∀ y o z, mM_write (some 188) k v (gH y x0 o z) = mM_write_194 (some 188) (gH y x' o z)) : gAns u0 x0 o z (lw_write (some 0) k v (some 211)) (mM_write (some 188) k v) := by
  have nc : ¬ c = 0 := by rcases hc with h | h <;> rw [h] <;> decide
  have ref : ∀ y o z, mM_write (some 188) k v (gH y x0 o z) = some (0, gH y ((x'.1, gup (gup x'.2.1 10 0) 0 c, x'.2.2.1, x'.2.2.2.1, x'.2.2.2.2.1, x'.2.2.2.2.2.1, x'.2.2.2.2.2.2.1, x'.2.2.2.2.2.2.2.1, x'.2.2.2.2.2.2.2.2.1, x'.2.2.2.2.2.2.2.2.2.1, x'.2.2.2.2.2.2.2.2.2.2.1, x'.2.2.2.2.2.2.2.2.2.2.2.1, x'.2.2.2.2.2.2.2.2.2.2.2.2.1, x'.2.2.2.2.2.2.2.2.2.2.2.2.2.1, x'.2.2.2.2.2.2.2.2.2.2.2.2.2.2.1, x'.2.2.2.2.2.2.2.2.2.2.2.2.2.2.2) : gX) o z) := by
    intro y o z
    have e1 : gup x'.2.1 10 0 26 = c := hx
    have e2 : gup (gup x'.2.1 10 0) 0 c 26 = c := hx
    rw [h2]
    simp only [mM_write_194, hp_188_10, Option.bind_some, hi_188_26, e1, hp_188_0, e2, if_neg nc]
  have tt : gTT ((u'.1, u'.2.1, u'.2.2.1, u'.2.2.2.1, u'.2.2.2.2.1, gup u'.2.2.2.2.2.1 1 0, u'.2.2.2.2.2.2.1, u'.2.2.2.2.2.2.2.1, u'.2.2.2.2.2.2.2.2.1, u'.2.2.2.2.2.2.2.2.2.1, u'.2.2.2.2.2.2.2.2.2.2.1, u'.2.2.2.2.2.2.2.2.2.2.2.1, u'.2.2.2.2.2.2.2.2.2.2.2.2.1, u'.2.2.2.2.2.2.2.2.2.2.2.2.2.1, u'.2.2.2.2.2.2.2.2.2.2.2.2.2.2) : gU) ((x'.1, gup (gup x'.2.1 10 0) 0 c, x'.2.2.1, x'.2.2.2.1, x'.2.2.2.2.1, x'.2.2.2.2.2.1, x'.2.2.2.2.2.2.1, x'.2.2.2.2.2.2.2.1, x'.2.2.2.2.2.2.2.2.1, x'.2.2.2.2.2.2.2.2.2.1, x'.2.2.2.2.2.2.2.2.2.2.1, x'.2.2.2.2.2.2.2.2.2.2.2.1, x'.2.2.2.2.2.2.2.2.2.2.2.2.1, x'.2.2.2.2.2.2.2.2.2.2.2.2.2.1, x'.2.2.2.2.2.2.2.2.2.2.2.2.2.2.1, x'.2.2.2.2.2.2.2.2.2.2.2.2.2.2.2) : gX) := ⟨n, m, 0, q, T.hn, T.un, T.xn, T.ob, T.hm, T.um, T.xm, T.bs, T.b8, by omega, rfl, rfl, fun i hi => by omega, fun i hi => by omega, T.hq, T.uq, T.xq, T.ho, T.fo⟩
  rcases hc with rfl | rfl
  · refine ⟨1, ((u'.1, u'.2.1, u'.2.2.1, u'.2.2.2.1, u'.2.2.2.2.1, gup u'.2.2.2.2.2.1 1 0, u'.2.2.2.2.2.2.1, u'.2.2.2.2.2.2.2.1, u'.2.2.2.2.2.2.2.2.1, u'.2.2.2.2.2.2.2.2.2.1, u'.2.2.2.2.2.2.2.2.2.2.1, u'.2.2.2.2.2.2.2.2.2.2.2.1, u'.2.2.2.2.2.2.2.2.2.2.2.2.1, u'.2.2.2.2.2.2.2.2.2.2.2.2.2.1, u'.2.2.2.2.2.2.2.2.2.2.2.2.2.2) : gU), o, z ++ [(8, [])], 0, _, ?_, ref _ _ _, rfl, fun q => absurd q (by decide), tt, by simp⟩
    simp only [lw_write, ho_0, Option.bind_some, cG_write, hr_0_3, hr_0_0, hr_0_2, ho_169, h1, if_neg nc, cG_write_47, hp_165_1, if_true, hl, hthr, hexc] <;> rfl
  · refine ⟨2, ((u'.1, u'.2.1, u'.2.2.1, u'.2.2.2.1, u'.2.2.2.2.1, gup u'.2.2.2.2.2.1 1 0, u'.2.2.2.2.2.2.1, u'.2.2.2.2.2.2.2.1, u'.2.2.2.2.2.2.2.2.1, u'.2.2.2.2.2.2.2.2.2.1, u'.2.2.2.2.2.2.2.2.2.2.1, u'.2.2.2.2.2.2.2.2.2.2.2.1, u'.2.2.2.2.2.2.2.2.2.2.2.2.1, u'.2.2.2.2.2.2.2.2.2.2.2.2.2.1, u'.2.2.2.2.2.2.2.2.2.2.2.2.2.2) : gU), o, z ++ [(11, [])], 0, _, ?_, ref _ _ _, rfl, fun q => absurd q (by decide), tt, by simp⟩
    simp only [lw_write, ho_0, Option.bind_some, cG_write, hr_0_3, hr_0_0, hr_0_2, ho_169, h1, if_neg nc, cG_write_47, hp_165_1, show ¬ (2 : Int32) = 1 by decide, if_false, if_true, hl, hthr, hexc] <;> rfl
theorem w_103bad {x : gX} (h : ¬ x.2.1 26 = 0) : ∀ y o z, mM_write_101 (some 188) (gH y x o z) = mM_write_194 (some 188) (gH y x o z) := by
  intro y o z
  obtain ⟨G, hG⟩ : ∃ G, 1000000000000000 = G + 1 := ⟨999999999999999, rfl⟩
  unfold mM_write_101
  rw [hG, mM_write_103, hi_188_10, Option.bind_some]
  have t : mM_write_147 (some 188) (gH y x o z) = mM_write_194 (some 188) (gH y x o z) := by
    unfold mM_write_147
    rw [hi_188_26, Option.bind_some, if_neg h]
  split
  · rw [hi_188_26, Option.bind_some, if_neg h, t]
  · exact t
theorem w_hand (T : gTi n m p q u x) (dis : ∀ s t, s < t → t < p → ¬ gpk u s = gpk u t) (fr : ∀ t, t < p → (u.1 (gpk u t)).2.2.2.2.1 4 = 4 ∧ (u.1 (gpk u t)).2.2.2.2.1 6 = 0) : ∃ C' R' h8 hw' x8 x9, (∀ y o z, cH_handOver (some 165) (some 1) (gH u y o z) = some (gH ((C', u.2.1, u.2.2.1, u.2.2.2.1, u.2.2.2.2.1, gup u.2.2.2.2.2.1 4 (Int32.ofNat p), u.2.2.2.2.2.2.1, h8, u.2.2.2.2.2.2.2.2.1, u.2.2.2.2.2.2.2.2.2.1, u.2.2.2.2.2.2.2.2.2.2.1, u.2.2.2.2.2.2.2.2.2.2.2.1, u.2.2.2.2.2.2.2.2.2.2.2.2.1, u.2.2.2.2.2.2.2.2.2.2.2.2.2.1, hw') : gU) y o z)) ∧ (∀ y o z, mM_handOver_10 1000000000000000 (some 188) 0 (gH y ((x.1, gup x.2.1 12 (Int32.ofNat p), x.2.2.1, x.2.2.2.1, x.2.2.2.2.1, x.2.2.2.2.2.1, x.2.2.2.2.2.2.1, x.2.2.2.2.2.2.2.1, x.2.2.2.2.2.2.2.2.1, x.2.2.2.2.2.2.2.2.2.1, x.2.2.2.2.2.2.2.2.2.2.1, x.2.2.2.2.2.2.2.2.2.2.2.1, x.2.2.2.2.2.2.2.2.2.2.2.2.1, x.2.2.2.2.2.2.2.2.2.2.2.2.2.1, x.2.2.2.2.2.2.2.2.2.2.2.2.2.2.1, x.2.2.2.2.2.2.2.2.2.2.2.2.2.2.2) : gX) o z) = some (gH y ((R', gup x.2.1 12 (Int32.ofNat p), x.2.2.1, x8, x9, x.2.2.2.2.2.1, x.2.2.2.2.2.2.1, x.2.2.2.2.2.2.2.1, x.2.2.2.2.2.2.2.2.1, x.2.2.2.2.2.2.2.2.2.1, x.2.2.2.2.2.2.2.2.2.2.1, x.2.2.2.2.2.2.2.2.2.2.2.1, x.2.2.2.2.2.2.2.2.2.2.2.2.1, x.2.2.2.2.2.2.2.2.2.2.2.2.2.1, x.2.2.2.2.2.2.2.2.2.2.2.2.2.2.1, x.2.2.2.2.2.2.2.2.2.2.2.2.2.2.2) : gX) o z)) ∧ (∀ k, k < n → ∃ s c, gO n s c (C' k) (R' k)) ∧ ∀ t, t < p → ∃ l, l ≤ 8 ∧ h8 t = Int32.ofNat l ∧ x8 t = Int32.ofNat l ∧ ∀ j, j < l → x9 (8 * t + j) = gt_w (hw' t) j := by
  have hp4 := T.hp
  obtain ⟨G, hG⟩ : ∃ G, 1000000000000000 = G + p + 1 := ⟨1000000000000000 - p - 1, by omega⟩
  obtain ⟨C', R', h8, hw', x8, x9, b1, b2, b3, b4, b5⟩ := w_handL (pk := gpk u) T.hn hp4 (fun t ht => (gpk_at T ht).1) dis p 0 G G u ((x.1, gup x.2.1 12 (Int32.ofNat p), x.2.2.1, x.2.2.2.1, x.2.2.2.2.1, x.2.2.2.2.2.1, x.2.2.2.2.2.2.1, x.2.2.2.2.2.2.2.1, x.2.2.2.2.2.2.2.2.1, x.2.2.2.2.2.2.2.2.2.1, x.2.2.2.2.2.2.2.2.2.2.1, x.2.2.2.2.2.2.2.2.2.2.2.1, x.2.2.2.2.2.2.2.2.2.2.2.2.1, x.2.2.2.2.2.2.2.2.2.2.2.2.2.1, x.2.2.2.2.2.2.2.2.2.2.2.2.2.2.1, x.2.2.2.2.2.2.2.2.2.2.2.2.2.2.2) : gX) (by omega) T.un T.up T.xp (fun t ht => (gpk_at T ht).2) T.ob (fun t _ ht => by
    obtain ⟨s, c, O⟩ := T.ob _ (gpk_at T ht).1
    obtain ⟨f1, f2⟩ := fr t ht
    have s4 : s = 4 := (n_eq (m := 4) (by have := O.s8; omega) (by omega)).mp (O.es.symm.trans f1)
    subst s4
    exact ⟨c, O, f2⟩)
  refine ⟨C', R', h8, hw', x8, x9, fun y o z => ?_, fun y o z => ?_, b3, fun t ht => b5 t (by omega) ht⟩
  · unfold cH_handOver
    rw [hG, show (0 : Int32) = Int32.ofNat 0 from rfl]
    exact b1 y o z
  · rw [hG, show (0 : Int32) = Int32.ofNat 0 from rfl]
    exact b2 y o z
theorem w_copy {t : Nat} (ht : t ≤ 300) (hx : x.2.1 27 = Int32.ofNat t) : ∃ h, (∀ y o z, mM_write_168 1000000000000000 (some 188) 0 (gH y x o z) = mM_write_194 (some 188) (gH y ((x.1, x.2.1, x.2.2.1, x.2.2.2.1, x.2.2.2.2.1, h, x.2.2.2.2.2.2.1, x.2.2.2.2.2.2.2.1, x.2.2.2.2.2.2.2.2.1, x.2.2.2.2.2.2.2.2.2.1, x.2.2.2.2.2.2.2.2.2.2.1, x.2.2.2.2.2.2.2.2.2.2.2.1, x.2.2.2.2.2.2.2.2.2.2.2.2.1, x.2.2.2.2.2.2.2.2.2.2.2.2.2.1, x.2.2.2.2.2.2.2.2.2.2.2.2.2.2.1, x.2.2.2.2.2.2.2.2.2.2.2.2.2.2.2) : gX) o z)) ∧ ∀ j, j < t → h j = x.2.2.2.2.2.2.2.2.2.2.2.2.2.1 j := by
  obtain ⟨G, hG⟩ : ∃ G, 1000000000000000 = G + t + 1 := ⟨1000000000000000 - t - 1, by omega⟩
  obtain ⟨h, k1, k2, k3⟩ := r_copyW ht t 0 G x (by omega) hx
  refine ⟨h, fun y o z => ?_, fun j hj => k3 j (by omega) hj⟩
  rw [hG, show (0 : Int32) = Int32.ofNat 0 from rfl]
  exact k1 y o z
theorem w_147 {R' : Nat → gP} {x8 x9 : Nat → Int32} {t : Nat} {y : gU} {o : Nat → Int64} {z : gx_H} (h27 : x.2.1 27 = Int32.ofNat e) (oc : x.2.1 26 = 0) (h10 : x.2.1 10 = Int32.ofNat t) {H : gx_H → Option gx_H} (hH : ∀ h, mM_handOver_10 1000000000000000 (some 188) 0 h = H h) {W8 : gx_H → Option (Int32 × gx_H)} (hW : ∀ h, mM_write_168 1000000000000000 (some 188) 0 h = W8 h) (b2 : H (gH y ((x.1, gup x.2.1 12 (Int32.ofNat t), x.2.2.1, x.2.2.2.1, x.2.2.2.2.1, x.2.2.2.2.2.1, x.2.2.2.2.2.2.1, x.2.2.2.2.2.2.2.1, x.2.2.2.2.2.2.2.2.1, x.2.2.2.2.2.2.2.2.2.1, x.2.2.2.2.2.2.2.2.2.2.1, x.2.2.2.2.2.2.2.2.2.2.2.1, x.2.2.2.2.2.2.2.2.2.2.2.2.1, x.2.2.2.2.2.2.2.2.2.2.2.2.2.1, x.2.2.2.2.2.2.2.2.2.2.2.2.2.2.1, x.2.2.2.2.2.2.2.2.2.2.2.2.2.2.2) : gX) o z) = some (gH y ((R', gup x.2.1 12 (Int32.ofNat t), x.2.2.1, x8, x9, x.2.2.2.2.2.1, x.2.2.2.2.2.2.1, x.2.2.2.2.2.2.2.1, x.2.2.2.2.2.2.2.2.1, x.2.2.2.2.2.2.2.2.2.1, x.2.2.2.2.2.2.2.2.2.2.1, x.2.2.2.2.2.2.2.2.2.2.2.1, x.2.2.2.2.2.2.2.2.2.2.2.2.1, x.2.2.2.2.2.2.2.2.2.2.2.2.2.1, x.2.2.2.2.2.2.2.2.2.2.2.2.2.2.1, x.2.2.2.2.2.2.2.2.2.2.2.2.2.2.2) : gX) o z)) : mM_write_147 (some 188) (gH y x o z) = W8 (gH y ((R', gup (gup x.2.1 12 (Int32.ofNat t)) 15 (Int32.ofNat e), x.2.2.1, x8, x9, x.2.2.2.2.2.1, x.2.2.2.2.2.2.1, x.2.2.2.2.2.2.2.1, x.2.2.2.2.2.2.2.2.1, x.2.2.2.2.2.2.2.2.2.1, x.2.2.2.2.2.2.2.2.2.2.1, x.2.2.2.2.2.2.2.2.2.2.2.1, x.2.2.2.2.2.2.2.2.2.2.2.2.1, x.2.2.2.2.2.2.2.2.2.2.2.2.2.1, x.2.2.2.2.2.2.2.2.2.2.2.2.2.2.1, x.2.2.2.2.2.2.2.2.2.2.2.2.2.2.2) : gX) o z) := by
  have e27 : gup x.2.1 12 (Int32.ofNat t) 27 = Int32.ofNat e := h27
  simp only [mM_write_147, hi_188_26, Option.bind_some, oc, if_true, ho_188, mM_handOver, hi_188_10, h10, hp_188_12, hH, b2, hi_188_27, e27, hp_188_15, hW]
theorem w_194 {t : Nat} {y : gU} {o : Nat → Int64} {z : gx_H} {w : gX} {f : Nat → Int32} (oc : f 26 = 0) (hw : w.2.1 = gup (gup f 12 (Int32.ofNat t)) 15 (Int32.ofNat e)) : mM_write_194 (some 188) (gH y w o z) = some (Int32.ofNat e, gH y ((w.1, gup (gup (gup (gup f 12 (Int32.ofNat t)) 15 (Int32.ofNat e)) 10 0) 0 0, w.2.2.1, w.2.2.2.1, w.2.2.2.2.1, w.2.2.2.2.2.1, w.2.2.2.2.2.2.1, w.2.2.2.2.2.2.2.1, w.2.2.2.2.2.2.2.2.1, w.2.2.2.2.2.2.2.2.2.1, w.2.2.2.2.2.2.2.2.2.2.1, w.2.2.2.2.2.2.2.2.2.2.2.1, w.2.2.2.2.2.2.2.2.2.2.2.2.1, w.2.2.2.2.2.2.2.2.2.2.2.2.2.1, w.2.2.2.2.2.2.2.2.2.2.2.2.2.2.1, w.2.2.2.2.2.2.2.2.2.2.2.2.2.2.2) : gX) o z) := by
  have e26 : gup (gup (gup f 12 (Int32.ofNat t)) 15 (Int32.ofNat e)) 10 0 26 = 0 := oc
  have e26' : gup (gup (gup (gup f 12 (Int32.ofNat t)) 15 (Int32.ofNat e)) 10 0) 0 0 26 = 0 := oc
  have e15 : gup (gup (gup (gup f 12 (Int32.ofNat t)) 15 (Int32.ofNat e)) 10 0) 0 0 15 = Int32.ofNat e := rfl
  simp only [mM_write_194, hp_188_10, Option.bind_some, hi_188_26, hw, e26, hp_188_0, e26', if_true, hi_188_15, e15]
theorem w_doneR {R' : Nat → gP} {x8 x9 : Nat → Int32} {t : Nat} (he : e ≤ 300) (h27 : x.2.1 27 = Int32.ofNat e) (oc : x.2.1 26 = 0) (h10 : x.2.1 10 = Int32.ofNat t) (b2 : ∀ y o z, mM_handOver_10 1000000000000000 (some 188) 0 (gH y ((x.1, gup x.2.1 12 (Int32.ofNat t), x.2.2.1, x.2.2.2.1, x.2.2.2.2.1, x.2.2.2.2.2.1, x.2.2.2.2.2.2.1, x.2.2.2.2.2.2.2.1, x.2.2.2.2.2.2.2.2.1, x.2.2.2.2.2.2.2.2.2.1, x.2.2.2.2.2.2.2.2.2.2.1, x.2.2.2.2.2.2.2.2.2.2.2.1, x.2.2.2.2.2.2.2.2.2.2.2.2.1, x.2.2.2.2.2.2.2.2.2.2.2.2.2.1, x.2.2.2.2.2.2.2.2.2.2.2.2.2.2.1, x.2.2.2.2.2.2.2.2.2.2.2.2.2.2.2) : gX) o z) = some (gH y ((R', gup x.2.1 12 (Int32.ofNat t), x.2.2.1, x8, x9, x.2.2.2.2.2.1, x.2.2.2.2.2.2.1, x.2.2.2.2.2.2.2.1, x.2.2.2.2.2.2.2.2.1, x.2.2.2.2.2.2.2.2.2.1, x.2.2.2.2.2.2.2.2.2.2.1, x.2.2.2.2.2.2.2.2.2.2.2.1, x.2.2.2.2.2.2.2.2.2.2.2.2.1, x.2.2.2.2.2.2.2.2.2.2.2.2.2.1, x.2.2.2.2.2.2.2.2.2.2.2.2.2.2.1, x.2.2.2.2.2.2.2.2.2.2.2.2.2.2.2) : gX) o z)) : ∃ hb, (∀ y o z, mM_write_147 (some 188) (gH y x o z) = some (Int32.ofNat e, gH y ((R', gup (gup (gup (gup x.2.1 12 (Int32.ofNat t)) 15 (Int32.ofNat e)) 10 0) 0 0, x.2.2.1, x8, x9, hb, x.2.2.2.2.2.2.1, x.2.2.2.2.2.2.2.1, x.2.2.2.2.2.2.2.2.1, x.2.2.2.2.2.2.2.2.2.1, x.2.2.2.2.2.2.2.2.2.2.1, x.2.2.2.2.2.2.2.2.2.2.2.1, x.2.2.2.2.2.2.2.2.2.2.2.2.1, x.2.2.2.2.2.2.2.2.2.2.2.2.2.1, x.2.2.2.2.2.2.2.2.2.2.2.2.2.2.1, x.2.2.2.2.2.2.2.2.2.2.2.2.2.2.2) : gX) o z)) ∧ ∀ j, j < e → hb j = x.2.2.2.2.2.2.2.2.2.2.2.2.2.1 j := by
  obtain ⟨hb, c1, c3⟩ := w_copy (x := ((R', gup (gup x.2.1 12 (Int32.ofNat t)) 15 (Int32.ofNat e), x.2.2.1, x8, x9, x.2.2.2.2.2.1, x.2.2.2.2.2.2.1, x.2.2.2.2.2.2.2.1, x.2.2.2.2.2.2.2.2.1, x.2.2.2.2.2.2.2.2.2.1, x.2.2.2.2.2.2.2.2.2.2.1, x.2.2.2.2.2.2.2.2.2.2.2.1, x.2.2.2.2.2.2.2.2.2.2.2.2.1, x.2.2.2.2.2.2.2.2.2.2.2.2.2.1, x.2.2.2.2.2.2.2.2.2.2.2.2.2.2.1, x.2.2.2.2.2.2.2.2.2.2.2.2.2.2.2) : gX)) he h27
  exact ⟨hb, fun y o z => (w_147 h27 oc h10 (fun _ => rfl) (fun _ => rfl) (b2 y o z)).trans ((c1 y o z).trans (w_194 oc rfl)), c3⟩
theorem w_doneC {k v : Int32} {u0 : gU} {C' : Nat → gQ} {h8 : Nat → Int32} {hw' : Nat → Int64} {o : Nat → Int64} {z : gx_H} {y : gX} {t : Nat} (he : e ≤ 300) (de : u.2.2.2.2.2.2.2.2.2.1 1 = Int32.ofNat e) (b1 : ∀ y o z, cH_handOver (some 165) (some 1) (gH u y o z) = some (gH ((C', u.2.1, u.2.2.1, u.2.2.2.1, u.2.2.2.2.1, gup u.2.2.2.2.2.1 4 (Int32.ofNat t), u.2.2.2.2.2.2.1, h8, u.2.2.2.2.2.2.2.2.1, u.2.2.2.2.2.2.2.2.2.1, u.2.2.2.2.2.2.2.2.2.2.1, u.2.2.2.2.2.2.2.2.2.2.2.1, u.2.2.2.2.2.2.2.2.2.2.2.2.1, u.2.2.2.2.2.2.2.2.2.2.2.2.2.1, hw') : gU) y o z)) (h1 : ∀ y o z, cW_run (some 169) (some 1) (some 165) k v (gH u0 y o z) = some (0, gH u y o z)) : lw_write (some 0) k v (some 211) (gH u0 y o z) = some (0, gH ((C', u.2.1, u.2.2.1, gup u.2.2.2.1 1 (Int32.ofNat e), fun i => if i < e then u.2.2.2.2.2.2.2.2.2.2.1 i else u.2.2.2.2.1 i, gup (gup u.2.2.2.2.2.1 4 (Int32.ofNat t)) 1 0, u.2.2.2.2.2.2.1, h8, u.2.2.2.2.2.2.2.2.1, u.2.2.2.2.2.2.2.2.2.1, u.2.2.2.2.2.2.2.2.2.2.1, u.2.2.2.2.2.2.2.2.2.2.2.1, u.2.2.2.2.2.2.2.2.2.2.2.2.1, u.2.2.2.2.2.2.2.2.2.2.2.2.2.1, hw') : gU) y (gup o 0 (Int32.toInt64 (Int32.ofNat e))) z) := by
  simp only [lw_write, ho_0, Option.bind_some, cG_write, hr_0_3, hr_0_0, hr_0_2, ho_169, h1, if_true, ho_165, b1, hr_0_1, hr_169_0, ho_163, cB_becomeLike, hr_170_0, hr_163_0, hi_170_1, de, hb_like he, hp_163_1, cG_write_47, hp_165_1, show ¬ (0 : Int32) = 1 by decide, show ¬ (0 : Int32) = 2 by decide, if_false, hi_163_1, gup_eq, hb0]
/-- write is done -/
theorem w_done {k v : Int32} {u0 : gU} {x0 : gX} {o : Nat → Int64} {z : gx_H} (W : gW n m p q e g u x) (h0 : u.2.2.2.2.2.2.2.2.1 4 = 0) (dis : ∀ s t, s < t → t < p → ¬ gpk u s = gpk u t) (fr : ∀ t, t < p → (u.1 (gpk u t)).2.2.2.2.1 4 = 4 ∧ (u.1 (gpk u t)).2.2.2.2.1 6 = 0) (h1 : ∀ y o z, cW_run (some 169) (some 1) (some 165) k v (gH u0 y o z) = some (0, gH u y o z)) (h2 : ∀ y o z, mM_write (some 188) k v (gH y x0 o z) = mM_write_147 (some 188) (gH y x o z)) : gAns u0 x0 o z (lw_write (some 0) k v (some 211)) (mM_write (some 188) k v) := by
  have T := W.T
  have hp4 := T.hp
  have he := W.he h0
  obtain ⟨C', R', h8, hw', x8, x9, b1, b2, b3, b5⟩ := w_hand T dis fr
  obtain ⟨hb, c1, c3⟩ := w_doneR he (W.xe h0) (W.oc.trans h0) T.xp b2
  refine ⟨0, _, _, z, Int32.ofNat e, _, w_doneC he (W.dE h0) b1 h1, (h2 _ _ _).trans (c1 _ _ _), rfl, fun _ => rfl, ⟨n, e, 0, p, ?_⟩, by omega⟩
  refine ⟨T.hn, T.un, T.xn, b3, he, rfl, rfl, fun i hi => ?_, fun i hi => ?_, by omega, rfl, rfl, fun i hi => by omega, fun i hi => by omega, hp4, rfl, rfl, b5, T.fo⟩
  · show hb i = if i < e then u.2.2.2.2.2.2.2.2.2.2.1 i else u.2.2.2.2.1 i
    rw [if_pos hi, c3 i hi]
    exact (W.dr h0 i hi).1
  · show ∃ b, b < 256 ∧ (if i < e then u.2.2.2.2.2.2.2.2.2.2.1 i else u.2.2.2.2.1 i) = Int32.ofNat b
    rw [if_pos hi]
    exact (W.dr h0 i hi).2
theorem gBd_lt : gBd 12 + 1 < 1000000000000000 := by decide
theorem t_write {k v : Int32} {o : Nat → Int64} {z : gx_H} (h : gTT u x) : gAns u x o z (lw_write (some 0) k v (some 211)) (mM_write (some 188) k v) := by
  obtain ⟨n, m, p, q, T⟩ := h
  have d10 : ¬ (1 : Int32) = 0 := by decide
  obtain ⟨r, r1, r2, r3, r4⟩ := v_eq (u := ((u.1, u.2.1, u.2.2.1, u.2.2.2.1, u.2.2.2.2.1, u.2.2.2.2.2.1, u.2.2.2.2.2.2.1, u.2.2.2.2.2.2.2.1, gup u.2.2.2.2.2.2.2.2.1 2 0, gup u.2.2.2.2.2.2.2.2.2.1 1 0, u.2.2.2.2.2.2.2.2.2.2.1, gfl u.2.2.2.2.2.2.2.2.2.2.2.1 0, u.2.2.2.2.2.2.2.2.2.2.2.2.1, u.2.2.2.2.2.2.2.2.2.2.2.2.2.1, u.2.2.2.2.2.2.2.2.2.2.2.2.2.2) : gU)) (k := k) (v := v) T.un T.xn T.hn
  have T0 : gTi n m p q ((u.1, u.2.1, u.2.2.1, u.2.2.2.1, u.2.2.2.2.1, u.2.2.2.2.2.1, u.2.2.2.2.2.2.1, u.2.2.2.2.2.2.2.1, gup u.2.2.2.2.2.2.2.2.1 2 0, gup u.2.2.2.2.2.2.2.2.2.1 1 0, u.2.2.2.2.2.2.2.2.2.2.1, gfl u.2.2.2.2.2.2.2.2.2.2.2.1 0, u.2.2.2.2.2.2.2.2.2.2.2.2.1, u.2.2.2.2.2.2.2.2.2.2.2.2.2.1, u.2.2.2.2.2.2.2.2.2.2.2.2.2.2) : gU) x := ⟨T.hn, T.un, T.xn, T.ob, T.hm, T.um, T.xm, T.bs, T.b8, T.hp, T.up, T.xp, T.pa, T.pb, T.hq, T.uq, T.xq, T.ho, T.fo⟩
  obtain ⟨a, a1, a2, a3⟩ := k_freeAll T0
  obtain ⟨b, b1, b2, b3⟩ := k_twice T0
  obtain ⟨c, c1, c2, c3⟩ := r_can T0
  have run : ∀ y o z, cW_run (some 169) (some 1) (some 165) k v (gH u y o z) = cW_run_80 (some 169) (some 1) (some 165) k v (some 169) (if r = 1 ∧ a = 1 ∧ b = 1 then 0 else 1) (gH ((u.1, u.2.1, u.2.2.1, u.2.2.2.1, u.2.2.2.2.1, u.2.2.2.2.2.1, u.2.2.2.2.2.2.1, u.2.2.2.2.2.2.2.1, gup u.2.2.2.2.2.2.2.2.1 2 0, gup u.2.2.2.2.2.2.2.2.2.1 1 0, u.2.2.2.2.2.2.2.2.2.2.1, gfl u.2.2.2.2.2.2.2.2.2.2.2.1 0, u.2.2.2.2.2.2.2.2.2.2.2.2.1, u.2.2.2.2.2.2.2.2.2.2.2.2.2.1, u.2.2.2.2.2.2.2.2.2.2.2.2.2.2) : gU) y o z) := by
    intro y o z
    obtain ⟨G, hG⟩ : ∃ G, 1000000000000000 = G + 32 + 1 := ⟨999999999999967, rfl⟩
    simp only [cW_run, hr_169_0, Option.bind_some, hp_170_1, hp_169_2]
    rw [hG, show (0 : Int32) = Int32.ofNat 0 from rfl, k_fillW 32 0 G _ (by omega), cW_run_16, if_neg (show ¬ Int32.ofNat 32 < 32 by decide)]
    have rr := r2 y o z
    have aa := a1 y o z
    have bb := b1 y o z
    rw [show (0 : Int32) = Int32.ofNat 0 from rfl] at rr aa bb
    simp only [ho_1, Option.bind_some, rr, ho_165, aa, bb, cW_run_66, cW_run_67]
    rcases r1 with h | h <;> rcases a2 with h' | h' <;> rcases b2 with h'' | h'' <;> simp [h, h', h'']
  have ref : ∀ y o z, mM_write (some 188) k v (gH y x o z) = mM_write_22 (some 188) k v (some 188) (if r = 1 ∧ a = 1 ∧ b = 1 then 0 else 1) (gH y x o z) := by
    intro y o z
    have cab : c = 1 ↔ a = 1 ∧ b = 1 := ⟨fun q => ⟨a3.mpr fun t ht => (c3.mp q t ht).1, b3.mpr fun t ht => (c3.mp q t ht).2⟩, fun q => c3.mpr fun t ht => ⟨a3.mp q.1 t ht, b3.mp q.2 t ht⟩⟩
    simp only [mM_write, ho_188, Option.bind_some, r3, c1, mM_write_21]
    rcases r1 with hr | hr
    · simp [hr]
    · rcases c2 with hc | hc
      · have : ¬ (a = 1 ∧ b = 1) := fun q => by rw [cab.mpr q] at hc; exact absurd hc (by decide)
        simp [hr, hc, this]
      · have := cab.mp hc
        simp [hr, hc, this.1, this.2]
  have ref2 : ∀ (s : Int32) y o z, mM_write_22 (some 188) k v (some 188) s (gH y x o z) = (if s = 0 then (mM_say (some 188) 15 (gH y ((x.1, gup (gup (gup (gup x.2.1 26 s) 27 0) 29 0) 18 0, x.2.2.1, x.2.2.2.1, x.2.2.2.2.1, x.2.2.2.2.2.1, x.2.2.2.2.2.2.1, x.2.2.2.2.2.2.2.1, x.2.2.2.2.2.2.2.2.1, x.2.2.2.2.2.2.2.2.2.1, x.2.2.2.2.2.2.2.2.2.2.1, x.2.2.2.2.2.2.2.2.2.2.2.1, x.2.2.2.2.2.2.2.2.2.2.2.2.1, x.2.2.2.2.2.2.2.2.2.2.2.2.2.1, gfl x.2.2.2.2.2.2.2.2.2.2.2.2.2.2.1 0, x.2.2.2.2.2.2.2.2.2.2.2.2.2.2.2) : gX) o z)).bind fun h8 => (gv_is h8 (some 188) 7).bind fun _ => (mM_sayValue (some 188) k v h8).bind fun h11 => mM_write_80 1000000000000000 (some 188) h11 else mM_write_80 1000000000000000 (some 188) (gH y ((x.1, gup (gup (gup (gup x.2.1 26 s) 27 0) 29 0) 18 0, x.2.2.1, x.2.2.2.1, x.2.2.2.2.1, x.2.2.2.2.2.1, x.2.2.2.2.2.2.1, x.2.2.2.2.2.2.2.1, x.2.2.2.2.2.2.2.2.1, x.2.2.2.2.2.2.2.2.2.1, x.2.2.2.2.2.2.2.2.2.2.1, x.2.2.2.2.2.2.2.2.2.2.2.1, x.2.2.2.2.2.2.2.2.2.2.2.2.1, x.2.2.2.2.2.2.2.2.2.2.2.2.2.1, gfl x.2.2.2.2.2.2.2.2.2.2.2.2.2.2.1 0, x.2.2.2.2.2.2.2.2.2.2.2.2.2.2.2) : gX) o z)) := by
    intro s y o z
    obtain ⟨G, hG⟩ : ∃ G, 1000000000000000 = G + 32 + 1 := ⟨999999999999967, rfl⟩
    simp only [mM_write_22, hp_188_26, hp_188_27, hp_188_29, hp_188_18, Option.bind_some]
    rw [show mM_write_42 1000000000000000 (some 188) k v 0 = mM_write_42 (G + 32 + 1) (some 188) k v (Int32.ofNat 0) from by rw [hG]; rfl, r_fillW 32 0 G _ (by omega), mM_write_42, if_neg (show ¬ Int32.ofNat 32 < 32 by decide)]
    have e26 : gup (gup (gup (gup x.2.1 26 s) 27 0) 29 0) 18 0 26 = s := rfl
    simp only [hi_188_26, Option.bind_some, e26, ho_188]
  by_cases ok : r = 1 ∧ a = 1 ∧ b = 1
  · rw [if_pos ok] at run ref
    obtain ⟨ok1, ok2, ok3⟩ := ok
    have W1 : gW n m p q 0 0 ((u.1, u.2.1, u.2.2.1, u.2.2.2.1, u.2.2.2.2.1, u.2.2.2.2.2.1, u.2.2.2.2.2.2.1, u.2.2.2.2.2.2.2.1, gup (gup u.2.2.2.2.2.2.2.2.1 2 0) 4 0, gup u.2.2.2.2.2.2.2.2.2.1 1 0, u.2.2.2.2.2.2.2.2.2.2.1, gfl u.2.2.2.2.2.2.2.2.2.2.2.1 0, u.2.2.2.2.2.2.2.2.2.2.2.2.1, u.2.2.2.2.2.2.2.2.2.2.2.2.2.1, u.2.2.2.2.2.2.2.2.2.2.2.2.2.2) : gU) ((x.1, gup (gup (gup (gup x.2.1 26 0) 27 0) 29 0) 18 0, x.2.2.1, x.2.2.2.1, x.2.2.2.2.1, x.2.2.2.2.2.1, x.2.2.2.2.2.2.1, x.2.2.2.2.2.2.2.1, x.2.2.2.2.2.2.2.2.1, x.2.2.2.2.2.2.2.2.2.1, x.2.2.2.2.2.2.2.2.2.2.1, x.2.2.2.2.2.2.2.2.2.2.2.1, x.2.2.2.2.2.2.2.2.2.2.2.2.1, x.2.2.2.2.2.2.2.2.2.2.2.2.2.1, gfl x.2.2.2.2.2.2.2.2.2.2.2.2.2.2.1 0, x.2.2.2.2.2.2.2.2.2.2.2.2.2.2.2) : gX) := by
      refine ⟨⟨T.hn, T.un, T.xn, T.ob, T.hm, T.um, T.xm, T.bs, T.b8, T.hp, T.up, T.xp, T.pa, T.pb, T.hq, T.uq, T.xq, T.ho, T.fo⟩, rfl, Or.inl rfl, fun _ => by omega, fun _ => by omega, fun _ => rfl, fun _ => rfl, fun _ i hi => by omega, fun _ => rfl, fun _ => rfl, fun _ i hi => ?_⟩
      show gfl x.2.2.2.2.2.2.2.2.2.2.2.2.2.2.1 0 i = gfl u.2.2.2.2.2.2.2.2.2.2.2.1 0 i ∧ (gfl u.2.2.2.2.2.2.2.2.2.2.2.1 0 i = -1 ∨ _)
      unfold gfl
      rw [if_pos ⟨by omega, hi⟩, if_pos ⟨by omega, hi⟩]
      exact ⟨rfl, Or.inl rfl⟩
    obtain ⟨u2, x2, s1, s2, W2, o2, B2⟩ := w_start W1 rfl
    obtain ⟨u3, x3, x4, k1, k2, ⟨K, kK, k3⟩, ⟨e4, g4, l1, l2, l3⟩, k5⟩ := w_val 12 0 7 (by omega) u2 x2 1 0 k v W2 o2 (by omega) ((B2.b188 18 (by omega) (by omega)).trans rfl) (r4 ok1)
    have T3 := l1.T
    have pa3 : u3.2.2.2.2.2.2.1 = u.2.2.2.2.2.2.1 := l3.fpa.trans B2.u6
    have pk3 : ∀ t, gpk u3 t = gpk u t := fun t => by unfold gpk; rw [pa3]
    have so3 : ∀ j, (u3.1 j).2.2.2.2.1 4 = (u.1 j).2.2.2.2.1 4 := fun j => (l3.so j).trans (by rw [B2.bC])
    have dis : ∀ s t, s < t → t < p → ¬ gpk u3 s = gpk u3 t := by
      intro s t st tp eq
      rw [pk3, pk3] at eq
      have h1 := b3.mp ok3 t tp
      have hs := gpk_at T0 (show s < p by omega)
      have ht := gpk_at T0 tp
      have e1 : u.2.2.2.2.2.2.1 s = u.2.2.2.2.2.2.1 t := (hs.2.1).trans ((congrArg Int32.ofNat eq).trans ht.2.1.symm)
      have hp4 := T.hp
      cases hf : gfi (fun j => decide (u.2.2.2.2.2.2.1 j = u.2.2.2.2.2.2.1 t)) p 0 with
      | none =>
        have := gfi_none _ _ hf s (by omega) (by omega)
        simp [e1] at this
      | some j =>
        have h1' : gio (gfi (fun j => decide (u.2.2.2.2.2.2.1 j = u.2.2.2.2.2.2.1 t)) p 0) = Int32.ofNat t := h1
        rw [hf] at h1'
        have jt : j = t := (n_eq (by have := (gfi_some _ _ _ hf).2.1; omega) (by omega)).mp h1'
        subst jt
        have := (gfi_some _ _ _ hf).2.2.2 s (by omega) st
        simp [e1] at this
    have w80 : ∀ y o z, mM_write_80 1000000000000000 (some 188) (gH y x3 o z) = mM_write_101 (some 188) (gH y x4 o z) := by
      intro y o z
      have lt := gBd_lt
      obtain ⟨N, hN⟩ : ∃ N, 1000000000000000 = N + 1 + K := ⟨1000000000000000 - 1 - K, by omega⟩
      rw [hN, k3, mM_write_80, hi_188_26, Option.bind_some]
      by_cases c0 : u3.2.2.2.2.2.2.2.2.1 4 = 0
      · rw [if_pos (l1.oc.trans c0), hi_188_18, Option.bind_some, k5 c0, if_neg (show ¬ (0 : Int32) < Int32.ofNat 0 by decide)]
      · rw [if_neg (fun q => c0 (l1.oc.symm.trans q))]
    have refv : ∀ y o z, mM_write (some 188) k v (gH y x o z) = mM_write_101 (some 188) (gH y x4 o z) := by
      intro y o z
      rw [ref, ref2, if_pos rfl, s2, Option.bind_some, ho_188, Option.bind_some, k2, Option.bind_some, w80]
    have cls : ∀ y o z, cW_run (some 169) (some 1) (some 165) k v (gH u y o z) = (if u3.2.2.2.2.2.2.2.2.1 4 = 0 then (cH_areFreeBuffers (some 165) (some 1) (gH u3 y o z)).bind fun v11 => if v11 = 0 then (gv_pV (gH u3 y o z) (some 169) 5 4 (.int 1)).bind fun h13 => (gv_gI h13 (some 169) 5 4).bind fun v14 => some (v14, h13) else some (u3.2.2.2.2.2.2.2.2.1 4, gH u3 y o z) else some (u3.2.2.2.2.2.2.2.2.1 4, gH u3 y o z)) := by
      intro y o z
      have q1 := s1 y o z
      have q2 := k1 y o z
      rw [run]
      simp only [cW_run_80, hp_169_4, Option.bind_some, ho_169, q1]
      have q2' : cW_writeValue 20 (some 169) (some 1) (some 165) k v 1 (gH u2 y o z) = some (gH u3 y o z) := q2
      simp only [q2', Option.bind_some, hi_169_4, hp_169_4, ho_165]
    by_cases c0 : u3.2.2.2.2.2.2.2.2.1 4 = 0
    · obtain ⟨a', f1, f2, f3⟩ := k_freeAll T3
      obtain ⟨w, w1, w2, w3⟩ := r_103L T3 p 0 (1000000000000000 - p - 1) x4.2.1 (by omega) (fun _ _ => rfl) (l1.oc.trans c0)
      have hp4 := T.hp
      rw [show 1000000000000000 - p - 1 + p + 1 = 1000000000000000 by omega] at w3
      have aw : a' = 1 ↔ w = 0 := by
        rw [f3, w2]
        refine ⟨fun q t _ ht => (q t ht).2, fun q t ht => ⟨?_, q t (by omega) ht⟩⟩
        rw [so3, pk3]
        exact ((a3.mp ok2) t ht).1
      rcases f2 with fa | fa
      · have w1' : w = 1 := by rcases w1 with h | h; rw [aw.mpr h] at fa; exact absurd fa (by decide); exact h
        subst fa w1'
        refine w_refuse (u' := ((u3.1, u3.2.1, u3.2.2.1, u3.2.2.2.1, u3.2.2.2.2.1, u3.2.2.2.2.2.1, u3.2.2.2.2.2.2.1, u3.2.2.2.2.2.2.2.1, gup u3.2.2.2.2.2.2.2.2.1 4 1, u3.2.2.2.2.2.2.2.2.2.1, u3.2.2.2.2.2.2.2.2.2.2.1, u3.2.2.2.2.2.2.2.2.2.2.2.1, u3.2.2.2.2.2.2.2.2.2.2.2.2.1, u3.2.2.2.2.2.2.2.2.2.2.2.2.2.1, u3.2.2.2.2.2.2.2.2.2.2.2.2.2.2) : gU)) (x' := ((x4.1, gup x4.2.1 26 1, x4.2.2.1, x4.2.2.2.1, x4.2.2.2.2.1, x4.2.2.2.2.2.1, x4.2.2.2.2.2.2.1, x4.2.2.2.2.2.2.2.1, x4.2.2.2.2.2.2.2.2.1, x4.2.2.2.2.2.2.2.2.2.1, x4.2.2.2.2.2.2.2.2.2.2.1, x4.2.2.2.2.2.2.2.2.2.2.2.1, x4.2.2.2.2.2.2.2.2.2.2.2.2.1, x4.2.2.2.2.2.2.2.2.2.2.2.2.2.1, x4.2.2.2.2.2.2.2.2.2.2.2.2.2.2.1, x4.2.2.2.2.2.2.2.2.2.2.2.2.2.2.2) : gX)) (c := 1) (gW_bad l1 (Or.inl rfl)).T (Or.inl rfl) rfl (fun y o z => ?_) (fun y o z => ?_)
        · rw [cls, if_pos c0, f1, Option.bind_some, if_pos rfl, hp_169_4, Option.bind_some, hi_169_4]
          rfl
        · rw [refv]
          refine (w3 y o z).trans ?_
          simp only [mM_write_147, hi_188_26, Option.bind_some, gup_eq, if_neg d10]
      · have w0 := aw.mp fa
        subst fa w0
        refine w_done (u := u3) (x := x4) l1 c0 dis (f3.mp rfl) (fun y o z => ?_) (fun y o z => ?_)
        · rw [cls, if_pos c0, f1, Option.bind_some, if_neg d10, c0]
        · rw [refv]
          refine (w3 y o z).trans ?_
          rw [gup_same (l1.oc.trans c0)]
    · have oc4 : ¬ x4.2.1 26 = 0 := fun q => c0 (l1.oc.symm.trans q)
      refine w_refuse (u' := u3) (x' := x4) (c := u3.2.2.2.2.2.2.2.2.1 4) T3 ?_ l1.oc (fun y o z => ?_) (fun y o z => ?_)
      · rcases l1.o2 with h | h | h
        · exact absurd h c0
        · exact Or.inl h
        · exact Or.inr h
      · rw [cls, if_neg c0]
      · rw [refv, w_103bad oc4]
  · rw [if_neg ok] at run ref
    have T1 : gTi n m p q ((u.1, u.2.1, u.2.2.1, u.2.2.2.1, u.2.2.2.2.1, u.2.2.2.2.2.1, u.2.2.2.2.2.2.1, u.2.2.2.2.2.2.2.1, gup (gup u.2.2.2.2.2.2.2.2.1 2 0) 4 1, gup u.2.2.2.2.2.2.2.2.2.1 1 0, u.2.2.2.2.2.2.2.2.2.2.1, gfl u.2.2.2.2.2.2.2.2.2.2.2.1 0, u.2.2.2.2.2.2.2.2.2.2.2.2.1, u.2.2.2.2.2.2.2.2.2.2.2.2.2.1, u.2.2.2.2.2.2.2.2.2.2.2.2.2.2) : gU) ((x.1, gup (gup (gup (gup x.2.1 26 1) 27 0) 29 0) 18 0, x.2.2.1, x.2.2.2.1, x.2.2.2.2.1, x.2.2.2.2.2.1, x.2.2.2.2.2.2.1, x.2.2.2.2.2.2.2.1, x.2.2.2.2.2.2.2.2.1, x.2.2.2.2.2.2.2.2.2.1, x.2.2.2.2.2.2.2.2.2.2.1, x.2.2.2.2.2.2.2.2.2.2.2.1, x.2.2.2.2.2.2.2.2.2.2.2.2.1, x.2.2.2.2.2.2.2.2.2.2.2.2.2.1, gfl x.2.2.2.2.2.2.2.2.2.2.2.2.2.2.1 0, x.2.2.2.2.2.2.2.2.2.2.2.2.2.2.2) : gX) := ⟨T.hn, T.un, T.xn, T.ob, T.hm, T.um, T.xm, T.bs, T.b8, T.hp, T.up, T.xp, T.pa, T.pb, T.hq, T.uq, T.xq, T.ho, T.fo⟩
    refine w_refuse (c := 1) T1 (Or.inl rfl) rfl (fun y o z => ?_) (fun y o z => ?_)
    · rw [run]
      have nd : ¬ gup (gup u.2.2.2.2.2.2.2.2.1 2 0) 4 1 4 = 0 := d10
      have wd := w_dead (f := 19) ((u.1, u.2.1, u.2.2.1, u.2.2.2.1, u.2.2.2.2.1, u.2.2.2.2.2.1, u.2.2.2.2.2.2.1, u.2.2.2.2.2.2.2.1, gup (gup u.2.2.2.2.2.2.2.2.1 2 0) 4 1, gup u.2.2.2.2.2.2.2.2.2.1 1 0, u.2.2.2.2.2.2.2.2.2.2.1, gfl u.2.2.2.2.2.2.2.2.2.2.2.1 0, u.2.2.2.2.2.2.2.2.2.2.2.2.1, u.2.2.2.2.2.2.2.2.2.2.2.2.2.1, u.2.2.2.2.2.2.2.2.2.2.2.2.2.2) : gU) y o z k v 1 nd
      have e4 : gup (gup u.2.2.2.2.2.2.2.2.1 2 0) 4 1 4 = 1 := rfl
      simp only [cW_run_80, hp_169_4, Option.bind_some, ho_169, k_wbDead (u := ((u.1, u.2.1, u.2.2.1, u.2.2.2.1, u.2.2.2.2.1, u.2.2.2.2.2.1, u.2.2.2.2.2.2.1, u.2.2.2.2.2.2.2.1, gup (gup u.2.2.2.2.2.2.2.2.1 2 0) 4 1, gup u.2.2.2.2.2.2.2.2.2.1 1 0, u.2.2.2.2.2.2.2.2.2.2.1, gfl u.2.2.2.2.2.2.2.2.2.2.2.1 0, u.2.2.2.2.2.2.2.2.2.2.2.2.1, u.2.2.2.2.2.2.2.2.2.2.2.2.2.1, u.2.2.2.2.2.2.2.2.2.2.2.2.2.2) : gU)) nd]
      have wd' : cW_writeValue 20 (some 169) (some 1) (some 165) k v 1 _ = _ := wd
      simp only [wd', Option.bind_some, hi_169_4, e4, if_neg d10]
    · rw [ref, ref2, if_neg d10]
      obtain ⟨G, hG⟩ : ∃ G, 1000000000000000 = G + 1 := ⟨999999999999999, rfl⟩
      have n26 : ¬ gup (gup (gup (gup x.2.1 26 1) 27 0) 29 0) 18 0 26 = 0 := d10
      rw [hG, mM_write_80, hi_188_26, Option.bind_some, if_neg n26, w_103bad n26]
end H
end
