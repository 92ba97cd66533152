/-! places, marks, the pile -/
section H
variable {n m p q e g : Nat} {F : gWf} {u : gU} {x : gX} {o : Nat → Int64} {z : gx_H}
theorem k_placeL {t : Nat} {a : Int32} (hp : u.2.2.2.2.2.1 1 = Int32.ofNat t) (h4 : t ≤ 4) : ∀ (r i f : Nat), i + r = t → cH_placeOf_2 (f + r + 1) (some 165) a (Int32.ofNat i) (gH u x o z) = some (gio (gfi (fun i => decide (u.2.2.2.2.2.2.1 i = a)) r i)) := by
  intro r
  induction r with
  | zero =>
    intro i f h
    rw [cH_placeOf_2, hi_165_1, Option.bind_some, hp, if_neg (n_nltl (by omega) (by omega) (by omega))]
    rfl
  | succ r ih =>
    intro i f h
    rw [show f + (r + 1) + 1 = (f + r + 1) + 1 by omega, cH_placeOf_2, hi_165_1, Option.bind_some, hp, if_pos (n_ltl (by omega) (by omega) (by omega)), gfi]
    simp only [hr_165_0, ha_166 (show i < 4 by omega), Option.bind_some, n_succ, ih (i + 1) f (by omega)]
    by_cases c : u.2.2.2.2.2.2.1 i = a
    · simp [c, gio]
    · simp [c]
theorem k_place {t : Nat} {a : Int32} (hp : u.2.2.2.2.2.1 1 = Int32.ofNat t) (h4 : t ≤ 4) : cH_placeOf (some 165) a (gH u x o z) = some (gio (gfi (fun i => decide (u.2.2.2.2.2.2.1 i = a)) t 0)) := by
  have := k_placeL (x := x) (o := o) (z := z) (a := a) hp h4 t 0 (1000000000000000 - t - 1) (by omega)
  rw [show 1000000000000000 - t - 1 + t + 1 = 1000000000000000 by omega] at this
  exact this
theorem r_passL {t : Nat} {a : Int32} (hp : x.2.1 10 = Int32.ofNat t) (h4 : t ≤ 4) : ∀ (r i f : Nat), i + r = t → mM_passOf_2 (f + r + 1) (some 188) a (Int32.ofNat i) (gH u x o z) = some (gio (gfi (fun i => decide (x.2.2.1 i = a)) r i)) := by
  intro r
  induction r with
  | zero =>
    intro i f h
    rw [mM_passOf_2, hi_188_10, Option.bind_some, hp, if_neg (n_nltl (by omega) (by omega) (by omega))]
    rfl
  | succ r ih =>
    intro i f h
    rw [show f + (r + 1) + 1 = (f + r + 1) + 1 by omega, mM_passOf_2, hi_188_10, Option.bind_some, hp, if_pos (n_ltl (by omega) (by omega) (by omega)), gfi]
    simp only [hr_188_11, ha_197 (show i < 4 by omega), Option.bind_some, n_succ, ih (i + 1) f (by omega)]
    by_cases c : x.2.2.1 i = a
    · simp [c, gio]
    · simp [c]
theorem r_pass {t : Nat} {a : Int32} (hp : x.2.1 10 = Int32.ofNat t) (h4 : t ≤ 4) : mM_passOf (some 188) a (gH u x o z) = some (gio (gfi (fun i => decide (x.2.2.1 i = a)) t 0)) := by
  have := r_passL (u := u) (o := o) (z := z) (a := a) hp h4 t 0 (1000000000000000 - t - 1) (by omega)
  rw [show 1000000000000000 - t - 1 + t + 1 = 1000000000000000 by omega] at this
  exact this
theorem pass_find {a : Int32} (T : gTi n m p q u x) : gfi (fun i => decide (u.2.2.2.2.2.2.1 i = a)) p 0 = gfi (fun i => decide (x.2.2.1 i = a)) p 0 := by
  refine gfi_congr _ _ fun t _ ht => ?_
  rw [T.pa t (by omega)]
theorem r_push {D : Nat} {a w : Int32} (hD : D < 14) (h18 : x.2.1 18 = Int32.ofNat D) : mM_push (some 188) a w (gH u x o z) = some (gH u ((x.1, gup x.2.1 18 (Int32.ofNat (D + 1)), x.2.2.1, x.2.2.2.1, x.2.2.2.2.1, x.2.2.2.2.2.1, gup x.2.2.2.2.2.2.1 D a, gup x.2.2.2.2.2.2.2.1 D 0, gup x.2.2.2.2.2.2.2.2.1 D w, x.2.2.2.2.2.2.2.2.2.1, x.2.2.2.2.2.2.2.2.2.2.1, x.2.2.2.2.2.2.2.2.2.2.2.1, x.2.2.2.2.2.2.2.2.2.2.2.2.1, x.2.2.2.2.2.2.2.2.2.2.2.2.2.1, x.2.2.2.2.2.2.2.2.2.2.2.2.2.2.1, x.2.2.2.2.2.2.2.2.2.2.2.2.2.2.2) : gX) o z) := by
  simp only [mM_push, hr_188_19, hr_188_20, hr_188_21, hi_188_18, Option.bind_some, h18, hb_201 hD, hb_202 hD, hb_203 hD, n_succ, hp_188_18]
theorem k_give {b : Nat} (hb : b < 32) : cW_givePlace (some 169) (Int32.ofNat b) (gH u x o z) = some (gH ((u.1, u.2.1, u.2.2.1, u.2.2.2.1, u.2.2.2.2.1, u.2.2.2.2.2.1, u.2.2.2.2.2.2.1, u.2.2.2.2.2.2.2.1, gup u.2.2.2.2.2.2.2.2.1 2 (u.2.2.2.2.2.2.2.2.1 2 + 1), u.2.2.2.2.2.2.2.2.2.1, u.2.2.2.2.2.2.2.2.2.2.1, gup u.2.2.2.2.2.2.2.2.2.2.2.1 b (u.2.2.2.2.2.2.2.2.1 2), u.2.2.2.2.2.2.2.2.2.2.2.2.1, u.2.2.2.2.2.2.2.2.2.2.2.2.2.1, u.2.2.2.2.2.2.2.2.2.2.2.2.2.2) : gU) x o z) := by
  simp only [cW_givePlace, hr_169_1, hi_169_2, Option.bind_some, hb_172 hb, hp_169_2]
theorem r_give {b : Nat} (hb : b < 32) : mM_getPlace (some 188) (Int32.ofNat b) (gH u x o z) = some (gH u ((x.1, gup x.2.1 29 (x.2.1 29 + 1), x.2.2.1, x.2.2.2.1, x.2.2.2.2.1, x.2.2.2.2.2.1, x.2.2.2.2.2.2.1, x.2.2.2.2.2.2.2.1, x.2.2.2.2.2.2.2.2.1, x.2.2.2.2.2.2.2.2.2.1, x.2.2.2.2.2.2.2.2.2.2.1, x.2.2.2.2.2.2.2.2.2.2.2.1, x.2.2.2.2.2.2.2.2.2.2.2.2.1, x.2.2.2.2.2.2.2.2.2.2.2.2.2.1, gup x.2.2.2.2.2.2.2.2.2.2.2.2.2.2.1 b (x.2.1 29), x.2.2.2.2.2.2.2.2.2.2.2.2.2.2.2) : gX) o z) := by
  simp only [mM_getPlace, hr_188_30, hi_188_29, Option.bind_some, hb_209 hb, hp_188_29]
theorem pl_give {b : Nat} (hb : b < 32) (hg : g < 1000) (h : ∀ i, i < 32 → x.2.2.2.2.2.2.2.2.2.2.2.2.2.2.1 i = u.2.2.2.2.2.2.2.2.2.2.2.1 i ∧ (u.2.2.2.2.2.2.2.2.2.2.2.1 i = -1 ∨ ∃ j, j < 1000 ∧ u.2.2.2.2.2.2.2.2.2.2.2.1 i = Int32.ofNat j)) : ∀ i, i < 32 → gup x.2.2.2.2.2.2.2.2.2.2.2.2.2.2.1 b (Int32.ofNat g) i = gup u.2.2.2.2.2.2.2.2.2.2.2.1 b (Int32.ofNat g) i ∧ (gup u.2.2.2.2.2.2.2.2.2.2.2.1 b (Int32.ofNat g) i = -1 ∨ ∃ j, j < 1000 ∧ gup u.2.2.2.2.2.2.2.2.2.2.2.1 b (Int32.ofNat g) i = Int32.ofNat j) := by
  intro i hi
  by_cases e : i = b
  · subst e; rw [gup_eq, gup_eq]; exact ⟨rfl, Or.inr ⟨g, hg, rfl⟩⟩
  · rw [gup_ne e, gup_ne e]; exact h i hi
/-- a place is given on both sides -/
theorem gW_give {b : Nat} (W : gW n m p q e g u x) (h0 : u.2.2.2.2.2.2.2.2.1 4 = 0) (hlt : g < e) (hb : b < 32) : gW n m p q e (g + 1) ((u.1, u.2.1, u.2.2.1, u.2.2.2.1, u.2.2.2.2.1, u.2.2.2.2.2.1, u.2.2.2.2.2.2.1, u.2.2.2.2.2.2.2.1, gup u.2.2.2.2.2.2.2.2.1 2 (u.2.2.2.2.2.2.2.2.1 2 + 1), u.2.2.2.2.2.2.2.2.2.1, u.2.2.2.2.2.2.2.2.2.2.1, gup u.2.2.2.2.2.2.2.2.2.2.2.1 b (u.2.2.2.2.2.2.2.2.1 2), u.2.2.2.2.2.2.2.2.2.2.2.2.1, u.2.2.2.2.2.2.2.2.2.2.2.2.2.1, u.2.2.2.2.2.2.2.2.2.2.2.2.2.2) : gU) ((x.1, gup x.2.1 29 (x.2.1 29 + 1), x.2.2.1, x.2.2.2.1, x.2.2.2.2.1, x.2.2.2.2.2.1, x.2.2.2.2.2.2.1, x.2.2.2.2.2.2.2.1, x.2.2.2.2.2.2.2.2.1, x.2.2.2.2.2.2.2.2.2.1, x.2.2.2.2.2.2.2.2.2.2.1, x.2.2.2.2.2.2.2.2.2.2.2.1, x.2.2.2.2.2.2.2.2.2.2.2.2.1, x.2.2.2.2.2.2.2.2.2.2.2.2.2.1, gup x.2.2.2.2.2.2.2.2.2.2.2.2.2.2.1 b (x.2.1 29), x.2.2.2.2.2.2.2.2.2.2.2.2.2.2.2) : gX) := by
  have T := W.T
  have he := W.he h0
  rw [W.ug h0, W.xg h0, n_succ]
  exact ⟨⟨T.hn, T.un, T.xn, T.ob, T.hm, T.um, T.xm, T.bs, T.b8, T.hp, T.up, T.xp, T.pa, T.pb, T.hq, T.uq, T.xq, T.ho, T.fo⟩, W.oc, W.o2, W.he, fun _ => by omega, W.dE, W.xe, W.dr, fun _ => rfl, fun _ => rfl, fun _ => pl_give hb (by omega) (W.pl h0)⟩
theorem gW_giveD {r : Nat → Int32} {v : Int32} (W : gW n m p q e g u x) (h0 : ¬ u.2.2.2.2.2.2.2.2.1 4 = 0) : gW n m p q e g ((u.1, u.2.1, u.2.2.1, u.2.2.2.1, u.2.2.2.2.1, u.2.2.2.2.2.1, u.2.2.2.2.2.2.1, u.2.2.2.2.2.2.2.1, gup u.2.2.2.2.2.2.2.2.1 2 v, u.2.2.2.2.2.2.2.2.2.1, u.2.2.2.2.2.2.2.2.2.2.1, r, u.2.2.2.2.2.2.2.2.2.2.2.2.1, u.2.2.2.2.2.2.2.2.2.2.2.2.2.1, u.2.2.2.2.2.2.2.2.2.2.2.2.2.2) : gU) x := by
  have T := W.T
  exact ⟨⟨T.hn, T.un, T.xn, T.ob, T.hm, T.um, T.xm, T.bs, T.b8, T.hp, T.up, T.xp, T.pa, T.pb, T.hq, T.uq, T.xq, T.ho, T.fo⟩, W.oc, W.o2, fun h => absurd h h0, fun h => absurd h h0, fun h => absurd h h0, fun h => absurd h h0, fun h => absurd h h0, fun h => absurd h h0, fun h => absurd h h0, fun h => absurd h h0⟩
/-- an object's mark and its place, in either order -/
theorem w_mark {b : Nat} {v : Int32} (W : gW n m p q e g u x) (h0 : u.2.2.2.2.2.2.2.2.1 4 = 0) (hlt : g < e) (hb : b < 32) (hv : ∃ j, j < 256 ∧ v = Int32.ofNat j) : ∃ u1 x1 e1, (∀ y o z, ((cW_givePlace (some 169) (Int32.ofNat b) (gH u y o z)).bind fun h => cW_writeByte (some 169) v h) = some (gH u1 y o z)) ∧ (∀ y o z, ((mM_say (some 188) v (gH y x o z)).bind fun h => mM_getPlace (some 188) (Int32.ofNat b) h) = some (gH y x1 o z)) ∧ gW n m p q e1 (g + 1) u1 x1 ∧ (u1.2.2.2.2.2.2.2.2.1 4 = 0 → e1 = e + 1) ∧ u1.1 = u.1 ∧ u1.2.2.2.2.2.2.2.2.2.2.2.2.2.1 = u.2.2.2.2.2.2.2.2.2.2.2.2.2.1 ∧ x1.1 = x.1 ∧ x1.2.1 18 = x.2.1 18 ∧ x1.2.2.2.2.2.2.1 = x.2.2.2.2.2.2.1 ∧ x1.2.2.2.2.2.2.2.1 = x.2.2.2.2.2.2.2.1 ∧ x1.2.2.2.2.2.2.2.2.1 = x.2.2.2.2.2.2.2.2.1 ∧ x1.2.2.2.2.2.2.2.2.2.1 = x.2.2.2.2.2.2.2.2.2.1 ∧ u1.2.2.2.2.2.2.1 = u.2.2.2.2.2.2.1 := by
  have d10 : ¬ (1 : Int32) = 0 := by decide
  have T := W.T
  have he := W.he h0
  have de := W.dE h0
  have xe := W.xe h0
  have ug := W.ug h0
  have xg := W.xg h0
  have oc : x.2.1 26 = 0 := W.oc.trans h0
  by_cases c3 : e < 300
  · have l3 : Int32.ofNat e < 300 := n_ltl (m := 300) (by omega) (by omega) c3
    have n3 : ¬ Int32.ofNat e = 300 := fun q => by have := (n_eq (m := 300) (by omega) (by omega)).mp q; omega
    refine ⟨((u.1, u.2.1, u.2.2.1, u.2.2.2.1, u.2.2.2.2.1, u.2.2.2.2.2.1, u.2.2.2.2.2.2.1, u.2.2.2.2.2.2.2.1, gup u.2.2.2.2.2.2.2.2.1 2 (Int32.ofNat (g + 1)), gup u.2.2.2.2.2.2.2.2.2.1 1 (Int32.ofNat (e + 1)), gup u.2.2.2.2.2.2.2.2.2.2.1 e v, gup u.2.2.2.2.2.2.2.2.2.2.2.1 b (Int32.ofNat g), u.2.2.2.2.2.2.2.2.2.2.2.2.1, u.2.2.2.2.2.2.2.2.2.2.2.2.2.1, u.2.2.2.2.2.2.2.2.2.2.2.2.2.2) : gU), ((x.1, gup (gup x.2.1 27 (Int32.ofNat (e + 1))) 29 (Int32.ofNat (g + 1)), x.2.2.1, x.2.2.2.1, x.2.2.2.2.1, x.2.2.2.2.2.1, x.2.2.2.2.2.2.1, x.2.2.2.2.2.2.2.1, x.2.2.2.2.2.2.2.2.1, x.2.2.2.2.2.2.2.2.2.1, x.2.2.2.2.2.2.2.2.2.2.1, x.2.2.2.2.2.2.2.2.2.2.2.1, x.2.2.2.2.2.2.2.2.2.2.2.2.1, gup x.2.2.2.2.2.2.2.2.2.2.2.2.2.1 e v, gup x.2.2.2.2.2.2.2.2.2.2.2.2.2.2.1 b (Int32.ofNat g), x.2.2.2.2.2.2.2.2.2.2.2.2.2.2.2) : gX), e + 1, fun y o z => ?_, fun y o z => ?_, ?_, fun _ => rfl, rfl, rfl, rfl, rfl, rfl, rfl, rfl, rfl, rfl⟩
    · have h0' : gup u.2.2.2.2.2.2.2.2.1 2 (Int32.ofNat (g + 1)) 4 = 0 := h0
      simp only [k_give hb, Option.bind_some, ug, n_succ, cW_writeByte, hi_169_4, h0', if_true, hr_169_0, ho_170, cB_append, hi_170_1, de, if_pos l3, hr_170_0, hb_171 c3, hp_170_1, if_neg d10]
    · have x29 : gup x.2.1 27 (Int32.ofNat (e + 1)) 29 = Int32.ofNat g := xg
      simp only [mM_say, mM_say_22, hi_188_26, Option.bind_some, oc, if_true, hi_188_27, xe, if_neg n3, hr_188_28, hb_208 c3, hp_188_27, n_succ, r_give hb, x29]
    · refine ⟨⟨T.hn, T.un, T.xn, T.ob, T.hm, T.um, T.xm, T.bs, T.b8, T.hp, T.up, T.xp, T.pa, T.pb, T.hq, T.uq, T.xq, T.ho, T.fo⟩, W.oc, W.o2, fun _ => by omega, fun _ => by omega, fun _ => rfl, fun _ => rfl, fun _ i hi => ?_, fun _ => rfl, fun _ => rfl, fun _ => pl_give hb (by omega) (W.pl h0)⟩
      show gup x.2.2.2.2.2.2.2.2.2.2.2.2.2.1 e v i = gup u.2.2.2.2.2.2.2.2.2.2.1 e v i ∧ ∃ j, j < 256 ∧ gup u.2.2.2.2.2.2.2.2.2.2.1 e v i = Int32.ofNat j
      by_cases c : i = e
      · subst c; rw [gup_eq, gup_eq]; exact ⟨rfl, hv⟩
      · rw [gup_ne c, gup_ne c]; exact W.dr h0 i (by omega)
  · obtain rfl : e = 300 := by omega
    refine ⟨((u.1, u.2.1, u.2.2.1, u.2.2.2.1, u.2.2.2.2.1, u.2.2.2.2.2.1, u.2.2.2.2.2.2.1, u.2.2.2.2.2.2.2.1, gup (gup u.2.2.2.2.2.2.2.2.1 2 (Int32.ofNat (g + 1))) 4 1, u.2.2.2.2.2.2.2.2.2.1, u.2.2.2.2.2.2.2.2.2.2.1, gup u.2.2.2.2.2.2.2.2.2.2.2.1 b (Int32.ofNat g), u.2.2.2.2.2.2.2.2.2.2.2.2.1, u.2.2.2.2.2.2.2.2.2.2.2.2.2.1, u.2.2.2.2.2.2.2.2.2.2.2.2.2.2) : gU), ((x.1, gup (gup x.2.1 26 1) 29 (Int32.ofNat (g + 1)), x.2.2.1, x.2.2.2.1, x.2.2.2.2.1, x.2.2.2.2.2.1, x.2.2.2.2.2.2.1, x.2.2.2.2.2.2.2.1, x.2.2.2.2.2.2.2.2.1, x.2.2.2.2.2.2.2.2.2.1, x.2.2.2.2.2.2.2.2.2.2.1, x.2.2.2.2.2.2.2.2.2.2.2.1, x.2.2.2.2.2.2.2.2.2.2.2.2.1, x.2.2.2.2.2.2.2.2.2.2.2.2.2.1, gup x.2.2.2.2.2.2.2.2.2.2.2.2.2.2.1 b (Int32.ofNat g), x.2.2.2.2.2.2.2.2.2.2.2.2.2.2.2) : gX), 300, fun y o z => ?_, fun y o z => ?_, ?_, fun h => absurd h d10, rfl, rfl, rfl, rfl, rfl, rfl, rfl, rfl, rfl⟩
    · have h0' : gup u.2.2.2.2.2.2.2.2.1 2 (Int32.ofNat (g + 1)) 4 = 0 := h0
      simp only [k_give hb, Option.bind_some, ug, n_succ, cW_writeByte, hi_169_4, h0', if_true, hr_169_0, ho_170, cB_append, hi_170_1, de, if_neg (show ¬ Int32.ofNat 300 < 300 by decide), hp_169_4]
    · have x29 : gup x.2.1 26 1 29 = Int32.ofNat g := xg
      simp only [mM_say, mM_say_22, hi_188_26, Option.bind_some, oc, if_true, hi_188_27, xe, show Int32.ofNat 300 = (300 : Int32) from rfl, hp_188_26, gup_eq, if_neg d10, r_give hb, x29, n_succ]
    · exact ⟨⟨T.hn, T.un, T.xn, T.ob, T.hm, T.um, T.xm, T.bs, T.b8, T.hp, T.up, T.xp, T.pa, T.pb, T.hq, T.uq, T.xq, T.ho, T.fo⟩, rfl, Or.inr (Or.inl rfl), fun h => absurd h d10, fun h => absurd h d10, fun h => absurd h d10, fun h => absurd h d10, fun h => absurd h d10, fun h => absurd h d10, fun h => absurd h d10, fun h => absurd h d10⟩
/-- the reference piles a list, a map or a set up -/
theorem r_tail {D b s c : Nat} (hb : b < 32) (hD : D < 14) (h18 : x.2.1 18 = Int32.ofNat D) (hs : s = 1 ∨ s = 2 ∨ s = 3) (hc : (x.1 b).2.2.2.2.2.1 = Int32.ofNat c) (h8 : c ≤ 8) : mM_sayObject_120 (some 188) (Int32.ofNat b) (Int32.ofNat s) (gH u x o z) = some (gH u ((x.1, gup x.2.1 18 (Int32.ofNat (D + 1)), x.2.2.1, x.2.2.2.1, x.2.2.2.2.1, x.2.2.2.2.2.1, gup x.2.2.2.2.2.2.1 D (Int32.ofNat b), gup x.2.2.2.2.2.2.2.1 D 0, gup x.2.2.2.2.2.2.2.2.1 D (Int32.ofNat (if s = 2 then 2 * c else c)), x.2.2.2.2.2.2.2.2.2.1, x.2.2.2.2.2.2.2.2.2.2.1, x.2.2.2.2.2.2.2.2.2.2.2.1, x.2.2.2.2.2.2.2.2.2.2.2.2.1, x.2.2.2.2.2.2.2.2.2.2.2.2.2.1, x.2.2.2.2.2.2.2.2.2.2.2.2.2.2.1, x.2.2.2.2.2.2.2.2.2.2.2.2.2.2.2) : gX) o z) := by
  have s4 : ¬ Int32.ofNat s = 4 := by rcases hs with rfl | rfl | rfl <;> decide
  have s0 : ¬ Int32.ofNat s = 0 := by rcases hs with rfl | rfl | rfl <;> decide
  have t210 : mM_sayObject_210 (some 188) (Int32.ofNat b) (Int32.ofNat s) (gH u x o z) = some (gH u ((x.1, gup x.2.1 18 (Int32.ofNat (D + 1)), x.2.2.1, x.2.2.2.1, x.2.2.2.2.1, x.2.2.2.2.2.1, gup x.2.2.2.2.2.2.1 D (Int32.ofNat b), gup x.2.2.2.2.2.2.2.1 D 0, gup x.2.2.2.2.2.2.2.2.1 D (Int32.ofNat (if s = 2 then 2 * c else c)), x.2.2.2.2.2.2.2.2.2.1, x.2.2.2.2.2.2.2.2.2.2.1, x.2.2.2.2.2.2.2.2.2.2.2.1, x.2.2.2.2.2.2.2.2.2.2.2.2.1, x.2.2.2.2.2.2.2.2.2.2.2.2.2.1, x.2.2.2.2.2.2.2.2.2.2.2.2.2.2.1, x.2.2.2.2.2.2.2.2.2.2.2.2.2.2.2) : gX) o z) := by
    unfold mM_sayObject_210
    by_cases s2 : s = 2
    · subst s2
      have e2 : (2 : Int32) * Int32.ofNat c = Int32.ofNat (2 * c) := by rw [Int32.ofNat_mul]; rfl
      simp only [show Int32.ofNat 2 = (2 : Int32) from rfl, if_true, hr_188_3, Option.bind_some, ha_190 hb, hc, e2, mM_sayObject_234, ho_188, r_push hD h18]
    · have s2' : ¬ Int32.ofNat s = 2 := fun q => s2 ((n_eq (m := 2) (by omega) (by omega)).mp q)
      simp only [if_neg s2', if_neg s2, hr_188_3, Option.bind_some, ha_190 hb, hc, mM_sayObject_234, ho_188, r_push hD h18]
  have t158 : mM_sayObject_158 (some 188) (Int32.ofNat b) (Int32.ofNat s) (gH u x o z) = mM_sayObject_210 (some 188) (Int32.ofNat b) (Int32.ofNat s) (gH u x o z) := by
    unfold mM_sayObject_158
    rw [if_neg s4, mM_sayObject_165, hr_188_3, Option.bind_some, ha_190 hb, Option.bind_some, if_neg s0]
    split <;> rfl
  unfold mM_sayObject_120
  rw [mM_sayObject_122, hr_188_3, Option.bind_some, ha_190 hb, Option.bind_some, if_neg s4, ← t210, ← t158]
  split <;> rfl
/-- the reference keeps a record's keys and piles it up -/
theorem r_keysL {D b c : Nat} (hb : b < 32) (hD : D < 13) (hc6 : c ≤ 6) : ∀ (r i f : Nat) (x : gX), i + r = c → x.2.1 18 = Int32.ofNat D → (x.1 b).2.2.2.2.2.1 = Int32.ofNat c → ∃ h, (∀ y o z, mM_sayObject_165 (f + r + 1) (some 188) (Int32.ofNat b) 0 (Int32.ofNat i) (gH y x o z) = some (gH y ((x.1, gup x.2.1 18 (Int32.ofNat (D + 1)), x.2.2.1, x.2.2.2.1, x.2.2.2.2.1, x.2.2.2.2.2.1, gup x.2.2.2.2.2.2.1 D (Int32.ofNat b), gup x.2.2.2.2.2.2.2.1 D 0, gup x.2.2.2.2.2.2.2.2.1 D (Int32.ofNat c), h, x.2.2.2.2.2.2.2.2.2.2.1, x.2.2.2.2.2.2.2.2.2.2.2.1, x.2.2.2.2.2.2.2.2.2.2.2.2.1, x.2.2.2.2.2.2.2.2.2.2.2.2.2.1, x.2.2.2.2.2.2.2.2.2.2.2.2.2.2.1, x.2.2.2.2.2.2.2.2.2.2.2.2.2.2.2) : gX) o z)) ∧ (∀ j, j < 6 * D → h j = x.2.2.2.2.2.2.2.2.2.1 j) ∧ (∀ j, j < i → h (6 * D + j) = x.2.2.2.2.2.2.2.2.2.1 (6 * D + j)) ∧ ∀ j, i ≤ j → j < c → h (6 * D + j) = (x.1 b).2.1 j := by
  intro r
  induction r with
  | zero =>
    intro i f x h h18 hc
    refine ⟨x.2.2.2.2.2.2.2.2.2.1, fun y o z => ?_, fun _ _ => rfl, fun _ _ => rfl, fun j h1 h2 => by omega⟩
    rw [mM_sayObject_165, hr_188_3, Option.bind_some, ha_190 hb, Option.bind_some, hc, if_neg (n_nltl (by omega) (by omega) (by omega))]
    simp only [mM_sayObject_210, show ¬ (0 : Int32) = 2 by decide, if_false, hr_188_3, Option.bind_some, ha_190 hb, hc, mM_sayObject_234, ho_188, r_push (show D < 14 by omega) h18]
  | succ r ih =>
    intro i f x h h18 hc
    have i8 : i < 8 := by omega
    obtain ⟨h2, k1, k2, k3, k4⟩ := ih (i + 1) f ((x.1, x.2.1, x.2.2.1, x.2.2.2.1, x.2.2.2.2.1, x.2.2.2.2.2.1, x.2.2.2.2.2.2.1, x.2.2.2.2.2.2.2.1, x.2.2.2.2.2.2.2.2.1, gup x.2.2.2.2.2.2.2.2.2.1 (6 * D + i) ((x.1 b).2.1 i), x.2.2.2.2.2.2.2.2.2.2.1, x.2.2.2.2.2.2.2.2.2.2.2.1, x.2.2.2.2.2.2.2.2.2.2.2.2.1, x.2.2.2.2.2.2.2.2.2.2.2.2.2.1, x.2.2.2.2.2.2.2.2.2.2.2.2.2.2.1, x.2.2.2.2.2.2.2.2.2.2.2.2.2.2.2) : gX) (by omega) h18 hc
    refine ⟨h2, fun y o z => ?_, fun j hj => (k2 j hj).trans (gup_ne (by omega)), fun j hj => (k3 j (by omega)).trans (gup_ne (by omega)), fun j j1 j2 => ?_⟩
    · rw [show f + (r + 1) + 1 = (f + r + 1) + 1 by omega, mM_sayObject_165, hr_188_3, Option.bind_some, ha_190 hb, Option.bind_some, hc, if_pos (n_ltl (by omega) (by omega) (by omega)), if_pos rfl]
      simp only [hr_188_22, hi_188_18, hr_188_6, Option.bind_some, h18, n_8, n_6, ha_193 hb i8, hb_204 (show 6 * D + i < 84 by omega), n_succ]
      exact k1 y o z
    · by_cases e : j = i
      · subst e
        exact (k3 j (by omega)).trans gup_eq
      · exact k4 j (by omega) j2
theorem r_keys {D b c : Nat} (hb : b < 32) (hD : D < 13) (hc6 : c ≤ 6) (h18 : x.2.1 18 = Int32.ofNat D) (hc : (x.1 b).2.2.2.2.2.1 = Int32.ofNat c) : ∃ h, (∀ y o z, mM_sayObject_120 (some 188) (Int32.ofNat b) 0 (gH y x o z) = some (gH y ((x.1, gup x.2.1 18 (Int32.ofNat (D + 1)), x.2.2.1, x.2.2.2.1, x.2.2.2.2.1, x.2.2.2.2.2.1, gup x.2.2.2.2.2.2.1 D (Int32.ofNat b), gup x.2.2.2.2.2.2.2.1 D 0, gup x.2.2.2.2.2.2.2.2.1 D (Int32.ofNat c), h, x.2.2.2.2.2.2.2.2.2.2.1, x.2.2.2.2.2.2.2.2.2.2.2.1, x.2.2.2.2.2.2.2.2.2.2.2.2.1, x.2.2.2.2.2.2.2.2.2.2.2.2.2.1, x.2.2.2.2.2.2.2.2.2.2.2.2.2.2.1, x.2.2.2.2.2.2.2.2.2.2.2.2.2.2.2) : gX) o z)) ∧ (∀ j, j < 6 * D → h j = x.2.2.2.2.2.2.2.2.2.1 j) ∧ ∀ j, j < c → h (6 * D + j) = (x.1 b).2.1 j := by
  obtain ⟨h, k1, k2, k3, k4⟩ := r_keysL (D := D) hb hD hc6 c 0 (1000000000000000 - c - 1) x (by omega) h18 hc
  rw [show 1000000000000000 - c - 1 + c + 1 = 1000000000000000 by omega] at k1
  refine ⟨h, fun y o z => ?_, k2, fun j hj => k4 j (by omega) hj⟩
  have n4 : ¬ (0 : Int32) = 4 := by decide
  unfold mM_sayObject_120
  rw [mM_sayObject_122, hr_188_3, Option.bind_some, ha_190 hb, Option.bind_some, if_neg n4]
  rw [ite_self]
  unfold mM_sayObject_158
  rw [if_neg n4]
  exact k1 y o z
end H
