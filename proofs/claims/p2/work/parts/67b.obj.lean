/-! an object, written -/
section H
variable {n m p q e g : Nat} {F : gWf} {u : gU} {x : gX}
/-- what the object's case must give -/
def gOb (n m p q D B e g : Nat) (u : gU) (x : gX) (A : gx_H → Option gx_H) (M : gx_H → Option gx_H) : Prop := ∃ u' x1 x', (∀ y o z, A (gH u y o z) = some (gH u' y o z)) ∧ (∀ y o z, M (gH y x o z) = some (gH y x1 o z)) ∧ gRun B x1 x' ∧ gEnd n m p q D e g u x u' x' ∧ (u'.2.2.2.2.2.2.2.2.1 4 = 0 → x'.2.1 18 = Int32.ofNat D)
theorem gOb_by {D B e' : Nat} {A M : gx_H → Option gx_H} {u' : gU} {x' : gX} (h : gBy u u' x x') (W : gW n m p q e' g u' x') (he : u'.2.2.2.2.2.2.2.2.1 4 = 0 → e ≤ e') (h18 : x.2.1 18 = Int32.ofNat D) (hA : ∀ y o z, A (gH u y o z) = some (gH u' y o z)) (hM : ∀ y o z, M (gH y x o z) = some (gH y x' o z)) : gOb n m p q D B e g u x A M :=
  ⟨u', x', x', hA, hM, gRun_mono gRun_refl (by omega), gEnd_by h W he, fun _ => (h.b188 18 (by omega) (by omega)).trans h18⟩
theorem gOb_bad {D B : Nat} {A M : gx_H → Option gx_H} (W : gW n m p q e g u x) (hA : ∀ y o z, A (gH u y o z) = some (gH ((u.1, u.2.1, u.2.2.1, u.2.2.2.1, u.2.2.2.2.1, u.2.2.2.2.2.1, u.2.2.2.2.2.2.1, u.2.2.2.2.2.2.2.1, gup u.2.2.2.2.2.2.2.2.1 4 1, u.2.2.2.2.2.2.2.2.2.1, u.2.2.2.2.2.2.2.2.2.2.1, u.2.2.2.2.2.2.2.2.2.2.2.1, u.2.2.2.2.2.2.2.2.2.2.2.2.1, u.2.2.2.2.2.2.2.2.2.2.2.2.2.1, u.2.2.2.2.2.2.2.2.2.2.2.2.2.2) : gU) y o z)) (hM : ∀ y o z, M (gH y x o z) = some (gH y ((x.1, gup x.2.1 26 1, x.2.2.1, x.2.2.2.1, x.2.2.2.2.1, x.2.2.2.2.2.1, x.2.2.2.2.2.2.1, x.2.2.2.2.2.2.2.1, x.2.2.2.2.2.2.2.2.1, x.2.2.2.2.2.2.2.2.2.1, x.2.2.2.2.2.2.2.2.2.2.1, x.2.2.2.2.2.2.2.2.2.2.2.1, x.2.2.2.2.2.2.2.2.2.2.2.2.1, x.2.2.2.2.2.2.2.2.2.2.2.2.2.1, x.2.2.2.2.2.2.2.2.2.2.2.2.2.2.1, x.2.2.2.2.2.2.2.2.2.2.2.2.2.2.2) : gX) o z)) : gOb n m p q D B e g u x A M :=
  ⟨_, _, _, hA, hM, gRun_mono gRun_refl (by omega), ⟨e, g, gW_bad W (Or.inl rfl), fun h => absurd h (show ¬ (1 : Int32) = 0 by decide), ⟨fun _ _ => rfl, fun _ => rfl, fun _ _ => rfl, fun _ _ => ⟨rfl, rfl, rfl⟩, fun _ _ => rfl, rfl⟩⟩, fun h => absurd h (show ¬ (1 : Int32) = 0 by decide)⟩
/-- the frame of a mark -/
theorem gFr_mark {D : Nat} {u1 : gU} {x1 : gX} (h1 : u1.1 = u.1) (h2 : u1.2.2.2.2.2.2.2.2.2.2.2.2.2.1 = u.2.2.2.2.2.2.2.2.2.2.2.2.2.1) (h3 : x1.2.2.2.2.2.2.1 = x.2.2.2.2.2.2.1) (h4 : x1.2.2.2.2.2.2.2.1 = x.2.2.2.2.2.2.2.1) (h5 : x1.2.2.2.2.2.2.2.2.1 = x.2.2.2.2.2.2.2.2.1) (h6 : x1.2.2.2.2.2.2.2.2.2.1 = x.2.2.2.2.2.2.2.2.2.1) (h7 : u1.2.2.2.2.2.2.1 = u.2.2.2.2.2.2.1) : gFr D u u1 x x1 :=
  ⟨fun _ _ => by rw [h2], fun _ => by rw [h1], fun _ _ => by rw [h1], fun _ _ => by rw [h3, h4, h5]; exact ⟨rfl, rfl, rfl⟩, fun _ _ => by rw [h6], h7⟩
theorem gFr_push {D : Nat} {x2 : gX} {a w h : Nat → Int32} {b c d : Int32} (hx : ∀ j, j < 6 * D → h j = x2.2.2.2.2.2.2.2.2.2.1 j) (hw : w = x2.2.1) : gFr D u u x2 ((x2.1, a, x2.2.2.1, x2.2.2.2.1, x2.2.2.2.2.1, x2.2.2.2.2.2.1, gup x2.2.2.2.2.2.2.1 D b, gup x2.2.2.2.2.2.2.2.1 D c, gup x2.2.2.2.2.2.2.2.2.1 D d, h, x2.2.2.2.2.2.2.2.2.2.2.1, x2.2.2.2.2.2.2.2.2.2.2.2.1, x2.2.2.2.2.2.2.2.2.2.2.2.2.1, x2.2.2.2.2.2.2.2.2.2.2.2.2.2.1, x2.2.2.2.2.2.2.2.2.2.2.2.2.2.2.1, x2.2.2.2.2.2.2.2.2.2.2.2.2.2.2.2) : gX) :=
  ⟨fun _ _ => rfl, fun _ => rfl, fun _ _ => rfl, fun i hi => ⟨gup_ne (by omega), gup_ne (by omega), gup_ne (by omega)⟩, hx, rfl⟩
/-- lists, maps and sets: their mark, their count, what is in them -/
theorem w_many {D B b s c : Nat} (hD : D + 1 ≤ 12) (hn : n ≤ 32) (hbn : b < n) (ih : gIH n m p q (D + 1) B F) (dead : gDead F) (W : gW n m p q e g u x) (h0 : u.2.2.2.2.2.2.2.2.1 4 = 0) (hlt : g < e) (h18 : x.2.1 18 = Int32.ofNat D) (hs : s = 1 ∨ s = 2 ∨ s = 3) (O : gO n s c (u.1 b) (x.1 b)) : gOb n m p q D (8 * (B + 1) + 1) e g u x (fun h => (cW_givePlace (some 169) (Int32.ofNat b) h).bind fun h26 => cW_writeParts F (some 169) (some 1) (some 165) (some (3 + 5 * b)) (Int32.ofNat (D + 1)) h26) (fun h => mM_sayObject_33 (some 188) (Int32.ofNat b) (Int32.ofNat s) h) := by
  have hb : b < 32 := by omega
  have c8 : c ≤ 8 := gcap8 O.c8
  have f6 : (u.1 b).2.2.2.2.1 6 = 0 := (O.d4).resolve_right (fun h => absurd h.2 (by rcases hs with q | q | q <;> rw [q] <;> decide))
  have hD14 : D < 14 := by omega
  have e8 : (8 : Int32) + Int32.ofNat s = Int32.ofNat (8 + s) := n_add (a := 8)
  have s5 : ¬ Int32.ofNat s = 5 := by rcases hs with rfl | rfl | rfl <;> decide
  have s6 : ¬ Int32.ofNat s = 6 := by rcases hs with rfl | rfl | rfl <;> decide
  have s0 : ¬ Int32.ofNat s = 0 := by rcases hs with rfl | rfl | rfl <;> decide
  obtain ⟨u1, x1, e1, a1, a2, a3, a4, a5, a6, a7, a8, a9, a10, a11, a12, a13⟩ := w_mark (b := b) (v := Int32.ofNat (8 + s)) W h0 hlt hb ⟨8 + s, by omega, rfl⟩
  obtain ⟨u2, x2, e2, b1, b2, b3, b4, b5⟩ := w_byte (b := Int32.ofNat c) a3 ⟨c, by omega, rfl⟩
  have Cu : u2.1 = u.1 := b5.bC.trans a5
  have Rx : x2.1 = x.1 := b5.bR.trans a7
  have p18 : x2.2.1 18 = Int32.ofNat D := (b5.b188 18 (by omega) (by omega)).trans (a8.trans h18)
  have F2 : gFr D u u2 x x2 := gFr_trans (gFr_mark a5 a6 a9 a10 a11 a12 a13) (gFr_by (D := D) b5) (Nat.le_refl _)
  have ct2 : (x2.1 b).2.2.2.2.2.1 = Int32.ofNat c := by rw [Rx]; exact O.ep f6
  have rf : ∀ y o z, mM_sayObject_33 (some 188) (Int32.ofNat b) (Int32.ofNat s) (gH y x o z) = some (gH y ((x2.1, gup x2.2.1 18 (Int32.ofNat (D + 1)), x2.2.2.1, x2.2.2.2.1, x2.2.2.2.2.1, x2.2.2.2.2.2.1, gup x2.2.2.2.2.2.2.1 D (Int32.ofNat b), gup x2.2.2.2.2.2.2.2.1 D 0, gup x2.2.2.2.2.2.2.2.2.1 D (Int32.ofNat (if s = 2 then 2 * c else c)), x2.2.2.2.2.2.2.2.2.2.1, x2.2.2.2.2.2.2.2.2.2.2.1, x2.2.2.2.2.2.2.2.2.2.2.2.1, x2.2.2.2.2.2.2.2.2.2.2.2.2.1, x2.2.2.2.2.2.2.2.2.2.2.2.2.2.1, x2.2.2.2.2.2.2.2.2.2.2.2.2.2.2.1, x2.2.2.2.2.2.2.2.2.2.2.2.2.2.2.2) : gX) o z) := by
    intro y o z
    have q2 := a2 y o z
    have ct1 : (x1.1 b).2.2.2.2.2.1 = Int32.ofNat c := by rw [a7]; exact O.ep f6
    obtain ⟨h3, hh1, hh2⟩ := Option.bind_eq_some_iff.mp q2
    simp only [mM_sayObject_33, ho_188, Option.bind_some, e8, hh1, if_neg s5]
    have i3 : gv_is h3 (some 188) 7 = some 188 := by
      have := W.T
      revert hh1
      intro hh1
      obtain ⟨u', x', e', k1, k2, k3, k4, k5⟩ := w_byte (b := Int32.ofNat (8 + s)) W ⟨8 + s, by omega, rfl⟩
      rw [k2] at hh1
      cases hh1
      exact ho_188
    rw [i3, Option.bind_some, hh2, Option.bind_some, if_neg s6, if_neg s0]
    simp only [hr_188_3, Option.bind_some, ha_190 hb, ct1, ho_188, b2, r_tail hb hD14 p18 hs ct2 c8]
  have Wp : gW n m p q e2 (g + 1) u2 ((x2.1, gup x2.2.1 18 (Int32.ofNat (D + 1)), x2.2.2.1, x2.2.2.2.1, x2.2.2.2.2.1, x2.2.2.2.2.2.1, gup x2.2.2.2.2.2.2.1 D (Int32.ofNat b), gup x2.2.2.2.2.2.2.2.1 D 0, gup x2.2.2.2.2.2.2.2.2.1 D (Int32.ofNat (if s = 2 then 2 * c else c)), x2.2.2.2.2.2.2.2.2.2.1, x2.2.2.2.2.2.2.2.2.2.2.1, x2.2.2.2.2.2.2.2.2.2.2.2.1, x2.2.2.2.2.2.2.2.2.2.2.2.2.1, x2.2.2.2.2.2.2.2.2.2.2.2.2.2.1, x2.2.2.2.2.2.2.2.2.2.2.2.2.2.2.1, x2.2.2.2.2.2.2.2.2.2.2.2.2.2.2.2) : gX) := gW_x b3 rfl (fun i h => gup_ne h) rfl rfl rfl rfl rfl rfl
  have Fp : gFr D u u2 x ((x2.1, gup x2.2.1 18 (Int32.ofNat (D + 1)), x2.2.2.1, x2.2.2.2.1, x2.2.2.2.2.1, x2.2.2.2.2.2.1, gup x2.2.2.2.2.2.2.1 D (Int32.ofNat b), gup x2.2.2.2.2.2.2.2.1 D 0, gup x2.2.2.2.2.2.2.2.2.1 D (Int32.ofNat (if s = 2 then 2 * c else c)), x2.2.2.2.2.2.2.2.2.2.1, x2.2.2.2.2.2.2.2.2.2.2.1, x2.2.2.2.2.2.2.2.2.2.2.2.1, x2.2.2.2.2.2.2.2.2.2.2.2.2.1, x2.2.2.2.2.2.2.2.2.2.2.2.2.2.1, x2.2.2.2.2.2.2.2.2.2.2.2.2.2.2.1, x2.2.2.2.2.2.2.2.2.2.2.2.2.2.2.2) : gX) := gFr_trans F2 (gFr_push (w := x2.2.1) (fun _ _ => rfl) rfl) (Nat.le_refl _)
  have cnt : u2.2.2.2.2.2.2.2.2.1 4 = 0 → e2 = e + 2 := fun q => by
    have q1 := gBy_0 b5 q
    have := a4 q1
    have := b4 q
    omega
  have ends : ∀ (u' : gU) (x' : gX), gEnd n m p q D e2 (g + 1) u2 ((x2.1, gup x2.2.1 18 (Int32.ofNat (D + 1)), x2.2.2.1, x2.2.2.2.1, x2.2.2.2.2.1, x2.2.2.2.2.2.1, gup x2.2.2.2.2.2.2.1 D (Int32.ofNat b), gup x2.2.2.2.2.2.2.2.1 D 0, gup x2.2.2.2.2.2.2.2.2.1 D (Int32.ofNat (if s = 2 then 2 * c else c)), x2.2.2.2.2.2.2.2.2.2.1, x2.2.2.2.2.2.2.2.2.2.2.1, x2.2.2.2.2.2.2.2.2.2.2.2.1, x2.2.2.2.2.2.2.2.2.2.2.2.2.1, x2.2.2.2.2.2.2.2.2.2.2.2.2.2.1, x2.2.2.2.2.2.2.2.2.2.2.2.2.2.2.1, x2.2.2.2.2.2.2.2.2.2.2.2.2.2.2.2) : gX) u' x' → gEnd n m p q D e g u x u' x' := fun u' x' E => gEnd_trans (fun q => ⟨h0, by have := cnt q; omega, by have := cnt q; omega⟩) Fp E (Nat.le_refl _)
  have cl : ∀ y o z, ((cW_givePlace (some 169) (Int32.ofNat b) (gH u y o z)).bind fun h26 => cW_writeParts F (some 169) (some 1) (some 165) (some (3 + 5 * b)) (Int32.ofNat (D + 1)) h26) = (if s = 1 then cW_writeList_11 F 1000000000000000 (some 169) (some 1) (some 165) (some (3 + 5 * b)) (Int32.ofNat (D + 1)) 0 (gH u2 y o z) else if s = 2 then cW_writeMap_11 F 1000000000000000 (some 169) (some 1) (some 165) (some (3 + 5 * b)) (Int32.ofNat (D + 1)) 0 (gH u2 y o z) else cW_writeSet_11 F 1000000000000000 (some 169) (some 1) (some 165) (some (3 + 5 * b)) (Int32.ofNat (D + 1)) 0 (gH u2 y o z)) := by
    intro y o z
    have q1 := a1 y o z
    rw [k_give hb, Option.bind_some] at q1 ⊢
    have es1 : (u1.1 b).2.2.2.2.1 4 = Int32.ofNat s := by rw [a5]; exact O.es
    have ec1 : (u1.1 b).2.2.2.2.1 5 = Int32.ofNat c := by rw [a5]; exact O.ec
    simp only [cW_writeParts, hiT_4 hb, O.es, Option.bind_some, ho_169, e8, q1, es1]
    rcases hs with rfl | rfl | rfl
    · simp only [show ¬ Int32.ofNat 1 = (0 : Int32) by decide, show Int32.ofNat 1 = (1 : Int32) from rfl, if_false, if_true, cW_writeList, hiT_5 hb, ec1, Option.bind_some, ho_169, b1]
      exact Option.bind_fun_some _
    · simp only [show Int32.ofNat 2 = (2 : Int32) from rfl, show ¬ (2 : Int32) = 0 by decide, show ¬ (2 : Int32) = 1 by decide, show ¬ (2 : Nat) = 1 by omega, if_false, if_true, cW_writeMap, hiT_5 hb, ec1, Option.bind_some, ho_169, b1]
      exact Option.bind_fun_some _
    · simp only [show Int32.ofNat 3 = (3 : Int32) from rfl, show ¬ (3 : Int32) = 0 by decide, show ¬ (3 : Int32) = 1 by decide, show ¬ (3 : Int32) = 2 by decide, show ¬ (3 : Nat) = 1 by omega, show ¬ (3 : Nat) = 2 by omega, if_false, if_true, cW_writeSet, hiT_5 hb, ec1, Option.bind_some, ho_169, b1]
      exact Option.bind_fun_some _
  have g1e : u2.2.2.2.2.2.2.2.2.1 4 = 0 → g + 1 < e2 := fun q => by have := cnt q; omega
  rcases hs with rfl | rfl | rfl
  · obtain ⟨u', x', k1, k2, k3, k4⟩ := w_listL (B := B) hD hbn hn ih dead c8 c 0 (1000000000000000 - c - 1) u2 _ e2 (g + 1) (by omega) Wp (fun q => ⟨g1e q, rfl, by show gup _ _ _ _ = _; rw [gup_eq], by show gup _ _ _ _ = _; rw [gup_eq]; rfl, by show gup _ _ _ _ = _; rw [gup_eq]; rfl⟩) (by rw [Cu]; exact O.es) (by rw [Cu]; exact O.ec)
    rw [show 1000000000000000 - c - 1 + c + 1 = 1000000000000000 by omega] at k1
    exact ⟨u', _, x', fun y o z => ((cl y o z).trans (if_pos rfl)).trans (k1 y o z), rf, gRun_mono k2 (by have := Nat.mul_le_mul_right (B + 1) c8; omega), ends u' x' k3, k4⟩
  · have c4 : c ≤ 4 := O.c8
    obtain ⟨u', x', k1, k2, k3, k4⟩ := w_mapL (B := B) hD hbn hn ih dead c4 c 0 (1000000000000000 - c - 1) u2 _ e2 (g + 1) (by omega) Wp (fun q => ⟨g1e q, rfl, by show gup _ _ _ _ = _; rw [gup_eq], by show gup _ _ _ _ = _; rw [gup_eq]; rfl, by show gup _ _ _ _ = _; rw [gup_eq]; rfl⟩) (by rw [Cu]; exact O.es) (by rw [Cu]; exact O.ec)
    rw [show 1000000000000000 - c - 1 + c + 1 = 1000000000000000 by omega] at k1
    exact ⟨u', _, x', fun y o z => (((cl y o z).trans (if_neg (by decide))).trans (if_pos rfl)).trans (k1 y o z), rf, gRun_mono k2 (by have := Nat.mul_le_mul_right (2 * (B + 1)) c4; omega), ends u' x' k3, k4⟩
  · obtain ⟨u', x', k1, k2, k3, k4⟩ := w_setL (B := B) hD hbn hn ih dead c8 c 0 (1000000000000000 - c - 1) u2 _ e2 (g + 1) (by omega) Wp (fun q => ⟨g1e q, rfl, by show gup _ _ _ _ = _; rw [gup_eq], by show gup _ _ _ _ = _; rw [gup_eq]; rfl, by show gup _ _ _ _ = _; rw [gup_eq]; rfl⟩) (by rw [Cu]; exact O.es) (by rw [Cu]; exact O.ec)
    rw [show 1000000000000000 - c - 1 + c + 1 = 1000000000000000 by omega] at k1
    exact ⟨u', _, x', fun y o z => (((cl y o z).trans (if_neg (by decide))).trans (if_neg (by decide))).trans (k1 y o z), rf, gRun_mono k2 (by have := Nat.mul_le_mul_right (B + 1) c8; omega), ends u' x' k3, k4⟩
end H
