/-! write -/
section H
variable {n m p q e g : Nat} {u : gU} {x : gX}
theorem w_start (W : gW n m p q 0 0 u x) (c0 : u.2.2.2.2.2.2.2.2.1 4 = 0) : ∃ u' x', (∀ y o z, cW_writeByte (some 169) 15 (gH u y o z) = some (gH u' y o z)) ∧ (∀ y o z, mM_say (some 188) 15 (gH y x o z) = some (gH y x' o z)) ∧ gW n m p q 1 0 u' x' ∧ u'.2.2.2.2.2.2.2.2.1 4 = 0 ∧ gBy u u' x x' := by
  have d10 : ¬ (1 : Int32) = 0 := by decide
  have de := W.dE c0
  have xe := W.xe c0
  have oc : x.2.1 26 = 0 := W.oc.trans c0
  have B : gBy u ((u.1, u.2.1, u.2.2.1, u.2.2.2.1, u.2.2.2.2.1, u.2.2.2.2.2.1, u.2.2.2.2.2.2.1, u.2.2.2.2.2.2.2.1, u.2.2.2.2.2.2.2.2.1, gup u.2.2.2.2.2.2.2.2.2.1 1 (Int32.ofNat (0 + 1)), gup u.2.2.2.2.2.2.2.2.2.2.1 0 15, u.2.2.2.2.2.2.2.2.2.2.2.1, u.2.2.2.2.2.2.2.2.2.2.2.2.1, u.2.2.2.2.2.2.2.2.2.2.2.2.2.1, u.2.2.2.2.2.2.2.2.2.2.2.2.2.2) : gU) x ((x.1, gup x.2.1 27 (Int32.ofNat (0 + 1)), x.2.2.1, x.2.2.2.1, x.2.2.2.2.1, x.2.2.2.2.2.1, x.2.2.2.2.2.2.1, x.2.2.2.2.2.2.2.1, x.2.2.2.2.2.2.2.2.1, x.2.2.2.2.2.2.2.2.2.1, x.2.2.2.2.2.2.2.2.2.2.1, x.2.2.2.2.2.2.2.2.2.2.2.1, x.2.2.2.2.2.2.2.2.2.2.2.2.1, gup x.2.2.2.2.2.2.2.2.2.2.2.2.2.1 0 15, x.2.2.2.2.2.2.2.2.2.2.2.2.2.2.1, x.2.2.2.2.2.2.2.2.2.2.2.2.2.2.2) : gX) :=
    ⟨rfl, rfl, rfl, rfl, rfl, rfl, rfl, rfl, rfl, rfl, rfl, rfl, rfl, fun i _ h => gup_ne h, rfl, rfl, rfl, rfl, rfl, rfl, rfl, rfl, rfl, fun h => absurd c0 h⟩
  refine ⟨((u.1, u.2.1, u.2.2.1, u.2.2.2.1, u.2.2.2.2.1, u.2.2.2.2.2.1, u.2.2.2.2.2.2.1, u.2.2.2.2.2.2.2.1, u.2.2.2.2.2.2.2.2.1, gup u.2.2.2.2.2.2.2.2.2.1 1 (Int32.ofNat (0 + 1)), gup u.2.2.2.2.2.2.2.2.2.2.1 0 15, u.2.2.2.2.2.2.2.2.2.2.2.1, u.2.2.2.2.2.2.2.2.2.2.2.2.1, u.2.2.2.2.2.2.2.2.2.2.2.2.2.1, u.2.2.2.2.2.2.2.2.2.2.2.2.2.2) : gU), ((x.1, gup x.2.1 27 (Int32.ofNat (0 + 1)), x.2.2.1, x.2.2.2.1, x.2.2.2.2.1, x.2.2.2.2.2.1, x.2.2.2.2.2.2.1, x.2.2.2.2.2.2.2.1, x.2.2.2.2.2.2.2.2.1, x.2.2.2.2.2.2.2.2.2.1, x.2.2.2.2.2.2.2.2.2.2.1, x.2.2.2.2.2.2.2.2.2.2.2.1, x.2.2.2.2.2.2.2.2.2.2.2.2.1, gup x.2.2.2.2.2.2.2.2.2.2.2.2.2.1 0 15, x.2.2.2.2.2.2.2.2.2.2.2.2.2.2.1, x.2.2.2.2.2.2.2.2.2.2.2.2.2.2.2) : gX), fun y o z => ?_, fun y o z => ?_, ?_, c0, B⟩
  · simp only [cW_writeByte, hi_169_4, Option.bind_some, c0, if_true, hr_169_0, ho_170, cB_append, hi_170_1, de, if_pos (show Int32.ofNat 0 < 300 by decide), hr_170_0, hb_171 (show 0 < 300 by omega), hp_170_1, n_succ, if_neg d10]
  · simp only [mM_say, mM_say_22, hi_188_26, Option.bind_some, oc, if_true, hi_188_27, xe, if_neg (show ¬ Int32.ofNat 0 = 300 by decide), hr_188_28, hb_208 (show 0 < 300 by omega), hp_188_27, n_succ]
  · refine ⟨gT_by W.T B, W.oc, W.o2, fun _ => by omega, fun _ => by omega, fun _ => rfl, fun _ => rfl, fun _ i hi => ?_, W.ug, W.xg, W.pl⟩
    obtain rfl : i = 0 := by omega
    exact ⟨rfl, 15, by omega, rfl⟩
/-- write is refused, or a getter throws: nothing but what is passed changes -/
theorem w_refuse {k v c : Int32} {u0 u' : gU} {x0 x' : gX} {o : Nat → Int64} {z : gx_H} (T : gTi n m p q u' x') (hc : c = 1 ∨ c = 2) (hx : x'.2.1 26 = c) (h1 : ∀ y o z, cW_run (some 169) (some 1) (some 165) k v (gH u0 y o z) = some (c, gH u' y o z)) (h2 : ∀ y o z, mM_write (some 188) k v (gH y x0 o z) = mM_write_194 (some 188) (gH y x' o z)) : gAns u0 x0 o z (lw_write (some 0) k v (some 211)) (mM_write (some 188) k v) := by
  have nc : ¬ c = 0 := by rcases hc with h | h <;> rw [h] <;> decide
  have ref : ∀ y o z, mM_write (some 188) k v (gH y x0 o z) = some (0, gH y ((x'.1, gup (gup x'.2.1 10 0) 0 c, x'.2.2.1, x'.2.2.2.1, x'.2.2.2.2.1, x'.2.2.2.2.2.1, x'.2.2.2.2.2.2.1, x'.2.2.2.2.2.2.2.1, x'.2.2.2.2.2.2.2.2.1, x'.2.2.2.2.2.2.2.2.2.1, x'.2.2.2.2.2.2.2.2.2.2.1, x'.2.2.2.2.2.2.2.2.2.2.2.1, x'.2.2.2.2.2.2.2.2.2.2.2.2.1, x'.2.2.2.2.2.2.2.2.2.2.2.2.2.1, x'.2.2.2.2.2.2.2.2.2.2.2.2.2.2.1, x'.2.2.2.2.2.2.2.2.2.2.2.2.2.2.2) : gX) o z) := by
    intro y o z
    have e1 : gup x'.2.1 10 0 26 = c := hx
    have e2 : gup (gup x'.2.1 10 0) 0 c 26 = c := hx
    rw [h2]
    simp only [mM_write_194, hp_188_10, Option.bind_some, hi_188_26, e1, hp_188_0, e2, if_neg nc]
  have tt : gTT ((u'.1, u'.2.1, u'.2.2.1, u'.2.2.2.1, u'.2.2.2.2.1, gup u'.2.2.2.2.2.1 1 0, u'.2.2.2.2.2.2.1, u'.2.2.2.2.2.2.2.1, u'.2.2.2.2.2.2.2.2.1, u'.2.2.2.2.2.2.2.2.2.1, u'.2.2.2.2.2.2.2.2.2.2.1, u'.2.2.2.2.2.2.2.2.2.2.2.1, u'.2.2.2.2.2.2.2.2.2.2.2.2.1, u'.2.2.2.2.2.2.2.2.2.2.2.2.2.1, u'.2.2.2.2.2.2.2.2.2.2.2.2.2.2) : gU) ((x'.1, gup (gup x'.2.1 10 0) 0 c, x'.2.2.1, x'.2.2.2.1, x'.2.2.2.2.1, x'.2.2.2.2.2.1, x'.2.2.2.2.2.2.1, x'.2.2.2.2.2.2.2.1, x'.2.2.2.2.2.2.2.2.1, x'.2.2.2.2.2.2.2.2.2.1, x'.2.2.2.2.2.2.2.2.2.2.1, x'.2.2.2.2.2.2.2.2.2.2.2.1, x'.2.2.2.2.2.2.2.2.2.2.2.2.1, x'.2.2.2.2.2.2.2.2.2.2.2.2.2.1, x'.2.2.2.2.2.2.2.2.2.2.2.2.2.2.1, x'.2.2.2.2.2.2.2.2.2.2.2.2.2.2.2) : gX) := ⟨n, m, 0, q, T.hn, T.un, T.xn, T.ob, T.hm, T.um, T.xm, T.bs, T.b8, by omega, rfl, rfl, fun i hi => by omega, fun i hi => by omega, T.hq, T.uq, T.xq, T.ho, T.fo⟩
  rcases hc with rfl | rfl
  · refine ⟨1, ((u'.1, u'.2.1, u'.2.2.1, u'.2.2.2.1, u'.2.2.2.2.1, gup u'.2.2.2.2.2.1 1 0, u'.2.2.2.2.2.2.1, u'.2.2.2.2.2.2.2.1, u'.2.2.2.2.2.2.2.2.1, u'.2.2.2.2.2.2.2.2.2.1, u'.2.2.2.2.2.2.2.2.2.2.1, u'.2.2.2.2.2.2.2.2.2.2.2.1, u'.2.2.2.2.2.2.2.2.2.2.2.2.1, u'.2.2.2.2.2.2.2.2.2.2.2.2.2.1, u'.2.2.2.2.2.2.2.2.2.2.2.2.2.2) : gU), o, z ++ [(8, [])], 0, _, ?_, ref _ _ _, rfl, fun q => absurd q (by decide), tt, by simp⟩
    simp only [lw_write, ho_0, Option.bind_some, cG_write, hr_0_3, hr_0_0, hr_0_2, ho_169, h1, if_neg nc, cG_write_47, hp_165_1, if_true, hl, hthr, hexc] <;> rfl
  · refine ⟨2, ((u'.1, u'.2.1, u'.2.2.1, u'.2.2.2.1, u'.2.2.2.2.1, gup u'.2.2.2.2.2.1 1 0, u'.2.2.2.2.2.2.1, u'.2.2.2.2.2.2.2.1, u'.2.2.2.2.2.2.2.2.1, u'.2.2.2.2.2.2.2.2.2.1, u'.2.2.2.2.2.2.2.2.2.2.1, u'.2.2.2.2.2.2.2.2.2.2.2.1, u'.2.2.2.2.2.2.2.2.2.2.2.2.1, u'.2.2.2.2.2.2.2.2.2.2.2.2.2.1, u'.2.2.2.2.2.2.2.2.2.2.2.2.2.2) : gU), o, z ++ [(11, [])], 0, _, ?_, ref _ _ _, rfl, fun q => absurd q (by decide), tt, by simp⟩
    simp only [lw_write, ho_0, Option.bind_some, cG_write, hr_0_3, hr_0_0, hr_0_2, ho_169, h1, if_neg nc, cG_write_47, hp_165_1, show ¬ (2 : Int32) = 1 by decide, if_false, if_true, hl, hthr, hexc] <;> rfl
theorem w_103bad {x : gX} (h : ¬ x.2.1 26 = 0) : ∀ y o z, mM_write_101 (some 188) (gH y x o z) = mM_write_194 (some 188) (gH y x o z) := by
  intro y o z
  obtain ⟨G, hG⟩ : ∃ G, 1000000000000000 = G + 1 := ⟨999999999999999, rfl⟩
  unfold mM_write_101
  rw [hG, mM_write_103, hi_188_10, Option.bind_some]
  have t : mM_write_147 (some 188) (gH y x o z) = mM_write_194 (some 188) (gH y x o z) := by
    unfold mM_write_147
    rw [hi_188_26, Option.bind_some, if_neg h]
  split
  · rw [hi_188_26, Option.bind_some, if_neg h, t]
  · exact t
theorem w_hand (T : gTi n m p q u x) (dis : ∀ s t, s < t → t < p → ¬ gpk u s = gpk u t) (fr : ∀ t, t < p → (u.1 (gpk u t)).2.2.2.2.1 4 = 4 ∧ (u.1 (gpk u t)).2.2.2.2.1 6 = 0) : ∃ C' R' h8 hw' x8 x9, (∀ y o z, cH_handOver (some 165) (some 1) (gH u y o z) = some (gH ((C', u.2.1, u.2.2.1, u.2.2.2.1, u.2.2.2.2.1, gup u.2.2.2.2.2.1 4 (Int32.ofNat p), u.2.2.2.2.2.2.1, h8, u.2.2.2.2.2.2.2.2.1, u.2.2.2.2.2.2.2.2.2.1, u.2.2.2.2.2.2.2.2.2.2.1, u.2.2.2.2.2.2.2.2.2.2.2.1, u.2.2.2.2.2.2.2.2.2.2.2.2.1, u.2.2.2.2.2.2.2.2.2.2.2.2.2.1, hw') : gU) y o z)) ∧ (∀ y o z, mM_handOver_10 1000000000000000 (some 188) 0 (gH y ((x.1, gup x.2.1 12 (Int32.ofNat p), x.2.2.1, x.2.2.2.1, x.2.2.2.2.1, x.2.2.2.2.2.1, x.2.2.2.2.2.2.1, x.2.2.2.2.2.2.2.1, x.2.2.2.2.2.2.2.2.1, x.2.2.2.2.2.2.2.2.2.1, x.2.2.2.2.2.2.2.2.2.2.1, x.2.2.2.2.2.2.2.2.2.2.2.1, x.2.2.2.2.2.2.2.2.2.2.2.2.1, x.2.2.2.2.2.2.2.2.2.2.2.2.2.1, x.2.2.2.2.2.2.2.2.2.2.2.2.2.2.1, x.2.2.2.2.2.2.2.2.2.2.2.2.2.2.2) : gX) o z) = some (gH y ((R', gup x.2.1 12 (Int32.ofNat p), x.2.2.1, x8, x9, x.2.2.2.2.2.1, x.2.2.2.2.2.2.1, x.2.2.2.2.2.2.2.1, x.2.2.2.2.2.2.2.2.1, x.2.2.2.2.2.2.2.2.2.1, x.2.2.2.2.2.2.2.2.2.2.1, x.2.2.2.2.2.2.2.2.2.2.2.1, x.2.2.2.2.2.2.2.2.2.2.2.2.1, x.2.2.2.2.2.2.2.2.2.2.2.2.2.1, x.2.2.2.2.2.2.2.2.2.2.2.2.2.2.1, x.2.2.2.2.2.2.2.2.2.2.2.2.2.2.2) : gX) o z)) ∧ (∀ k, k < n → ∃ s c, gO n s c (C' k) (R' k)) ∧ ∀ t, t < p → ∃ l, l ≤ 8 ∧ h8 t = Int32.ofNat l ∧ x8 t = Int32.ofNat l ∧ ∀ j, j < l → x9 (8 * t + j) = gt_w (hw' t) j := by
  have hp4 := T.hp
  obtain ⟨G, hG⟩ : ∃ G, 1000000000000000 = G + p + 1 := ⟨1000000000000000 - p - 1, by omega⟩
  obtain ⟨C', R', h8, hw', x8, x9, b1, b2, b3, b4, b5⟩ := w_handL (pk := gpk u) T.hn hp4 (fun t ht => (gpk_at T ht).1) dis p 0 G G u ((x.1, gup x.2.1 12 (Int32.ofNat p), x.2.2.1, x.2.2.2.1, x.2.2.2.2.1, x.2.2.2.2.2.1, x.2.2.2.2.2.2.1, x.2.2.2.2.2.2.2.1, x.2.2.2.2.2.2.2.2.1, x.2.2.2.2.2.2.2.2.2.1, x.2.2.2.2.2.2.2.2.2.2.1, x.2.2.2.2.2.2.2.2.2.2.2.1, x.2.2.2.2.2.2.2.2.2.2.2.2.1, x.2.2.2.2.2.2.2.2.2.2.2.2.2.1, x.2.2.2.2.2.2.2.2.2.2.2.2.2.2.1, x.2.2.2.2.2.2.2.2.2.2.2.2.2.2.2) : gX) (by omega) T.un T.up T.xp (fun t ht => (gpk_at T ht).2) T.ob (fun t _ ht => by
    obtain ⟨s, c, O⟩ := T.ob _ (gpk_at T ht).1
    obtain ⟨f1, f2⟩ := fr t ht
    have s4 : s = 4 := (n_eq (m := 4) (by have := O.s8; omega) (by omega)).mp (O.es.symm.trans f1)
    subst s4
    exact ⟨c, O, f2⟩)
  refine ⟨C', R', h8, hw', x8, x9, fun y o z => ?_, fun y o z => ?_, b3, fun t ht => b5 t (by omega) ht⟩
  · unfold cH_handOver
    rw [hG, show (0 : Int32) = Int32.ofNat 0 from rfl]
    exact b1 y o z
  · rw [hG, show (0 : Int32) = Int32.ofNat 0 from rfl]
    exact b2 y o z
theorem w_copy {t : Nat} (ht : t ≤ 300) (hx : x.2.1 27 = Int32.ofNat t) : ∃ h, (∀ y o z, mM_write_168 1000000000000000 (some 188) 0 (gH y x o z) = mM_write_194 (some 188) (gH y ((x.1, x.2.1, x.2.2.1, x.2.2.2.1, x.2.2.2.2.1, h, x.2.2.2.2.2.2.1, x.2.2.2.2.2.2.2.1, x.2.2.2.2.2.2.2.2.1, x.2.2.2.2.2.2.2.2.2.1, x.2.2.2.2.2.2.2.2.2.2.1, x.2.2.2.2.2.2.2.2.2.2.2.1, x.2.2.2.2.2.2.2.2.2.2.2.2.1, x.2.2.2.2.2.2.2.2.2.2.2.2.2.1, x.2.2.2.2.2.2.2.2.2.2.2.2.2.2.1, x.2.2.2.2.2.2.2.2.2.2.2.2.2.2.2) : gX) o z)) ∧ ∀ j, j < t → h j = x.2.2.2.2.2.2.2.2.2.2.2.2.2.1 j := by
  obtain ⟨G, hG⟩ : ∃ G, 1000000000000000 = G + t + 1 := ⟨1000000000000000 - t - 1, by omega⟩
  obtain ⟨h, k1, k2, k3⟩ := r_copyW ht t 0 G x (by omega) hx
  refine ⟨h, fun y o z => ?_, fun j hj => k3 j (by omega) hj⟩
  rw [hG, show (0 : Int32) = Int32.ofNat 0 from rfl]
  exact k1 y o z
theorem w_147 {R' : Nat → gP} {x8 x9 : Nat → Int32} {t : Nat} {y : gU} {o : Nat → Int64} {z : gx_H} (h27 : x.2.1 27 = Int32.ofNat e) (oc : x.2.1 26 = 0) (h10 : x.2.1 10 = Int32.ofNat t) {H : gx_H → Option gx_H} (hH : ∀ h, mM_handOver_10 1000000000000000 (some 188) 0 h = H h) {W8 : gx_H → Option (Int32 × gx_H)} (hW : ∀ h, mM_write_168 1000000000000000 (some 188) 0 h = W8 h) (b2 : H (gH y ((x.1, gup x.2.1 12 (Int32.ofNat t), x.2.2.1, x.2.2.2.1, x.2.2.2.2.1, x.2.2.2.2.2.1, x.2.2.2.2.2.2.1, x.2.2.2.2.2.2.2.1, x.2.2.2.2.2.2.2.2.1, x.2.2.2.2.2.2.2.2.2.1, x.2.2.2.2.2.2.2.2.2.2.1, x.2.2.2.2.2.2.2.2.2.2.2.1, x.2.2.2.2.2.2.2.2.2.2.2.2.1, x.2.2.2.2.2.2.2.2.2.2.2.2.2.1, x.2.2.2.2.2.2.2.2.2.2.2.2.2.2.1, x.2.2.2.2.2.2.2.2.2.2.2.2.2.2.2) : gX) o z) = some (gH y ((R', gup x.2.1 12 (Int32.ofNat t), x.2.2.1, x8, x9, x.2.2.2.2.2.1, x.2.2.2.2.2.2.1, x.2.2.2.2.2.2.2.1, x.2.2.2.2.2.2.2.2.1, x.2.2.2.2.2.2.2.2.2.1, x.2.2.2.2.2.2.2.2.2.2.1, x.2.2.2.2.2.2.2.2.2.2.2.1, x.2.2.2.2.2.2.2.2.2.2.2.2.1, x.2.2.2.2.2.2.2.2.2.2.2.2.2.1, x.2.2.2.2.2.2.2.2.2.2.2.2.2.2.1, x.2.2.2.2.2.2.2.2.2.2.2.2.2.2.2) : gX) o z)) : mM_write_147 (some 188) (gH y x o z) = W8 (gH y ((R', gup (gup x.2.1 12 (Int32.ofNat t)) 15 (Int32.ofNat e), x.2.2.1, x8, x9, x.2.2.2.2.2.1, x.2.2.2.2.2.2.1, x.2.2.2.2.2.2.2.1, x.2.2.2.2.2.2.2.2.1, x.2.2.2.2.2.2.2.2.2.1, x.2.2.2.2.2.2.2.2.2.2.1, x.2.2.2.2.2.2.2.2.2.2.2.1, x.2.2.2.2.2.2.2.2.2.2.2.2.1, x.2.2.2.2.2.2.2.2.2.2.2.2.2.1, x.2.2.2.2.2.2.2.2.2.2.2.2.2.2.1, x.2.2.2.2.2.2.2.2.2.2.2.2.2.2.2) : gX) o z) := by
  have e27 : gup x.2.1 12 (Int32.ofNat t) 27 = Int32.ofNat e := h27
  simp only [mM_write_147, hi_188_26, Option.bind_some, oc, if_true, ho_188, mM_handOver, hi_188_10, h10, hp_188_12, hH, b2, hi_188_27, e27, hp_188_15, hW]
theorem w_194 {t : Nat} {y : gU} {o : Nat → Int64} {z : gx_H} {w : gX} {f : Nat → Int32} (oc : f 26 = 0) (hw : w.2.1 = gup (gup f 12 (Int32.ofNat t)) 15 (Int32.ofNat e)) : mM_write_194 (some 188) (gH y w o z) = some (Int32.ofNat e, gH y ((w.1, gup (gup (gup (gup f 12 (Int32.ofNat t)) 15 (Int32.ofNat e)) 10 0) 0 0, w.2.2.1, w.2.2.2.1, w.2.2.2.2.1, w.2.2.2.2.2.1, w.2.2.2.2.2.2.1, w.2.2.2.2.2.2.2.1, w.2.2.2.2.2.2.2.2.1, w.2.2.2.2.2.2.2.2.2.1, w.2.2.2.2.2.2.2.2.2.2.1, w.2.2.2.2.2.2.2.2.2.2.2.1, w.2.2.2.2.2.2.2.2.2.2.2.2.1, w.2.2.2.2.2.2.2.2.2.2.2.2.2.1, w.2.2.2.2.2.2.2.2.2.2.2.2.2.2.1, w.2.2.2.2.2.2.2.2.2.2.2.2.2.2.2) : gX) o z) := by
  have e26 : gup (gup (gup f 12 (Int32.ofNat t)) 15 (Int32.ofNat e)) 10 0 26 = 0 := oc
  have e26' : gup (gup (gup (gup f 12 (Int32.ofNat t)) 15 (Int32.ofNat e)) 10 0) 0 0 26 = 0 := oc
  have e15 : gup (gup (gup (gup f 12 (Int32.ofNat t)) 15 (Int32.ofNat e)) 10 0) 0 0 15 = Int32.ofNat e := rfl
  simp only [mM_write_194, hp_188_10, Option.bind_some, hi_188_26, hw, e26, hp_188_0, e26', if_true, hi_188_15, e15]
theorem w_doneR {R' : Nat → gP} {x8 x9 : Nat → Int32} {t : Nat} (he : e ≤ 300) (h27 : x.2.1 27 = Int32.ofNat e) (oc : x.2.1 26 = 0) (h10 : x.2.1 10 = Int32.ofNat t) (b2 : ∀ y o z, mM_handOver_10 1000000000000000 (some 188) 0 (gH y ((x.1, gup x.2.1 12 (Int32.ofNat t), x.2.2.1, x.2.2.2.1, x.2.2.2.2.1, x.2.2.2.2.2.1, x.2.2.2.2.2.2.1, x.2.2.2.2.2.2.2.1, x.2.2.2.2.2.2.2.2.1, x.2.2.2.2.2.2.2.2.2.1, x.2.2.2.2.2.2.2.2.2.2.1, x.2.2.2.2.2.2.2.2.2.2.2.1, x.2.2.2.2.2.2.2.2.2.2.2.2.1, x.2.2.2.2.2.2.2.2.2.2.2.2.2.1, x.2.2.2.2.2.2.2.2.2.2.2.2.2.2.1, x.2.2.2.2.2.2.2.2.2.2.2.2.2.2.2) : gX) o z) = some (gH y ((R', gup x.2.1 12 (Int32.ofNat t), x.2.2.1, x8, x9, x.2.2.2.2.2.1, x.2.2.2.2.2.2.1, x.2.2.2.2.2.2.2.1, x.2.2.2.2.2.2.2.2.1, x.2.2.2.2.2.2.2.2.2.1, x.2.2.2.2.2.2.2.2.2.2.1, x.2.2.2.2.2.2.2.2.2.2.2.1, x.2.2.2.2.2.2.2.2.2.2.2.2.1, x.2.2.2.2.2.2.2.2.2.2.2.2.2.1, x.2.2.2.2.2.2.2.2.2.2.2.2.2.2.1, x.2.2.2.2.2.2.2.2.2.2.2.2.2.2.2) : gX) o z)) : ∃ hb, (∀ y o z, mM_write_147 (some 188) (gH y x o z) = some (Int32.ofNat e, gH y ((R', gup (gup (gup (gup x.2.1 12 (Int32.ofNat t)) 15 (Int32.ofNat e)) 10 0) 0 0, x.2.2.1, x8, x9, hb, x.2.2.2.2.2.2.1, x.2.2.2.2.2.2.2.1, x.2.2.2.2.2.2.2.2.1, x.2.2.2.2.2.2.2.2.2.1, x.2.2.2.2.2.2.2.2.2.2.1, x.2.2.2.2.2.2.2.2.2.2.2.1, x.2.2.2.2.2.2.2.2.2.2.2.2.1, x.2.2.2.2.2.2.2.2.2.2.2.2.2.1, x.2.2.2.2.2.2.2.2.2.2.2.2.2.2.1, x.2.2.2.2.2.2.2.2.2.2.2.2.2.2.2) : gX) o z)) ∧ ∀ j, j < e → hb j = x.2.2.2.2.2.2.2.2.2.2.2.2.2.1 j := by
  obtain ⟨hb, c1, c3⟩ := w_copy (x := ((R', gup (gup x.2.1 12 (Int32.ofNat t)) 15 (Int32.ofNat e), x.2.2.1, x8, x9, x.2.2.2.2.2.1, x.2.2.2.2.2.2.1, x.2.2.2.2.2.2.2.1, x.2.2.2.2.2.2.2.2.1, x.2.2.2.2.2.2.2.2.2.1, x.2.2.2.2.2.2.2.2.2.2.1, x.2.2.2.2.2.2.2.2.2.2.2.1, x.2.2.2.2.2.2.2.2.2.2.2.2.1, x.2.2.2.2.2.2.2.2.2.2.2.2.2.1, x.2.2.2.2.2.2.2.2.2.2.2.2.2.2.1, x.2.2.2.2.2.2.2.2.2.2.2.2.2.2.2) : gX)) he h27
  exact ⟨hb, fun y o z => (w_147 h27 oc h10 (fun _ => rfl) (fun _ => rfl) (b2 y o z)).trans ((c1 y o z).trans (w_194 oc rfl)), c3⟩
theorem w_doneC {k v : Int32} {u0 : gU} {C' : Nat → gQ} {h8 : Nat → Int32} {hw' : Nat → Int64} {o : Nat → Int64} {z : gx_H} {y : gX} {t : Nat} (he : e ≤ 300) (de : u.2.2.2.2.2.2.2.2.2.1 1 = Int32.ofNat e) (b1 : ∀ y o z, cH_handOver (some 165) (some 1) (gH u y o z) = some (gH ((C', u.2.1, u.2.2.1, u.2.2.2.1, u.2.2.2.2.1, gup u.2.2.2.2.2.1 4 (Int32.ofNat t), u.2.2.2.2.2.2.1, h8, u.2.2.2.2.2.2.2.2.1, u.2.2.2.2.2.2.2.2.2.1, u.2.2.2.2.2.2.2.2.2.2.1, u.2.2.2.2.2.2.2.2.2.2.2.1, u.2.2.2.2.2.2.2.2.2.2.2.2.1, u.2.2.2.2.2.2.2.2.2.2.2.2.2.1, hw') : gU) y o z)) (h1 : ∀ y o z, cW_run (some 169) (some 1) (some 165) k v (gH u0 y o z) = some (0, gH u y o z)) : lw_write (some 0) k v (some 211) (gH u0 y o z) = some (0, gH ((C', u.2.1, u.2.2.1, gup u.2.2.2.1 1 (Int32.ofNat e), fun i => if i < e then u.2.2.2.2.2.2.2.2.2.2.1 i else u.2.2.2.2.1 i, gup (gup u.2.2.2.2.2.1 4 (Int32.ofNat t)) 1 0, u.2.2.2.2.2.2.1, h8, u.2.2.2.2.2.2.2.2.1, u.2.2.2.2.2.2.2.2.2.1, u.2.2.2.2.2.2.2.2.2.2.1, u.2.2.2.2.2.2.2.2.2.2.2.1, u.2.2.2.2.2.2.2.2.2.2.2.2.1, u.2.2.2.2.2.2.2.2.2.2.2.2.2.1, hw') : gU) y (gup o 0 (Int32.toInt64 (Int32.ofNat e))) z) := by
  simp only [lw_write, ho_0, Option.bind_some, cG_write, hr_0_3, hr_0_0, hr_0_2, ho_169, h1, if_true, ho_165, b1, hr_0_1, hr_169_0, ho_163, cB_becomeLike, hr_170_0, hr_163_0, hi_170_1, de, hb_like he, hp_163_1, cG_write_47, hp_165_1, show ¬ (0 : Int32) = 1 by decide, show ¬ (0 : Int32) = 2 by decide, if_false, hi_163_1, gup_eq, hb0]
/-- write is done -/
theorem w_done {k v : Int32} {u0 : gU} {x0 : gX} {o : Nat → Int64} {z : gx_H} (W : gW n m p q e g u x) (h0 : u.2.2.2.2.2.2.2.2.1 4 = 0) (dis : ∀ s t, s < t → t < p → ¬ gpk u s = gpk u t) (fr : ∀ t, t < p → (u.1 (gpk u t)).2.2.2.2.1 4 = 4 ∧ (u.1 (gpk u t)).2.2.2.2.1 6 = 0) (h1 : ∀ y o z, cW_run (some 169) (some 1) (some 165) k v (gH u0 y o z) = some (0, gH u y o z)) (h2 : ∀ y o z, mM_write (some 188) k v (gH y x0 o z) = mM_write_147 (some 188) (gH y x o z)) : gAns u0 x0 o z (lw_write (some 0) k v (some 211)) (mM_write (some 188) k v) := by
  have T := W.T
  have hp4 := T.hp
  have he := W.he h0
  obtain ⟨C', R', h8, hw', x8, x9, b1, b2, b3, b5⟩ := w_hand T dis fr
  obtain ⟨hb, c1, c3⟩ := w_doneR he (W.xe h0) (W.oc.trans h0) T.xp b2
  refine ⟨0, _, _, z, Int32.ofNat e, _, w_doneC he (W.dE h0) b1 h1, (h2 _ _ _).trans (c1 _ _ _), rfl, fun _ => rfl, ⟨n, e, 0, p, ?_⟩, by omega⟩
  refine ⟨T.hn, T.un, T.xn, b3, he, rfl, rfl, fun i hi => ?_, fun i hi => ?_, by omega, rfl, rfl, fun i hi => by omega, fun i hi => by omega, hp4, rfl, rfl, b5, T.fo⟩
  · show hb i = if i < e then u.2.2.2.2.2.2.2.2.2.2.1 i else u.2.2.2.2.1 i
    rw [if_pos hi, c3 i hi]
    exact (W.dr h0 i hi).1
  · show ∃ b, b < 256 ∧ (if i < e then u.2.2.2.2.2.2.2.2.2.2.1 i else u.2.2.2.2.1 i) = Int32.ofNat b
    rw [if_pos hi]
    exact (W.dr h0 i hi).2
theorem gBd_lt : gBd 12 + 1 < 1000000000000000 := by decide
theorem t_write {k v : Int32} {o : Nat → Int64} {z : gx_H} (h : gTT u x) : gAns u x o z (lw_write (some 0) k v (some 211)) (mM_write (some 188) k v) := by
  obtain ⟨n, m, p, q, T⟩ := h
  have d10 : ¬ (1 : Int32) = 0 := by decide
  obtain ⟨r, r1, r2, r3, r4⟩ := v_eq (u := ((u.1, u.2.1, u.2.2.1, u.2.2.2.1, u.2.2.2.2.1, u.2.2.2.2.2.1, u.2.2.2.2.2.2.1, u.2.2.2.2.2.2.2.1, gup u.2.2.2.2.2.2.2.2.1 2 0, gup u.2.2.2.2.2.2.2.2.2.1 1 0, u.2.2.2.2.2.2.2.2.2.2.1, gfl u.2.2.2.2.2.2.2.2.2.2.2.1 0, u.2.2.2.2.2.2.2.2.2.2.2.2.1, u.2.2.2.2.2.2.2.2.2.2.2.2.2.1, u.2.2.2.2.2.2.2.2.2.2.2.2.2.2) : gU)) (k := k) (v := v) T.un T.xn T.hn
  have T0 : gTi n m p q ((u.1, u.2.1, u.2.2.1, u.2.2.2.1, u.2.2.2.2.1, u.2.2.2.2.2.1, u.2.2.2.2.2.2.1, u.2.2.2.2.2.2.2.1, gup u.2.2.2.2.2.2.2.2.1 2 0, gup u.2.2.2.2.2.2.2.2.2.1 1 0, u.2.2.2.2.2.2.2.2.2.2.1, gfl u.2.2.2.2.2.2.2.2.2.2.2.1 0, u.2.2.2.2.2.2.2.2.2.2.2.2.1, u.2.2.2.2.2.2.2.2.2.2.2.2.2.1, u.2.2.2.2.2.2.2.2.2.2.2.2.2.2) : gU) x := ⟨T.hn, T.un, T.xn, T.ob, T.hm, T.um, T.xm, T.bs, T.b8, T.hp, T.up, T.xp, T.pa, T.pb, T.hq, T.uq, T.xq, T.ho, T.fo⟩
  obtain ⟨a, a1, a2, a3⟩ := k_freeAll T0
  obtain ⟨b, b1, b2, b3⟩ := k_twice T0
  obtain ⟨c, c1, c2, c3⟩ := r_can T0
  have run : ∀ y o z, cW_run (some 169) (some 1) (some 165) k v (gH u y o z) = cW_run_80 (some 169) (some 1) (some 165) k v (some 169) (if r = 1 ∧ a = 1 ∧ b = 1 then 0 else 1) (gH ((u.1, u.2.1, u.2.2.1, u.2.2.2.1, u.2.2.2.2.1, u.2.2.2.2.2.1, u.2.2.2.2.2.2.1, u.2.2.2.2.2.2.2.1, gup u.2.2.2.2.2.2.2.2.1 2 0, gup u.2.2.2.2.2.2.2.2.2.1 1 0, u.2.2.2.2.2.2.2.2.2.2.1, gfl u.2.2.2.2.2.2.2.2.2.2.2.1 0, u.2.2.2.2.2.2.2.2.2.2.2.2.1, u.2.2.2.2.2.2.2.2.2.2.2.2.2.1, u.2.2.2.2.2.2.2.2.2.2.2.2.2.2) : gU) y o z) := by
    intro y o z
    obtain ⟨G, hG⟩ : ∃ G, 1000000000000000 = G + 32 + 1 := ⟨999999999999967, rfl⟩
    simp only [cW_run, hr_169_0, Option.bind_some, hp_170_1, hp_169_2]
    rw [hG, show (0 : Int32) = Int32.ofNat 0 from rfl, k_fillW 32 0 G _ (by omega), cW_run_16, if_neg (show ¬ Int32.ofNat 32 < 32 by decide)]
    have rr := r2 y o z
    have aa := a1 y o z
    have bb := b1 y o z
    rw [show (0 : Int32) = Int32.ofNat 0 from rfl] at rr aa bb
    simp only [ho_1, Option.bind_some, rr, ho_165, aa, bb, cW_run_66, cW_run_67]
    rcases r1 with h | h <;> rcases a2 with h' | h' <;> rcases b2 with h'' | h'' <;> simp [h, h', h'']
  have ref : ∀ y o z, mM_write (some 188) k v (gH y x o z) = mM_write_22 (some 188) k v (some 188) (if r = 1 ∧ a = 1 ∧ b = 1 then 0 else 1) (gH y x o z) := by
    intro y o z
    have cab : c = 1 ↔ a = 1 ∧ b = 1 := ⟨fun q => ⟨a3.mpr fun t ht => (c3.mp q t ht).1, b3.mpr fun t ht => (c3.mp q t ht).2⟩, fun q => c3.mpr fun t ht => ⟨a3.mp q.1 t ht, b3.mp q.2 t ht⟩⟩
    simp only [mM_write, ho_188, Option.bind_some, r3, c1, mM_write_21]
    rcases r1 with hr | hr
    · simp [hr]
    · rcases c2 with hc | hc
      · have : ¬ (a = 1 ∧ b = 1) := fun q => by rw [cab.mpr q] at hc; exact absurd hc (by decide)
        simp [hr, hc, this]
      · have := cab.mp hc
        simp [hr, hc, this.1, this.2]
  have ref2 : ∀ (s : Int32) y o z, mM_write_22 (some 188) k v (some 188) s (gH y x o z) = (if s = 0 then (mM_say (some 188) 15 (gH y ((x.1, gup (gup (gup (gup x.2.1 26 s) 27 0) 29 0) 18 0, x.2.2.1, x.2.2.2.1, x.2.2.2.2.1, x.2.2.2.2.2.1, x.2.2.2.2.2.2.1, x.2.2.2.2.2.2.2.1, x.2.2.2.2.2.2.2.2.1, x.2.2.2.2.2.2.2.2.2.1, x.2.2.2.2.2.2.2.2.2.2.1, x.2.2.2.2.2.2.2.2.2.2.2.1, x.2.2.2.2.2.2.2.2.2.2.2.2.1, x.2.2.2.2.2.2.2.2.2.2.2.2.2.1, gfl x.2.2.2.2.2.2.2.2.2.2.2.2.2.2.1 0, x.2.2.2.2.2.2.2.2.2.2.2.2.2.2.2) : gX) o z)).bind fun h8 => (gv_is h8 (some 188) 7).bind fun _ => (mM_sayValue (some 188) k v h8).bind fun h11 => mM_write_80 1000000000000000 (some 188) h11 else mM_write_80 1000000000000000 (some 188) (gH y ((x.1, gup (gup (gup (gup x.2.1 26 s) 27 0) 29 0) 18 0, x.2.2.1, x.2.2.2.1, x.2.2.2.2.1, x.2.2.2.2.2.1, x.2.2.2.2.2.2.1, x.2.2.2.2.2.2.2.1, x.2.2.2.2.2.2.2.2.1, x.2.2.2.2.2.2.2.2.2.1, x.2.2.2.2.2.2.2.2.2.2.1, x.2.2.2.2.2.2.2.2.2.2.2.1, x.2.2.2.2.2.2.2.2.2.2.2.2.1, x.2.2.2.2.2.2.2.2.2.2.2.2.2.1, gfl x.2.2.2.2.2.2.2.2.2.2.2.2.2.2.1 0, x.2.2.2.2.2.2.2.2.2.2.2.2.2.2.2) : gX) o z)) := by
    intro s y o z
    obtain ⟨G, hG⟩ : ∃ G, 1000000000000000 = G + 32 + 1 := ⟨999999999999967, rfl⟩
    simp only [mM_write_22, hp_188_26, hp_188_27, hp_188_29, hp_188_18, Option.bind_some]
    rw [show mM_write_42 1000000000000000 (some 188) k v 0 = mM_write_42 (G + 32 + 1) (some 188) k v (Int32.ofNat 0) from by rw [hG]; rfl, r_fillW 32 0 G _ (by omega), mM_write_42, if_neg (show ¬ Int32.ofNat 32 < 32 by decide)]
    have e26 : gup (gup (gup (gup x.2.1 26 s) 27 0) 29 0) 18 0 26 = s := rfl
    simp only [hi_188_26, Option.bind_some, e26, ho_188]
  by_cases ok : r = 1 ∧ a = 1 ∧ b = 1
  · rw [if_pos ok] at run ref
    obtain ⟨ok1, ok2, ok3⟩ := ok
    have W1 : gW n m p q 0 0 ((u.1, u.2.1, u.2.2.1, u.2.2.2.1, u.2.2.2.2.1, u.2.2.2.2.2.1, u.2.2.2.2.2.2.1, u.2.2.2.2.2.2.2.1, gup (gup u.2.2.2.2.2.2.2.2.1 2 0) 4 0, gup u.2.2.2.2.2.2.2.2.2.1 1 0, u.2.2.2.2.2.2.2.2.2.2.1, gfl u.2.2.2.2.2.2.2.2.2.2.2.1 0, u.2.2.2.2.2.2.2.2.2.2.2.2.1, u.2.2.2.2.2.2.2.2.2.2.2.2.2.1, u.2.2.2.2.2.2.2.2.2.2.2.2.2.2) : gU) ((x.1, gup (gup (gup (gup x.2.1 26 0) 27 0) 29 0) 18 0, x.2.2.1, x.2.2.2.1, x.2.2.2.2.1, x.2.2.2.2.2.1, x.2.2.2.2.2.2.1, x.2.2.2.2.2.2.2.1, x.2.2.2.2.2.2.2.2.1, x.2.2.2.2.2.2.2.2.2.1, x.2.2.2.2.2.2.2.2.2.2.1, x.2.2.2.2.2.2.2.2.2.2.2.1, x.2.2.2.2.2.2.2.2.2.2.2.2.1, x.2.2.2.2.2.2.2.2.2.2.2.2.2.1, gfl x.2.2.2.2.2.2.2.2.2.2.2.2.2.2.1 0, x.2.2.2.2.2.2.2.2.2.2.2.2.2.2.2) : gX) := by
      refine ⟨⟨T.hn, T.un, T.xn, T.ob, T.hm, T.um, T.xm, T.bs, T.b8, T.hp, T.up, T.xp, T.pa, T.pb, T.hq, T.uq, T.xq, T.ho, T.fo⟩, rfl, Or.inl rfl, fun _ => by omega, fun _ => by omega, fun _ => rfl, fun _ => rfl, fun _ i hi => by omega, fun _ => rfl, fun _ => rfl, fun _ i hi => ?_⟩
      show gfl x.2.2.2.2.2.2.2.2.2.2.2.2.2.2.1 0 i = gfl u.2.2.2.2.2.2.2.2.2.2.2.1 0 i ∧ (gfl u.2.2.2.2.2.2.2.2.2.2.2.1 0 i = -1 ∨ _)
      unfold gfl
      rw [if_pos ⟨by omega, hi⟩, if_pos ⟨by omega, hi⟩]
      exact ⟨rfl, Or.inl rfl⟩
    obtain ⟨u2, x2, s1, s2, W2, o2, B2⟩ := w_start W1 rfl
    obtain ⟨u3, x3, x4, k1, k2, ⟨K, kK, k3⟩, ⟨e4, g4, l1, l2, l3⟩, k5⟩ := w_val 12 0 7 (by omega) u2 x2 1 0 k v W2 o2 (by omega) ((B2.b188 18 (by omega) (by omega)).trans rfl) (r4 ok1)
    have T3 := l1.T
    have pa3 : u3.2.2.2.2.2.2.1 = u.2.2.2.2.2.2.1 := l3.fpa.trans B2.u6
    have pk3 : ∀ t, gpk u3 t = gpk u t := fun t => by unfold gpk; rw [pa3]
    have so3 : ∀ j, (u3.1 j).2.2.2.2.1 4 = (u.1 j).2.2.2.2.1 4 := fun j => (l3.so j).trans (by rw [B2.bC])
    have dis : ∀ s t, s < t → t < p → ¬ gpk u3 s = gpk u3 t := by
      intro s t st tp eq
      rw [pk3, pk3] at eq
      have h1 := b3.mp ok3 t tp
      have hs := gpk_at T0 (show s < p by omega)
      have ht := gpk_at T0 tp
      have e1 : u.2.2.2.2.2.2.1 s = u.2.2.2.2.2.2.1 t := (hs.2.1).trans ((congrArg Int32.ofNat eq).trans ht.2.1.symm)
      have hp4 := T.hp
      cases hf : gfi (fun j => decide (u.2.2.2.2.2.2.1 j = u.2.2.2.2.2.2.1 t)) p 0 with
      | none =>
        have := gfi_none _ _ hf s (by omega) (by omega)
        simp [e1] at this
      | some j =>
        have h1' : gio (gfi (fun j => decide (u.2.2.2.2.2.2.1 j = u.2.2.2.2.2.2.1 t)) p 0) = Int32.ofNat t := h1
        rw [hf] at h1'
        have jt : j = t := (n_eq (by have := (gfi_some _ _ _ hf).2.1; omega) (by omega)).mp h1'
        subst jt
        have := (gfi_some _ _ _ hf).2.2.2 s (by omega) st
        simp [e1] at this
    have w80 : ∀ y o z, mM_write_80 1000000000000000 (some 188) (gH y x3 o z) = mM_write_101 (some 188) (gH y x4 o z) := by
      intro y o z
      have lt := gBd_lt
      obtain ⟨N, hN⟩ : ∃ N, 1000000000000000 = N + 1 + K := ⟨1000000000000000 - 1 - K, by omega⟩
      rw [hN, k3, mM_write_80, hi_188_26, Option.bind_some]
      by_cases c0 : u3.2.2.2.2.2.2.2.2.1 4 = 0
      · rw [if_pos (l1.oc.trans c0), hi_188_18, Option.bind_some, k5 c0, if_neg (show ¬ (0 : Int32) < Int32.ofNat 0 by decide)]
      · rw [if_neg (fun q => c0 (l1.oc.symm.trans q))]
    have refv : ∀ y o z, mM_write (some 188) k v (gH y x o z) = mM_write_101 (some 188) (gH y x4 o z) := by
      intro y o z
      rw [ref, ref2, if_pos rfl, s2, Option.bind_some, ho_188, Option.bind_some, k2, Option.bind_some, w80]
    have cls : ∀ y o z, cW_run (some 169) (some 1) (some 165) k v (gH u y o z) = (if u3.2.2.2.2.2.2.2.2.1 4 = 0 then (cH_areFreeBuffers (some 165) (some 1) (gH u3 y o z)).bind fun v11 => if v11 = 0 then (gv_pV (gH u3 y o z) (some 169) 5 4 (.int 1)).bind fun h13 => (gv_gI h13 (some 169) 5 4).bind fun v14 => some (v14, h13) else some (u3.2.2.2.2.2.2.2.2.1 4, gH u3 y o z) else some (u3.2.2.2.2.2.2.2.2.1 4, gH u3 y o z)) := by
      intro y o z
      have q1 := s1 y o z
      have q2 := k1 y o z
      rw [run]
      simp only [cW_run_80, hp_169_4, Option.bind_some, ho_169, q1]
      have q2' : cW_writeValue 20 (some 169) (some 1) (some 165) k v 1 (gH u2 y o z) = some (gH u3 y o z) := q2
      simp only [q2', Option.bind_some, hi_169_4, hp_169_4, ho_165]
    by_cases c0 : u3.2.2.2.2.2.2.2.2.1 4 = 0
    · obtain ⟨a', f1, f2, f3⟩ := k_freeAll T3
      obtain ⟨w, w1, w2, w3⟩ := r_103L T3 p 0 (1000000000000000 - p - 1) x4.2.1 (by omega) (fun _ _ => rfl) (l1.oc.trans c0)
      have hp4 := T.hp
      rw [show 1000000000000000 - p - 1 + p + 1 = 1000000000000000 by omega] at w3
      have aw : a' = 1 ↔ w = 0 := by
        rw [f3, w2]
        refine ⟨fun q t _ ht => (q t ht).2, fun q t ht => ⟨?_, q t (by omega) ht⟩⟩
        rw [so3, pk3]
        exact ((a3.mp ok2) t ht).1
      rcases f2 with fa | fa
      · have w1' : w = 1 := by rcases w1 with h | h; rw [aw.mpr h] at fa; exact absurd fa (by decide); exact h
        subst fa w1'
        refine w_refuse (u' := ((u3.1, u3.2.1, u3.2.2.1, u3.2.2.2.1, u3.2.2.2.2.1, u3.2.2.2.2.2.1, u3.2.2.2.2.2.2.1, u3.2.2.2.2.2.2.2.1, gup u3.2.2.2.2.2.2.2.2.1 4 1, u3.2.2.2.2.2.2.2.2.2.1, u3.2.2.2.2.2.2.2.2.2.2.1, u3.2.2.2.2.2.2.2.2.2.2.2.1, u3.2.2.2.2.2.2.2.2.2.2.2.2.1, u3.2.2.2.2.2.2.2.2.2.2.2.2.2.1, u3.2.2.2.2.2.2.2.2.2.2.2.2.2.2) : gU)) (x' := ((x4.1, gup x4.2.1 26 1, x4.2.2.1, x4.2.2.2.1, x4.2.2.2.2.1, x4.2.2.2.2.2.1, x4.2.2.2.2.2.2.1, x4.2.2.2.2.2.2.2.1, x4.2.2.2.2.2.2.2.2.1, x4.2.2.2.2.2.2.2.2.2.1, x4.2.2.2.2.2.2.2.2.2.2.1, x4.2.2.2.2.2.2.2.2.2.2.2.1, x4.2.2.2.2.2.2.2.2.2.2.2.2.1, x4.2.2.2.2.2.2.2.2.2.2.2.2.2.1, x4.2.2.2.2.2.2.2.2.2.2.2.2.2.2.1, x4.2.2.2.2.2.2.2.2.2.2.2.2.2.2.2) : gX)) (c := 1) (gW_bad l1 (Or.inl rfl)).T (Or.inl rfl) rfl (fun y o z => ?_) (fun y o z => ?_)
        · rw [cls, if_pos c0, f1, Option.bind_some, if_pos rfl, hp_169_4, Option.bind_some, hi_169_4]
          rfl
        · rw [refv]
          refine (w3 y o z).trans ?_
          simp only [mM_write_147, hi_188_26, Option.bind_some, gup_eq, if_neg d10]
      · have w0 := aw.mp fa
        subst fa w0
        refine w_done (u := u3) (x := x4) l1 c0 dis (f3.mp rfl) (fun y o z => ?_) (fun y o z => ?_)
        · rw [cls, if_pos c0, f1, Option.bind_some, if_neg d10, c0]
        · rw [refv]
          refine (w3 y o z).trans ?_
          rw [gup_same (l1.oc.trans c0)]
    · have oc4 : ¬ x4.2.1 26 = 0 := fun q => c0 (l1.oc.symm.trans q)
      refine w_refuse (u' := u3) (x' := x4) (c := u3.2.2.2.2.2.2.2.2.1 4) T3 ?_ l1.oc (fun y o z => ?_) (fun y o z => ?_)
      · rcases l1.o2 with h | h | h
        · exact absurd h c0
        · exact Or.inl h
        · exact Or.inr h
      · rw [cls, if_neg c0]
      · rw [refv, w_103bad oc4]
  · rw [if_neg ok] at run ref
    have T1 : gTi n m p q ((u.1, u.2.1, u.2.2.1, u.2.2.2.1, u.2.2.2.2.1, u.2.2.2.2.2.1, u.2.2.2.2.2.2.1, u.2.2.2.2.2.2.2.1, gup (gup u.2.2.2.2.2.2.2.2.1 2 0) 4 1, gup u.2.2.2.2.2.2.2.2.2.1 1 0, u.2.2.2.2.2.2.2.2.2.2.1, gfl u.2.2.2.2.2.2.2.2.2.2.2.1 0, u.2.2.2.2.2.2.2.2.2.2.2.2.1, u.2.2.2.2.2.2.2.2.2.2.2.2.2.1, u.2.2.2.2.2.2.2.2.2.2.2.2.2.2) : gU) ((x.1, gup (gup (gup (gup x.2.1 26 1) 27 0) 29 0) 18 0, x.2.2.1, x.2.2.2.1, x.2.2.2.2.1, x.2.2.2.2.2.1, x.2.2.2.2.2.2.1, x.2.2.2.2.2.2.2.1, x.2.2.2.2.2.2.2.2.1, x.2.2.2.2.2.2.2.2.2.1, x.2.2.2.2.2.2.2.2.2.2.1, x.2.2.2.2.2.2.2.2.2.2.2.1, x.2.2.2.2.2.2.2.2.2.2.2.2.1, x.2.2.2.2.2.2.2.2.2.2.2.2.2.1, gfl x.2.2.2.2.2.2.2.2.2.2.2.2.2.2.1 0, x.2.2.2.2.2.2.2.2.2.2.2.2.2.2.2) : gX) := ⟨T.hn, T.un, T.xn, T.ob, T.hm, T.um, T.xm, T.bs, T.b8, T.hp, T.up, T.xp, T.pa, T.pb, T.hq, T.uq, T.xq, T.ho, T.fo⟩
    refine w_refuse (c := 1) T1 (Or.inl rfl) rfl (fun y o z => ?_) (fun y o z => ?_)
    · rw [run]
      have nd : ¬ gup (gup u.2.2.2.2.2.2.2.2.1 2 0) 4 1 4 = 0 := d10
      have wd := w_dead (f := 19) ((u.1, u.2.1, u.2.2.1, u.2.2.2.1, u.2.2.2.2.1, u.2.2.2.2.2.1, u.2.2.2.2.2.2.1, u.2.2.2.2.2.2.2.1, gup (gup u.2.2.2.2.2.2.2.2.1 2 0) 4 1, gup u.2.2.2.2.2.2.2.2.2.1 1 0, u.2.2.2.2.2.2.2.2.2.2.1, gfl u.2.2.2.2.2.2.2.2.2.2.2.1 0, u.2.2.2.2.2.2.2.2.2.2.2.2.1, u.2.2.2.2.2.2.2.2.2.2.2.2.2.1, u.2.2.2.2.2.2.2.2.2.2.2.2.2.2) : gU) y o z k v 1 nd
      have e4 : gup (gup u.2.2.2.2.2.2.2.2.1 2 0) 4 1 4 = 1 := rfl
      simp only [cW_run_80, hp_169_4, Option.bind_some, ho_169, k_wbDead (u := ((u.1, u.2.1, u.2.2.1, u.2.2.2.1, u.2.2.2.2.1, u.2.2.2.2.2.1, u.2.2.2.2.2.2.1, u.2.2.2.2.2.2.2.1, gup (gup u.2.2.2.2.2.2.2.2.1 2 0) 4 1, gup u.2.2.2.2.2.2.2.2.2.1 1 0, u.2.2.2.2.2.2.2.2.2.2.1, gfl u.2.2.2.2.2.2.2.2.2.2.2.1 0, u.2.2.2.2.2.2.2.2.2.2.2.2.1, u.2.2.2.2.2.2.2.2.2.2.2.2.2.1, u.2.2.2.2.2.2.2.2.2.2.2.2.2.2) : gU)) nd]
      have wd' : cW_writeValue 20 (some 169) (some 1) (some 165) k v 1 _ = _ := wd
      simp only [wd', Option.bind_some, hi_169_4, e4, if_neg d10]
    · rw [ref, ref2, if_neg d10]
      obtain ⟨G, hG⟩ : ∃ G, 1000000000000000 = G + 1 := ⟨999999999999999, rfl⟩
      have n26 : ¬ gup (gup (gup (gup x.2.1 26 1) 27 0) 29 0) 18 0 26 = 0 := d10
      rw [hG, mM_write_80, hi_188_26, Option.bind_some, if_neg n26, w_103bad n26]
end H
