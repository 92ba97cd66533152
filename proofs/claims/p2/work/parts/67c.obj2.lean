section H
variable {n m p q e g : Nat} {F : gWf} {u : gU} {x : gX}
/-- the first half of the reference's object: mark and place -/
theorem r_33 {b s : Nat} {x1 : gX} (W : gW n m p q e g u x) (hs : s < 8) (s5 : ¬ s = 5) (a2 : ∀ y o z, ((mM_say (some 188) (Int32.ofNat (8 + s)) (gH y x o z)).bind fun h => mM_getPlace (some 188) (Int32.ofNat b) h) = some (gH y x1 o z)) : ∀ y o z, mM_sayObject_33 (some 188) (Int32.ofNat b) (Int32.ofNat s) (gH y x o z) = (if s = 6 then ((gv_gR (gH y x1 o z) (some 188) 7 5).bind fun v9 => (gv_lJ (gH y x1 o z) v9 (Int32.ofNat b)).bind fun v10 => (mM_zigzag v10).bind fun v11 => (gv_is (gH y x1 o z) (some 188) 7).bind fun _ => (mM_sayLengthy (some 188) v11 (gH y x1 o z)).bind fun h14 => some h14) else if s = 0 then mM_sayObject_120 (some 188) (Int32.ofNat b) (Int32.ofNat s) (gH y x1 o z) else ((gv_gR (gH y x1 o z) (some 188) 7 3).bind fun v16 => (gv_lI (gH y x1 o z) v16 (Int32.ofNat b)).bind fun v17 => (gv_is (gH y x1 o z) (some 188) 7).bind fun _ => (mM_say (some 188) v17 (gH y x1 o z)).bind fun h20 => mM_sayObject_120 (some 188) (Int32.ofNat b) (Int32.ofNat s) h20)) := by
  intro y o z
  obtain ⟨_, e6, _, e0, _, _, _, _, e5⟩ := n_s6 s hs
  have e8 : (8 : Int32) + Int32.ofNat s = Int32.ofNat (8 + s) := n_add (a := 8)
  obtain ⟨h3, hh1, hh2⟩ := Option.bind_eq_some_iff.mp (a2 y o z)
  have i3 : gv_is h3 (some 188) 7 = some 188 := by
    obtain ⟨u', x', e', k1, k2, k3, k4, k5⟩ := w_byte (b := Int32.ofNat (8 + s)) W ⟨8 + s, by omega, rfl⟩
    rw [k2] at hh1
    cases hh1
    exact ho_188
  simp only [mM_sayObject_33, ho_188, Option.bind_some, e8, hh1, e5, if_neg s5]
  rw [i3, Option.bind_some, hh2, Option.bind_some]
  by_cases c6 : s = 6
  · rw [if_pos c6, if_pos (e6.mpr c6)]
    simp only [ho_188, Option.bind_some]
  · rw [if_neg c6, if_neg (fun q => c6 (e6.mp q))]
    by_cases c0 : s = 0
    · rw [if_pos c0, if_pos (e0.mpr c0)]
    · rw [if_neg c0, if_neg (fun q => c0 (e0.mp q))]
      simp only [ho_188, Option.bind_some]
theorem w_stamp {D B b c : Nat} (hn : n ≤ 32) (hbn : b < n) (W : gW n m p q e g u x) (h0 : u.2.2.2.2.2.2.2.2.1 4 = 0) (hlt : g < e) (h18 : x.2.1 18 = Int32.ofNat D) (O : gO n 6 c (u.1 b) (x.1 b)) : gOb n m p q D B e g u x (fun h => (cW_givePlace (some 169) (Int32.ofNat b) h).bind fun h26 => cW_writeParts F (some 169) (some 1) (some 165) (some (3 + 5 * b)) (Int32.ofNat (D + 1)) h26) (fun h => mM_sayObject_33 (some 188) (Int32.ofNat b) (Int32.ofNat 6) h) := by
  have hb : b < 32 := by omega
  obtain ⟨u1, x1, e1, a1, a2, a3, a4, a5, a6, a7, a8, a9, a10, a11, a12, a13⟩ := w_mark (b := b) (v := Int32.ofNat (8 + 6)) W h0 hlt hb ⟨8 + 6, by omega, rfl⟩
  obtain ⟨u2, x2, e2, b1, b2, b3, b4, b5⟩ := w_zigzag (v := (u.1 b).2.2.2.2.2 10) a3
  refine ⟨u2, x2, x2, fun y o z => ?_, fun y o z => ?_, gRun_mono gRun_refl (by omega), ⟨e2, g + 1, b3, fun q => ⟨h0, ?_, ?_⟩, gFr_trans (gFr_mark a5 a6 a9 a10 a11 a12 a13) (gFr_by (D := D) b5) (Nat.le_refl _)⟩, fun q => (b5.b188 18 (by omega) (by omega)).trans (a8.trans h18)⟩
  · have q1 := a1 y o z
    show ((cW_givePlace (some 169) (Int32.ofNat b) (gH u y o z)).bind _) = _
    rw [k_give hb, Option.bind_some] at q1 ⊢
    have es1 : (u1.1 b).2.2.2.2.1 4 = Int32.ofNat 6 := by rw [a5]; exact O.es
    have ew1 : (u1.1 b).2.2.2.2.2 10 = (u.1 b).2.2.2.2.2 10 := by rw [a5]
    simp only [cW_writeParts, hiT_4 hb, O.es, Option.bind_some, ho_169, show (8 : Int32) + Int32.ofNat 6 = Int32.ofNat (8 + 6) from rfl, q1, es1]
    simp only [show Int32.ofNat 6 = (6 : Int32) from rfl, Option.bind_some, ho_169, show ¬ (6 : Int32) = 0 by decide, show ¬ (6 : Int32) = 1 by decide, show ¬ (6 : Int32) = 2 by decide, show ¬ (6 : Int32) = 3 by decide, show ¬ (6 : Int32) = 4 by decide, if_false, hjT_10 hb, ew1, b1]
  · show mM_sayObject_33 (some 188) (Int32.ofNat b) (Int32.ofNat 6) (gH y x o z) = _
    rw [r_33 W (by omega) (by omega) a2, if_pos rfl]
    have q2 := b2 y o z
    have st1 : (x1.1 b).2.2.2.2.2.2.2 = (u.1 b).2.2.2.2.2 10 := by rw [a7]; exact O.sT rfl
    simp only [mM_zigzag, Option.bind_some] at q2
    simp only [hr_188_5, Option.bind_some, ha_192 hb, st1, mM_zigzag, ho_188, q2]
  · have := a4 (gBy_0 b5 q); have := b4 q; omega
  · have := a4 (gBy_0 b5 q); have := b4 q; omega
theorem w_buf {D B b c : Nat} (hn : n ≤ 32) (hbn : b < n) (W : gW n m p q e g u x) (h0 : u.2.2.2.2.2.2.2.2.1 4 = 0) (hlt : g < e) (h18 : x.2.1 18 = Int32.ofNat D) (O : gO n 4 c (u.1 b) (x.1 b)) (f6 : (u.1 b).2.2.2.2.1 6 = 0) : gOb n m p q D B e g u x (fun h => (cW_givePlace (some 169) (Int32.ofNat b) h).bind fun h26 => cW_writeParts F (some 169) (some 1) (some 165) (some (3 + 5 * b)) (Int32.ofNat (D + 1)) h26) (fun h => mM_sayObject_33 (some 188) (Int32.ofNat b) (Int32.ofNat 4) h) := by
  have hb : b < 32 := by omega
  have c8 : c ≤ 8 := O.c8
  obtain ⟨u1, x1, e1, a1, a2, a3, a4, a5, a6, a7, a8, a9, a10, a11, a12, a13⟩ := w_mark (b := b) (v := Int32.ofNat (8 + 4)) W h0 hlt hb ⟨8 + 4, by omega, rfl⟩
  obtain ⟨u2, x2, e2, b1, b2, b3, b4, b5⟩ := w_byte (b := Int32.ofNat c) a3 ⟨c, by omega, rfl⟩
  have Rx : x2.1 = x.1 := b5.bR.trans a7
  obtain ⟨u3, x3, e3, d1, d2, d3, d4, d5⟩ := w_bufL (w := (u.1 b).2.2.2.2.2 10) (k := b) hb c8 c 0 (1000000000000000 - c - 1) (1000000000000000 - c - 1) u2 x2 e2 (by omega) (by rw [Rx]; exact O.ep f6) (by rw [Rx]; exact O.bb rfl) b3
  rw [show 1000000000000000 - c - 1 + c + 1 = 1000000000000000 by omega] at d1 d2
  refine ⟨u3, x3, x3, fun y o z => ?_, fun y o z => ?_, gRun_mono gRun_refl (by omega), ⟨e3, g + 1, d3, fun q => ⟨h0, ?_, ?_⟩, gFr_trans (gFr_trans (gFr_mark a5 a6 a9 a10 a11 a12 a13) (gFr_by (D := D) b5) (Nat.le_refl _)) (gFr_by (D := D) d5) (Nat.le_refl _)⟩, fun q => (d5.b188 18 (by omega) (by omega)).trans ((b5.b188 18 (by omega) (by omega)).trans (a8.trans h18))⟩
  · have q1 := a1 y o z
    show ((cW_givePlace (some 169) (Int32.ofNat b) (gH u y o z)).bind _) = _
    rw [k_give hb, Option.bind_some] at q1 ⊢
    have es1 : (u1.1 b).2.2.2.2.1 4 = Int32.ofNat 4 := by rw [a5]; exact O.es
    have ew1 : (u1.1 b).2.2.2.2.2 10 = (u.1 b).2.2.2.2.2 10 := by rw [a5]
    have ec1 : (u1.1 b).2.2.2.2.1 5 = Int32.ofNat c := by rw [a5]; exact O.ec
    have dd := d1 y o z
    simp only [cW_writeParts, hiT_4 hb, O.es, Option.bind_some, ho_169, show (8 : Int32) + Int32.ofNat 4 = Int32.ofNat (8 + 4) from rfl, q1, es1]
    simp only [show Int32.ofNat 4 = (4 : Int32) from rfl, Option.bind_some, ho_169, show ¬ (4 : Int32) = 0 by decide, show ¬ (4 : Int32) = 1 by decide, show ¬ (4 : Int32) = 2 by decide, show ¬ (4 : Int32) = 3 by decide, if_false, if_true, hjT_10 hb, ew1, hiT_5 hb, ec1, cW_writeWord, b1]
    rw [show (0 : Int32) = Int32.ofNat 0 from rfl, dd]
    rfl
  · show mM_sayObject_33 (some 188) (Int32.ofNat b) (Int32.ofNat 4) (gH y x o z) = _
    rw [r_33 W (by omega) (by omega) a2, if_neg (by decide), if_neg (by decide)]
    have ct1 : (x1.1 b).2.2.2.2.2.1 = Int32.ofNat c := by rw [a7]; exact O.ep f6
    simp only [hr_188_3, Option.bind_some, ha_190 hb, ct1, ho_188, b2, mM_sayObject_120]
    exact d2 y o z
  · have := a4 (gBy_0 b5 (gBy_0 d5 q)); have := b4 (gBy_0 d5 q); have := d4 q; omega
  · have := a4 (gBy_0 b5 (gBy_0 d5 q)); have := b4 (gBy_0 d5 q); have := d4 q; omega
theorem w_rec {D B b c : Nat} (hD : D + 1 ≤ 12) (hn : n ≤ 32) (hbn : b < n) (ih : gIH n m p q (D + 1) B F) (dead : gDead F) (W : gW n m p q e g u x) (h0 : u.2.2.2.2.2.2.2.2.1 4 = 0) (hlt : g < e) (h18 : x.2.1 18 = Int32.ofNat D) (O : gO n 0 c (u.1 b) (x.1 b)) : gOb n m p q D (8 * (B + 1) + 1) e g u x (fun h => (cW_givePlace (some 169) (Int32.ofNat b) h).bind fun h26 => cW_writeParts F (some 169) (some 1) (some 165) (some (3 + 5 * b)) (Int32.ofNat (D + 1)) h26) (fun h => mM_sayObject_33 (some 188) (Int32.ofNat b) (Int32.ofNat 0) h) := by
  have hb : b < 32 := by omega
  have c6 : c ≤ 6 := O.c8
  obtain ⟨u1, x1, e1, a1, a2, a3, a4, a5, a6, a7, a8, a9, a10, a11, a12, a13⟩ := w_mark (b := b) (v := Int32.ofNat (8 + 0)) W h0 hlt hb ⟨8 + 0, by omega, rfl⟩
  have p18 : x1.2.1 18 = Int32.ofNat D := a8.trans h18
  obtain ⟨h, k1, k2, k3⟩ := r_keys (x := x1) (D := D) hb (by omega) c6 p18 (by rw [a7]; exact rec_f6 O)
  have W2 : gW n m p q e1 (g + 1) ((u1.1, u1.2.1, u1.2.2.1, u1.2.2.2.1, u1.2.2.2.2.1, u1.2.2.2.2.2.1, u1.2.2.2.2.2.2.1, u1.2.2.2.2.2.2.2.1, u1.2.2.2.2.2.2.2.2.1, u1.2.2.2.2.2.2.2.2.2.1, u1.2.2.2.2.2.2.2.2.2.2.1, u1.2.2.2.2.2.2.2.2.2.2.2.1, u1.2.2.2.2.2.2.2.2.2.2.2.2.1, gup u1.2.2.2.2.2.2.2.2.2.2.2.2.2.1 (D + 1) (fun i => if i < c then (u1.1 b).2.1 i else u1.2.2.2.2.2.2.2.2.2.2.2.2.2.1 (D + 1) i), u1.2.2.2.2.2.2.2.2.2.2.2.2.2.2) : gU) ((x1.1, gup x1.2.1 18 (Int32.ofNat (D + 1)), x1.2.2.1, x1.2.2.2.1, x1.2.2.2.2.1, x1.2.2.2.2.2.1, gup x1.2.2.2.2.2.2.1 D (Int32.ofNat b), gup x1.2.2.2.2.2.2.2.1 D 0, gup x1.2.2.2.2.2.2.2.2.1 D (Int32.ofNat c), h, x1.2.2.2.2.2.2.2.2.2.2.1, x1.2.2.2.2.2.2.2.2.2.2.2.1, x1.2.2.2.2.2.2.2.2.2.2.2.2.1, x1.2.2.2.2.2.2.2.2.2.2.2.2.2.1, x1.2.2.2.2.2.2.2.2.2.2.2.2.2.2.1, x1.2.2.2.2.2.2.2.2.2.2.2.2.2.2.2) : gX) := gW_x (gW_kd a3) rfl (fun i h => gup_ne h) rfl rfl rfl rfl rfl rfl
  have F2 : gFr D u ((u1.1, u1.2.1, u1.2.2.1, u1.2.2.2.1, u1.2.2.2.2.1, u1.2.2.2.2.2.1, u1.2.2.2.2.2.2.1, u1.2.2.2.2.2.2.2.1, u1.2.2.2.2.2.2.2.2.1, u1.2.2.2.2.2.2.2.2.2.1, u1.2.2.2.2.2.2.2.2.2.2.1, u1.2.2.2.2.2.2.2.2.2.2.2.1, u1.2.2.2.2.2.2.2.2.2.2.2.2.1, gup u1.2.2.2.2.2.2.2.2.2.2.2.2.2.1 (D + 1) (fun i => if i < c then (u1.1 b).2.1 i else u1.2.2.2.2.2.2.2.2.2.2.2.2.2.1 (D + 1) i), u1.2.2.2.2.2.2.2.2.2.2.2.2.2.2) : gU) x ((x1.1, gup x1.2.1 18 (Int32.ofNat (D + 1)), x1.2.2.1, x1.2.2.2.1, x1.2.2.2.2.1, x1.2.2.2.2.2.1, gup x1.2.2.2.2.2.2.1 D (Int32.ofNat b), gup x1.2.2.2.2.2.2.2.1 D 0, gup x1.2.2.2.2.2.2.2.2.1 D (Int32.ofNat c), h, x1.2.2.2.2.2.2.2.2.2.2.1, x1.2.2.2.2.2.2.2.2.2.2.2.1, x1.2.2.2.2.2.2.2.2.2.2.2.2.1, x1.2.2.2.2.2.2.2.2.2.2.2.2.2.1, x1.2.2.2.2.2.2.2.2.2.2.2.2.2.2.1, x1.2.2.2.2.2.2.2.2.2.2.2.2.2.2.2) : gX) := by
    refine gFr_trans (gFr_mark a5 a6 a9 a10 a11 a12 a13) (D2 := D) ⟨fun i hi => gup_ne (by omega), fun _ => rfl, fun _ _ => rfl, fun i hi => ⟨gup_ne (by omega), gup_ne (by omega), gup_ne (by omega)⟩, k2, rfl⟩ (Nat.le_refl _)
  obtain ⟨u', x', f1, f2, f3, f4⟩ := w_recL (B := B) (c := c) hD hbn hn ih dead c6 c 0 (1000000000000000 - c - 1) _ _ e1 (g + 1) (by omega) W2 (fun q => by
    have := a4 q
    refine ⟨by omega, rfl, by show gup _ _ _ _ = _; rw [gup_eq], by show gup _ _ _ _ = _; rw [gup_eq]; rfl, by show gup _ _ _ _ = _; rw [gup_eq], fun j hj => ?_⟩
    show h (6 * D + j) = gup u1.2.2.2.2.2.2.2.2.2.2.2.2.2.1 (D + 1) _ (D + 1) j
    rw [gup_eq, if_pos hj, k3 j hj, a7, a5, O.kE (Or.inl rfl) j hj]) (by show (u1.1 b).2.2.2.2.1 4 = _; rw [a5]; exact O.es)
  rw [show 1000000000000000 - c - 1 + c + 1 = 1000000000000000 by omega] at f1
  refine ⟨u', _, x', fun y o z => ?_, fun y o z => ?_, gRun_mono f2 (by have := Nat.mul_le_mul_right (B + 1) c6; omega), gEnd_trans (fun q => ⟨h0, by have := a4 q; omega, by have := a4 q; omega⟩) F2 f3 (Nat.le_refl _), f4⟩
  · have q1 := a1 y o z
    show ((cW_givePlace (some 169) (Int32.ofNat b) (gH u y o z)).bind _) = _
    rw [k_give hb, Option.bind_some] at q1 ⊢
    have es1 : (u1.1 b).2.2.2.2.1 4 = Int32.ofNat 0 := by rw [a5]; exact O.es
    have ec1 : (u1.1 b).2.2.2.2.1 5 = Int32.ofNat c := by rw [a5]; exact O.ec
    simp only [cW_writeParts, hiT_4 hb, O.es, Option.bind_some, ho_169, show (8 : Int32) + Int32.ofNat 0 = Int32.ofNat (8 + 0) from rfl, q1, es1]
    simp only [show Int32.ofNat 0 = (0 : Int32) from rfl, Option.bind_some, ho_169, if_true, cW_writeRecord, hiT_5 hb, ec1, hr_169_3, hk_arr (show D + 1 < 13 by omega), hrT_1 hb, hk_cp (show D + 1 < 13 by omega) hb c6]
    have ff := f1 y o z
    rw [show Int32.ofNat 0 = (0 : Int32) from rfl] at ff
    rw [ff]
    rfl
  · show mM_sayObject_33 (some 188) (Int32.ofNat b) (Int32.ofNat 0) (gH y x o z) = _
    rw [r_33 W (by omega) (by omega) a2, if_neg (by decide), if_pos rfl]
    exact k1 y o z
end H
