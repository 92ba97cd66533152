section H
variable {n m p q e g : Nat} {F : gWf} {u : gU} {x : gX}
theorem w_view {D B b c : Nat} (hD : D + 1 ≤ 12) (hn : n ≤ 32) (hbn : b < n) (ih : gIH n m p q (D + 1) B F) (dead : gDead F) (W : gW n m p q e g u x) (h0 : u.2.2.2.2.2.2.2.2.1 4 = 0) (hlt : g < e) (h18 : x.2.1 18 = Int32.ofNat D) (O : gO n 5 c (u.1 b) (x.1 b)) : gOb n m p q D (8 * (B + 1) + 1) e g u x (fun h => (cW_writeView F (some 169) (some 1) (some 165) (some (3 + 5 * b)) (Int32.ofNat (D + 1)) h).bind fun h20 => (gv_is h20 (some 169) 5).bind fun _ => (cW_givePlace (some 169) (Int32.ofNat b) h20).bind fun h23 => some h23) (fun h => mM_sayObject_33 (some 188) (Int32.ofNat b) (Int32.ofNat 5) h) := by
  have hb : b < 32 := by omega
  have hD14 : D < 14 := by omega
  have c8 : c ≤ 8 := O.c8
  obtain ⟨v0, v1, v2, v3, ⟨t, ht, et⟩, ⟨w1, hw1, ew1⟩, ⟨w2, hw2, ew2⟩⟩ := O.vw rfl
  obtain ⟨u1, x1, e1, a1, a2, a3, a4, a5⟩ := w_byte (b := 13) W ⟨13, by omega, rfl⟩
  obtain ⟨u2, x2, e2, b1, b2, b3, b4, b5⟩ := w_byte (b := (u.1 b).2.2.2.2.1 8) a3 ⟨w1, by omega, ew1⟩
  obtain ⟨u3, x3, e3, c1, c2, c3, c4, c5⟩ := w_byte (b := (u.1 b).2.2.2.2.1 9) b3 ⟨w2, by omega, ew2⟩
  obtain ⟨u4, x4, e4, d1, d2, d3, d4, d5⟩ := w_byte (b := (u.1 b).2.2.2.2.1 5) c3 ⟨c, by omega, O.ec⟩
  have B2 := gBy_trans a5 b5
  have B3 := gBy_trans B2 c5
  have B4 := gBy_trans B3 d5
  have p18 : x4.2.1 18 = Int32.ofNat D := (B4.b188 18 (by omega) (by omega)).trans h18
  have cnt : u4.2.2.2.2.2.2.2.2.1 4 = 0 → e4 = e + 4 := fun q => by
    have q3 := gBy_0 d5 q
    have q2 := gBy_0 c5 q3
    have q1 := gBy_0 b5 q2
    have := a4 q1; have := b4 q2; have := c4 q3; have := d4 q
    omega
  have n1 : (x1.1 b).2.2.2.1 1 = (u.1 b).2.2.2.2.1 8 := by rw [a5.bR]; exact v1
  have n2 : (x2.1 b).2.2.2.1 2 = (u.1 b).2.2.2.2.1 9 := by rw [B2.bR]; exact v2
  have n3 : (x3.1 b).2.2.2.1 3 = (u.1 b).2.2.2.2.1 5 := by rw [B3.bR]; exact v3
  have rf : ∀ y o z, mM_sayObject_33 (some 188) (Int32.ofNat b) (Int32.ofNat 5) (gH y x o z) = some (gH y ((x4.1, gup x4.2.1 18 (Int32.ofNat (D + 1)), x4.2.2.1, x4.2.2.2.1, x4.2.2.2.2.1, x4.2.2.2.2.2.1, gup x4.2.2.2.2.2.2.1 D (Int32.ofNat b), gup x4.2.2.2.2.2.2.2.1 D 0, gup x4.2.2.2.2.2.2.2.2.1 D 1, x4.2.2.2.2.2.2.2.2.2.1, x4.2.2.2.2.2.2.2.2.2.2.1, x4.2.2.2.2.2.2.2.2.2.2.2.1, x4.2.2.2.2.2.2.2.2.2.2.2.2.1, x4.2.2.2.2.2.2.2.2.2.2.2.2.2.1, x4.2.2.2.2.2.2.2.2.2.2.2.2.2.2.1, x4.2.2.2.2.2.2.2.2.2.2.2.2.2.2.2) : gX) o z) := by
    intro y o z
    simp only [mM_sayObject_33, ho_188, Option.bind_some, show (8 : Int32) + 5 = 13 from rfl, a2, show Int32.ofNat 5 = (5 : Int32) from rfl, if_true]
    obtain ⟨f, hf⟩ : ∃ f, 1000000000000000 = f + 1 + 1 + 1 + 1 := ⟨999999999999996, rfl⟩
    rw [hf, mM_sayObject_48]
    simp only [show (1 : Int32) < 4 by decide, if_true, hr_188_9, Option.bind_some, n_81, ha_196 (i := 1) hb (by omega), n1, ho_188, b2]
    rw [mM_sayObject_48]
    simp only [show (1 : Int32) + 1 = 2 from rfl, show (2 : Int32) < 4 by decide, if_true, hr_188_9, Option.bind_some, n_82, ha_196 (i := 2) hb (by omega), n2, ho_188, c2]
    rw [mM_sayObject_48]
    simp only [show (2 : Int32) + 1 = 3 from rfl, show (3 : Int32) < 4 by decide, if_true, hr_188_9, Option.bind_some, n_83, ha_196 (i := 3) hb (by omega), n3, ho_188, d2]
    rw [mM_sayObject_48]
    simp only [show (3 : Int32) + 1 = 4 from rfl, show ¬ (4 : Int32) < 4 by decide, if_false, ho_188, Option.bind_some, r_push hD14 p18]
  have Wp : gW n m p q e4 g u4 ((x4.1, gup x4.2.1 18 (Int32.ofNat (D + 1)), x4.2.2.1, x4.2.2.2.1, x4.2.2.2.2.1, x4.2.2.2.2.2.1, gup x4.2.2.2.2.2.2.1 D (Int32.ofNat b), gup x4.2.2.2.2.2.2.2.1 D 0, gup x4.2.2.2.2.2.2.2.2.1 D 1, x4.2.2.2.2.2.2.2.2.2.1, x4.2.2.2.2.2.2.2.2.2.2.1, x4.2.2.2.2.2.2.2.2.2.2.2.1, x4.2.2.2.2.2.2.2.2.2.2.2.2.1, x4.2.2.2.2.2.2.2.2.2.2.2.2.2.1, x4.2.2.2.2.2.2.2.2.2.2.2.2.2.2.1, x4.2.2.2.2.2.2.2.2.2.2.2.2.2.2.2) : gX) := gW_x d3 rfl (fun i h => gup_ne h) rfl rfl rfl rfl rfl rfl
  have Fp : gFr D u u4 x ((x4.1, gup x4.2.1 18 (Int32.ofNat (D + 1)), x4.2.2.1, x4.2.2.2.1, x4.2.2.2.2.1, x4.2.2.2.2.2.1, gup x4.2.2.2.2.2.2.1 D (Int32.ofNat b), gup x4.2.2.2.2.2.2.2.1 D 0, gup x4.2.2.2.2.2.2.2.2.1 D 1, x4.2.2.2.2.2.2.2.2.2.1, x4.2.2.2.2.2.2.2.2.2.2.1, x4.2.2.2.2.2.2.2.2.2.2.2.1, x4.2.2.2.2.2.2.2.2.2.2.2.2.1, x4.2.2.2.2.2.2.2.2.2.2.2.2.2.1, x4.2.2.2.2.2.2.2.2.2.2.2.2.2.2.1, x4.2.2.2.2.2.2.2.2.2.2.2.2.2.2.2) : gX) := gFr_trans (gFr_by (D := D) B4) (gFr_push (w := x4.2.1) (fun _ _ => rfl) rfl) (Nat.le_refl _)
  have C1 : u1.1 = u.1 := a5.bC
  have C2 : u2.1 = u.1 := B2.bC
  have C3 : u3.1 = u.1 := B3.bC
  have C4 : u4.1 = u.1 := B4.bC
  have cl : ∀ y o z, cW_writeView F (some 169) (some 1) (some 165) (some (3 + 5 * b)) (Int32.ofNat (D + 1)) (gH u y o z) = F (some 169) (some 1) (some 165) 6 ((u.1 b).2.2.2.2.1 7) (Int32.ofNat (D + 1 + 1)) (gH u4 y o z) := by
    intro y o z
    simp only [cW_writeView, ho_169, Option.bind_some, a1, hiT_8 hb, C1, b1, hiT_9 hb, C2, c1, hiT_5 hb, C3, d1, hiT_7 hb, C4, n_succ]
    exact Option.bind_fun_some _
  by_cases h4 : u4.2.2.2.2.2.2.2.2.1 4 = 0
  · have e4e := cnt h4
    have R4 : x4.1 = x.1 := B4.bR
    have ty : (x4.1 b).2.2.2.2.1 = Int32.ofNat 5 := by rw [R4]; exact O.et
    have nu0 : (x4.1 b).2.2.2.1 0 = (u.1 b).2.2.2.2.1 7 := by rw [R4]; exact v0
    obtain ⟨u5, x5, e5, g5, k1, k2, k3, k4, k5⟩ := w_one (i := 0) (kd := 6) (nm := (u.1 b).2.2.2.2.1 7) ih hD14 Wp h4 (by omega) rfl ⟨6, by omega, rfl, fun _ => ⟨t, ht, et⟩⟩ (fun y o z => by
      simp only [mM_sayNext, hi_188_18, Option.bind_some, show gup x4.2.1 18 (Int32.ofNat (D + 1)) 18 = Int32.ofNat (D + 1) from rfl, n_pred, hr_188_19, ha_201 hD14, gup_eq, hr_188_20, ha_202 hD14, hr_188_2, ha_189 hb, ty, hr_188_21, ha_203 hD14, show ¬ (0 : Int32) = 1 by decide, if_false, hb_202 hD14, show (0 : Int32) + 1 = Int32.ofNat (0 + 1) from rfl, show Int32.ofNat 5 = (5 : Int32) from rfl, show ¬ (5 : Int32) = 0 by decide, if_true, hr_188_9, show (8 : Int32) * Int32.ofNat b = Int32.ofNat (8 * b + 0) from n_80, ha_196 (i := 0) hb (by omega), nu0, ho_188]
      exact Option.bind_fun_some _)
    by_cases h5 : u5.2.2.2.2.2.2.2.2.1 4 = 0
    · obtain ⟨m1, m2, m3, m4, m5, m6⟩ := k4 h5
      have s5 : (u5.1 b).2.2.2.2.1 4 = Int32.ofNat 5 := (k5.so b).trans (by rw [C4]; exact O.es)
      have O5 := ob_at k3 hbn (by omega) s5 c8 ((k5.fct b (by rw [C4, O.es]; decide)).trans (by rw [C4]; exact O.ec))
      have nx : ∀ y o z, mM_sayNext (some 188) (gH y x5 o z) = some (gH y ((x5.1, gup (gup x5.2.1 29 (x5.2.1 29 + 1)) 18 (Int32.ofNat D), x5.2.2.1, x5.2.2.2.1, x5.2.2.2.2.1, x5.2.2.2.2.2.1, x5.2.2.2.2.2.2.1, x5.2.2.2.2.2.2.2.1, x5.2.2.2.2.2.2.2.2.1, x5.2.2.2.2.2.2.2.2.2.1, x5.2.2.2.2.2.2.2.2.2.2.1, x5.2.2.2.2.2.2.2.2.2.2.2.1, x5.2.2.2.2.2.2.2.2.2.2.2.2.1, x5.2.2.2.2.2.2.2.2.2.2.2.2.2.1, gup x5.2.2.2.2.2.2.2.2.2.2.2.2.2.2.1 b (x5.2.1 29), x5.2.2.2.2.2.2.2.2.2.2.2.2.2.2.2) : gX) o z) := by
        intro y o z
        have m4' : x5.2.2.2.2.2.2.1 D = Int32.ofNat b := m4.trans gup_eq
        have m6' : x5.2.2.2.2.2.2.2.2.1 D = 1 := m6.trans gup_eq
        have p5 : gup x5.2.1 29 (x5.2.1 29 + 1) 18 = Int32.ofNat (D + 1) := m3
        simp only [mM_sayNext, hi_188_18, Option.bind_some, m3, n_pred, hr_188_19, ha_201 hD14, m4', hr_188_20, ha_202 hD14, m5, hr_188_2, ha_189 hb, O5.et, hr_188_21, ha_203 hD14, m6', show Int32.ofNat (0 + 1) = (1 : Int32) from rfl, if_true, show Int32.ofNat 5 = (5 : Int32) from rfl, show ¬ (5 : Int32) = 0 by decide, if_false, ho_188, r_give hb, p5, hp_188_18]
      have W6 := gW_give (b := b) k3 h5 (by omega) hb
      refine ⟨_, _, ((x5.1, gup (gup x5.2.1 29 (x5.2.1 29 + 1)) 18 (Int32.ofNat D), x5.2.2.1, x5.2.2.2.1, x5.2.2.2.2.1, x5.2.2.2.2.2.1, x5.2.2.2.2.2.2.1, x5.2.2.2.2.2.2.2.1, x5.2.2.2.2.2.2.2.2.1, x5.2.2.2.2.2.2.2.2.2.1, x5.2.2.2.2.2.2.2.2.2.2.1, x5.2.2.2.2.2.2.2.2.2.2.2.1, x5.2.2.2.2.2.2.2.2.2.2.2.2.1, x5.2.2.2.2.2.2.2.2.2.2.2.2.2.1, gup x5.2.2.2.2.2.2.2.2.2.2.2.2.2.2.1 b (x5.2.1 29), x5.2.2.2.2.2.2.2.2.2.2.2.2.2.2.2) : gX), fun y o z => ?_, rf, gRun_mono (gRun_trans k2 (gRun_step (k3.oc.trans h5) m3 hD14 nx)) (by omega), ⟨e5, g5 + 1, gW_x W6 rfl (fun i h => gup_ne h) rfl rfl rfl rfl rfl rfl, fun _ => ⟨h0, by omega, by omega⟩, gFr_trans Fp (D2 := D) (gFr_trans k5 (D2 := D) ⟨fun _ _ => rfl, fun _ => rfl, fun _ _ => rfl, fun _ _ => ⟨rfl, rfl, rfl⟩, fun _ _ => rfl, rfl⟩ (Nat.le_refl _)) (Nat.le_refl _)⟩, fun _ => rfl⟩
      show ((cW_writeView F (some 169) (some 1) (some 165) (some (3 + 5 * b)) (Int32.ofNat (D + 1)) (gH u y o z)).bind _) = _
      rw [cl, k1, Option.bind_some, ho_169, Option.bind_some, k_give hb]
      rfl
    · refine ⟨_, _, x5, fun y o z => ?_, rf, gRun_mono k2 (by omega), ⟨e5, g5, gW_giveD (r := gup u5.2.2.2.2.2.2.2.2.2.2.2.1 b (u5.2.2.2.2.2.2.2.2.1 2)) (v := u5.2.2.2.2.2.2.2.2.1 2 + 1) k3 h5, fun q => absurd q h5, gFr_trans Fp (D2 := D) (gFr_trans k5 (D2 := D) ⟨fun _ _ => rfl, fun _ => rfl, fun _ _ => rfl, fun _ _ => ⟨rfl, rfl, rfl⟩, fun _ _ => rfl, rfl⟩ (Nat.le_refl _)) (Nat.le_refl _)⟩, fun q => absurd q h5⟩
      show ((cW_writeView F (some 169) (some 1) (some 165) (some (3 + 5 * b)) (Int32.ofNat (D + 1)) (gH u y o z)).bind _) = _
      rw [cl, k1, Option.bind_some, ho_169, Option.bind_some, k_give hb]
      rfl
  · refine ⟨_, _, _, fun y o z => ?_, rf, gRun_mono gRun_refl (by omega), ⟨e4, g, gW_giveD (r := gup u4.2.2.2.2.2.2.2.2.2.2.2.1 b (u4.2.2.2.2.2.2.2.2.1 2)) (v := u4.2.2.2.2.2.2.2.2.1 2 + 1) Wp h4, fun q => absurd q h4, gFr_trans Fp (D2 := D) ⟨fun _ _ => rfl, fun _ => rfl, fun _ _ => rfl, fun _ _ => ⟨rfl, rfl, rfl⟩, fun _ _ => rfl, rfl⟩ (Nat.le_refl _)⟩, fun q => absurd q h4⟩
    show ((cW_writeView F (some 169) (some 1) (some 165) (some (3 + 5 * b)) (Int32.ofNat (D + 1)) (gH u y o z)).bind _) = _
    rw [cl, dead u4 y o z _ _ _ h4, Option.bind_some, ho_169, Option.bind_some, k_give hb]
    rfl
theorem w_obj {D B b : Nat} (hD : D + 1 ≤ 12) (hbn : b < n) (ih : gIH n m p q (D + 1) B F) (dead : gDead F) (W : gW n m p q e g u x) (h0 : u.2.2.2.2.2.2.2.2.1 4 = 0) (hlt : g < e) (h18 : x.2.1 18 = Int32.ofNat D) : gOb n m p q D (8 * (B + 1) + 1) e g u x (fun h => cW_writeObject F (some 169) (some 1) (some 165) (Int32.ofNat b) (Int32.ofNat (D + 1)) h) (fun h => mM_sayValue (some 188) 6 (Int32.ofNat b) h) := by
  have T := W.T
  have hn := T.hn
  have hb : b < 32 := by omega
  have l12 : ¬ (12 : Int32) < Int32.ofNat (D + 1) := n_nltl (n := 12) (by omega) (by omega) (by omega)
  obtain ⟨s, c, O⟩ := T.ob b hbn
  obtain ⟨pl1, pl2⟩ := W.pl h0 b hb
  have con : ¬ (6 : Int32) = 7 ∧ ¬ (6 : Int32) < 4 ∧ ¬ (6 : Int32) = 4 ∧ ¬ (6 : Int32) = 5 ∧ (-1 : Int32) < 0 := by decide
  have ref : ∀ y o z, mM_sayValue (some 188) 6 (Int32.ofNat b) (gH y x o z) = (if u.2.2.2.2.2.2.2.2.2.2.2.1 b < 0 then (if gio (gfi (fun i => decide (u.2.2.2.2.2.2.1 i = Int32.ofNat b)) p 0) < 0 then mM_sayObject (some 188) (Int32.ofNat b) (gH y x o z) else (mM_say (some 188) 7 (gH y x o z)).bind fun h37 => (gv_is h37 (some 188) 7).bind fun _ => (mM_passOf (some 188) (Int32.ofNat b) h37).bind fun v39 => (gv_is h37 (some 188) 7).bind fun _ => (mM_sayLengthy (some 188) (Int32.toInt64 v39) h37).bind fun h42 => some h42) else (mM_say (some 188) 6 (gH y x o z)).bind fun h45 => (gv_gR h45 (some 188) 7 30).bind fun v46 => (gv_lI h45 v46 (Int32.ofNat b)).bind fun v47 => (gv_is h45 (some 188) 7).bind fun _ => (mM_sayLengthy (some 188) (Int32.toInt64 v47) h45).bind fun h50 => some h50) := by
    intro y o z
    simp only [mM_sayValue, hi_188_18, Option.bind_some, h18, n_succ, if_neg l12, con.1, con.2.1, con.2.2.1, con.2.2.2.1, if_false, hr_188_30, ha_209 hb, pl1, ho_188, r_pass T.xp T.hp, ← pass_find T]
    split
    · split
      · exact Option.bind_fun_some _
      · rfl
    · rfl
  have cls : ∀ y o z, cW_writeObject F (some 169) (some 1) (some 165) (Int32.ofNat b) (Int32.ofNat (D + 1)) (gH u y o z) = (if u.2.2.2.2.2.2.2.2.2.2.2.1 b = -1 then (if gio (gfi (fun i => decide (u.2.2.2.2.2.2.1 i = Int32.ofNat b)) p 0) = -1 then (if Int32.ofNat s = 7 then some (gH ((u.1, u.2.1, u.2.2.1, u.2.2.2.1, u.2.2.2.2.1, u.2.2.2.2.2.1, u.2.2.2.2.2.2.1, u.2.2.2.2.2.2.2.1, gup u.2.2.2.2.2.2.2.2.1 4 1, u.2.2.2.2.2.2.2.2.2.1, u.2.2.2.2.2.2.2.2.2.2.1, u.2.2.2.2.2.2.2.2.2.2.2.1, u.2.2.2.2.2.2.2.2.2.2.2.2.1, u.2.2.2.2.2.2.2.2.2.2.2.2.2.1, u.2.2.2.2.2.2.2.2.2.2.2.2.2.2) : gU) y o z) else if (u.1 b).2.2.2.2.1 6 = 0 then (if Int32.ofNat s = 5 then ((cW_writeView F (some 169) (some 1) (some 165) (some (3 + 5 * b)) (Int32.ofNat (D + 1)) (gH u y o z)).bind fun h20 => (gv_is h20 (some 169) 5).bind fun _ => (cW_givePlace (some 169) (Int32.ofNat b) h20).bind fun h23 => some h23) else ((cW_givePlace (some 169) (Int32.ofNat b) (gH u y o z)).bind fun h26 => (gv_is h26 (some 169) 5).bind fun _ => (cW_writeParts F (some 169) (some 1) (some 165) (some (3 + 5 * b)) (Int32.ofNat (D + 1)) h26).bind fun h29 => some h29)) else some (gH ((u.1, u.2.1, u.2.2.1, u.2.2.2.1, u.2.2.2.2.1, u.2.2.2.2.2.1, u.2.2.2.2.2.2.1, u.2.2.2.2.2.2.2.1, gup u.2.2.2.2.2.2.2.2.1 4 1, u.2.2.2.2.2.2.2.2.2.1, u.2.2.2.2.2.2.2.2.2.2.1, u.2.2.2.2.2.2.2.2.2.2.2.1, u.2.2.2.2.2.2.2.2.2.2.2.2.1, u.2.2.2.2.2.2.2.2.2.2.2.2.2.1, u.2.2.2.2.2.2.2.2.2.2.2.2.2.2) : gU) y o z)) else (cW_writeByte (some 169) 7 (gH u y o z)).bind fun h33 => (gv_is h33 (some 165) 4).bind fun _ => (cH_placeOf (some 165) (Int32.ofNat b) h33).bind fun v35 => (gv_is h33 (some 169) 5).bind fun _ => (cW_writeLengthy (some 169) (Int32.toInt64 v35) h33).bind fun h38 => some h38) else (cW_writeByte (some 169) 6 (gH u y o z)).bind fun h41 => (gv_gR h41 (some 169) 5 1).bind fun v42 => (gv_lI h41 v42 (Int32.ofNat b)).bind fun v43 => (gv_is h41 (some 169) 5).bind fun _ => (cW_writeLengthy (some 169) (Int32.toInt64 v43) h41).bind fun h45 => some h45) := by
    intro y o z
    simp only [cW_writeObject, ho_1, Option.bind_some, k_tin T.un hn hbn, reduceCtorEq, if_false, hr_169_1, ha_172 hb, ho_165, k_place T.up T.hp, hiT_4 hb, O.es, hp_169_4, hiT_6 hb, ho_169]
  rcases pl2 with pm | ⟨j, hj, pj⟩
  · have pn : u.2.2.2.2.2.2.2.2.2.2.2.1 b < 0 := by rw [pm]; exact con.2.2.2.2
    cases hf : gfi (fun i => decide (u.2.2.2.2.2.2.1 i = Int32.ofNat b)) p 0 with
    | some t =>
      rw [hf] at ref cls
      have htp := (gfi_some _ _ _ hf).2.1
      have hp4 := T.hp
      have t1 : ¬ gio (some t) < 0 := n_nn (n := t) (by omega)
      have t2 : ¬ gio (some t) = -1 := n_ne1 (n := t) (by omega)
      obtain ⟨u1, x1, e1, a1, a2, a3, a4, a5⟩ := w_byte (b := 7) W ⟨7, by omega, rfl⟩
      obtain ⟨u2, x2, e2, b1, b2, b3, b4, b5⟩ := w_lengthy (v := Int32.toInt64 (Int32.ofNat t)) a3
      have hf1 : gfi (fun i => decide (u1.2.2.2.2.2.2.1 i = Int32.ofNat b)) p 0 = some t := by rw [a5.u6]; exact hf
      have hf2 : gfi (fun i => decide (x1.2.2.1 i = Int32.ofNat b)) p 0 = some t := by rw [a5.b197, ← pass_find T]; exact hf
      have T1 := a3.T
      refine gOb_by (gBy_trans a5 b5) b3 (fun q => by have := a4 (gBy_0 b5 q); have := b4 q; omega) h18 (fun y o z => ?_) (fun y o z => ?_)
      · rw [cls, if_pos pm, if_neg t2, a1, Option.bind_some, ho_165, Option.bind_some, k_place T1.up T1.hp, hf1, Option.bind_some, ho_169, Option.bind_some]
        show (cW_writeLengthy (some 169) (Int32.toInt64 (Int32.ofNat t)) (gH u1 y o z)).bind _ = _
        rw [b1]; rfl
      · rw [ref, if_pos pn, if_neg t1, a2, Option.bind_some, ho_188, Option.bind_some, r_pass T1.xp T1.hp, hf2, Option.bind_some, Option.bind_some]
        show (mM_sayLengthy (some 188) (Int32.toInt64 (Int32.ofNat t)) (gH y x1 o z)).bind _ = _
        rw [b2]; rfl
    | none =>
      rw [hf] at ref cls
      have ref2 : ∀ y o z, mM_sayValue (some 188) 6 (Int32.ofNat b) (gH y x o z) = mM_sayObject (some 188) (Int32.ofNat b) (gH y x o z) := fun y o z => by
        rw [ref, if_pos pn, if_pos (show gio none < 0 from con.2.2.2.2)]
      have cls2 := fun y o z => (cls y o z).trans ((if_pos pm).trans (if_pos (show gio none = -1 from rfl)))
      obtain ⟨_, e6, e7, e0, e1, e2, e3, e4, e5⟩ := n_s6 s O.s8
      by_cases s7 : s = 7
      · refine gOb_bad W (fun y o z => ?_) (fun y o z => ?_)
        · rw [cls2, if_pos (e7.mpr s7)]
        · rw [ref2]
          simp only [mM_sayObject, hr_188_2, Option.bind_some, ha_189 hb, O.et, e7, if_pos s7, hp_188_26]
      · by_cases d0 : (u.1 b).2.2.2.2.1 6 = 0
        · have ref3 : ∀ y o z, mM_sayValue (some 188) 6 (Int32.ofNat b) (gH y x o z) = mM_sayObject_33 (some 188) (Int32.ofNat b) (Int32.ofNat s) (gH y x o z) := by
            intro y o z
            rw [ref2]
            simp only [mM_sayObject, hr_188_2, Option.bind_some, ha_189 hb, O.et, e7, if_neg s7, e4, hr_188_4, ha_191 hb, O.ed, d0, if_true, ite_self]
          have cls3 := fun y o z => (cls2 y o z).trans ((if_neg (fun q => s7 (e7.mp q))).trans (if_pos d0))
          by_cases s5 : s = 5
          · subst s5
            obtain ⟨u', x1, x', k1, k2, k3, k4, k5⟩ := w_view hD hn hbn ih dead W h0 hlt h18 O
            exact ⟨u', x1, x', fun y o z => ((cls3 y o z).trans (if_pos rfl)).trans (k1 y o z), fun y o z => (ref3 y o z).trans (k2 y o z), k3, k4, k5⟩
          · have cls4 : ∀ y o z, cW_writeObject F (some 169) (some 1) (some 165) (Int32.ofNat b) (Int32.ofNat (D + 1)) (gH u y o z) = (cW_givePlace (some 169) (Int32.ofNat b) (gH u y o z)).bind fun h26 => cW_writeParts F (some 169) (some 1) (some 165) (some (3 + 5 * b)) (Int32.ofNat (D + 1)) h26 := fun y o z => by
              rw [cls3, if_neg (fun q => s5 (e5.mp q)), k_give hb, Option.bind_some, Option.bind_some, ho_169, Option.bind_some]
              exact Option.bind_fun_some _
            have fin : gOb n m p q D (8 * (B + 1) + 1) e g u x (fun h => (cW_givePlace (some 169) (Int32.ofNat b) h).bind fun h26 => cW_writeParts F (some 169) (some 1) (some 165) (some (3 + 5 * b)) (Int32.ofNat (D + 1)) h26) (fun h => mM_sayObject_33 (some 188) (Int32.ofNat b) (Int32.ofNat s) h) := by
              have h8 := O.s8
              rcases (by omega : s = 0 ∨ (s = 1 ∨ s = 2 ∨ s = 3) ∨ s = 4 ∨ s = 6) with r | r | r | r
              · subst r; exact w_rec hD hn hbn ih dead W h0 hlt h18 O
              · exact w_many hD hn hbn ih dead W h0 hlt h18 r O
              · subst r; exact w_buf hn hbn W h0 hlt h18 O d0
              · subst r; exact w_stamp hn hbn W h0 hlt h18 O
            obtain ⟨u', x1, x', k1, k2, k3, k4, k5⟩ := fin
            exact ⟨u', x1, x', fun y o z => (cls4 y o z).trans (k1 y o z), fun y o z => (ref3 y o z).trans (k2 y o z), k3, k4, k5⟩
        · have s4 : s = 4 := by rcases O.d4 with h | h; exact absurd h d0; exact h.2
          refine gOb_bad W (fun y o z => ?_) (fun y o z => ?_)
          · rw [cls2, if_neg (fun q => s7 (e7.mp q)), if_neg d0]
          · rw [ref2]
            simp only [mM_sayObject, hr_188_2, Option.bind_some, ha_189 hb, O.et, e7, if_neg s7, e4, if_pos s4, hr_188_4, ha_191 hb, O.ed, if_neg d0, hp_188_26]
  · have pn : ¬ u.2.2.2.2.2.2.2.2.2.2.2.1 b < 0 := by rw [pj]; exact n_nn (by omega)
    have pm : ¬ u.2.2.2.2.2.2.2.2.2.2.2.1 b = -1 := by rw [pj]; exact n_ne1 (by omega)
    obtain ⟨u1, x1, e1, a1, a2, a3, a4, a5⟩ := w_byte (b := 6) W ⟨6, by omega, rfl⟩
    obtain ⟨u2, x2, e2, b1, b2, b3, b4, b5⟩ := w_lengthy (v := Int32.toInt64 (u.2.2.2.2.2.2.2.2.2.2.2.1 b)) a3
    refine gOb_by (gBy_trans a5 b5) b3 (fun q => by have := a4 (gBy_0 b5 q); have := b4 q; omega) h18 (fun y o z => ?_) (fun y o z => ?_)
    · have e1 : u1.2.2.2.2.2.2.2.2.2.2.2.1 b = u.2.2.2.2.2.2.2.2.2.2.2.1 b := by rw [a5.b172]
      rw [cls, if_neg pm, a1, Option.bind_some, hr_169_1, Option.bind_some, ha_172 hb, Option.bind_some, ho_169, Option.bind_some, e1, b1]
      rfl
    · have e1 : x1.2.2.2.2.2.2.2.2.2.2.2.2.2.2.1 b = u.2.2.2.2.2.2.2.2.2.2.2.1 b := by rw [a5.b209]; exact pl1
      rw [ref, if_neg pn, a2, Option.bind_some, hr_188_30, Option.bind_some, ha_209 hb, Option.bind_some, ho_188, Option.bind_some, e1, b2]
      rfl
/-- how many turns the reference's loop may take for one value, t levels below the deepest -/
def gBd : Nat → Nat
  | 0 => 0
  | t + 1 => 8 * (gBd t + 1) + 1
theorem w_dead {f : Nat} : gDead (cW_writeValue (f + 1)) := by
  intro u y o z k v d h
  rw [cW_writeValue]
  simp only [hi_169_4, Option.bind_some, if_neg h]
theorem w_val : ∀ (t D f : Nat), D + t = 12 → gIH n m p q D (gBd t) (cW_writeValue (f + t + 1)) := by
  intro t
  induction t with
  | zero =>
    intro D f hD u x e g k v W h0 hlt h18 hv
    obtain rfl : D = 12 := by omega
    have l12 : (12 : Int32) < Int32.ofNat (12 + 1) := by decide
    refine gOb_bad (B := gBd 0) (A := fun h => cW_writeValue (f + 0 + 1) (some 169) (some 1) (some 165) k v (Int32.ofNat (12 + 1)) h) (M := fun h => mM_sayValue (some 188) k v h) W (fun y o z => ?_) (fun y o z => ?_)
    · show cW_writeValue (f + 0 + 1) _ _ _ _ _ _ _ = _
      rw [cW_writeValue]
      simp only [hi_169_4, Option.bind_some, h0, if_true, if_pos l12, hp_169_4]
    · simp only [mM_sayValue, hi_188_18, Option.bind_some, h18, n_succ, if_pos l12, hp_188_26]
  | succ t IH =>
    intro D f hD u x e g k v W h0 hlt h18 hv
    have l12 : ¬ (12 : Int32) < Int32.ofNat (D + 1) := n_nltl (n := 12) (by omega) (by omega) (by omega)
    have ih := IH (D + 1) f (by omega)
    have dead : gDead (cW_writeValue (f + t + 1)) := w_dead
    obtain ⟨j, hj, rfl, hv6⟩ := hv
    by_cases j7 : j = 7
    · subst j7
      refine gOb_bad (B := gBd (t + 1)) (A := fun h => cW_writeValue (f + (t + 1) + 1) (some 169) (some 1) (some 165) (Int32.ofNat 7) v (Int32.ofNat (D + 1)) h) (M := fun h => mM_sayValue (some 188) (Int32.ofNat 7) v h) W (fun y o z => ?_) (fun y o z => ?_)
      · show cW_writeValue (f + (t + 1) + 1) _ _ _ _ _ _ _ = _
        rw [cW_writeValue]
        simp only [hi_169_4, Option.bind_some, h0, if_true, if_neg l12, show Int32.ofNat 7 = (7 : Int32) from rfl, hp_169_4]
      · simp only [mM_sayValue, hi_188_18, Option.bind_some, h18, n_succ, if_neg l12, show Int32.ofNat 7 = (7 : Int32) from rfl, if_true, hp_188_26]
    · by_cases j6 : j = 6
      · subst j6
        obtain ⟨b, hb, rfl⟩ := hv6 rfl
        obtain ⟨u', x1, x', k1, k2, k3, k4, k5⟩ := w_obj (B := gBd t) (by omega) hb ih dead W h0 hlt h18
        refine ⟨u', x1, x', fun y o z => ?_, k2, k3, k4, k5⟩
        rw [show f + (t + 1) + 1 = (f + t + 1) + 1 by omega, cW_writeValue]
        simp only [hi_169_4, Option.bind_some, h0, if_true, if_neg l12, show Int32.ofNat 6 = (6 : Int32) from rfl, show ¬ (6 : Int32) = 7 by decide, if_false, ho_169]
        exact (Option.bind_fun_some _).trans (k1 y o z)
      · obtain ⟨u', x', e', k1, k2, k3, k4, k5⟩ := w_prim (F := f + t + 1) (v := v) W h0 (by omega) h18 (show j ≤ 5 by omega)
        exact gOb_by k5 k3 (fun q => by have := k4 q; omega) h18 (A := fun h => cW_writeValue (f + (t + 1) + 1) (some 169) (some 1) (some 165) (Int32.ofNat j) v (Int32.ofNat (D + 1)) h) (M := fun h => mM_sayValue (some 188) (Int32.ofNat j) v h) k1 k2
end H
