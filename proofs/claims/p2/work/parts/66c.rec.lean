/-! records, written -/
theorem gm_layD : ∀ d : Nat, d < 13 → gm_lay (174 + d) = (100, List.replicate 6 (1, 0)) := by decide
section H
variable {n m p q : Nat} {F : gWf}
theorem hk_row {d i : Nat} {u : gU} {x : gX} {o : Nat → Int64} {z : gx_H} (hd : d < 13) (hi : i < 6) : gv_lI (gH u x o z) (some (174 + d)) (Int32.ofNat i) = some (u.2.2.2.2.2.2.2.2.2.2.2.2.2.1 d i) := by
  unfold gH
  rw [gm_lI (gm_blt (by omega)) (by rw [gm_layD d hd]) (n_nn (by omega)) (by rw [gm_layD d hd, n_cl (by omega)]; exact gm_rep hi), n_cl (by omega), gf_dI hd]
theorem hk_arr {d : Nat} {u : gU} {x : gX} {o : Nat → Int64} {z : gx_H} (hd : d < 13) : gv_lA (gH u x o z) (some 173) (Int32.ofNat d) = some (some (174 + d)) := by
  unfold gH
  refine gm_lA rfl rfl (n_nn (by omega)) ?_
  rw [n_cl (by omega)]
  show ((List.range 13).map fun i => ((0, 174 + i) : Nat × Nat))[d]? = _
  simp [hd]
theorem hk_cp {d k c : Nat} {u : gU} {x : gX} {o : Nat → Int64} {z : gx_H} (hd : d < 13) (hk : k < 32) (hc : c ≤ 6) : gv_cp (gH u x o z) (some (3 + 5 * k + 2)) 0 (some (174 + d)) 0 (Int32.ofNat c) = some (gH ((u.1, u.2.1, u.2.2.1, u.2.2.2.1, u.2.2.2.2.1, u.2.2.2.2.2.1, u.2.2.2.2.2.2.1, u.2.2.2.2.2.2.2.1, u.2.2.2.2.2.2.2.2.1, u.2.2.2.2.2.2.2.2.2.1, u.2.2.2.2.2.2.2.2.2.2.1, u.2.2.2.2.2.2.2.2.2.2.2.1, u.2.2.2.2.2.2.2.2.2.2.2.2.1, gup u.2.2.2.2.2.2.2.2.2.2.2.2.2.1 d (fun i => if i < c then (u.1 k).2.1 i else u.2.2.2.2.2.2.2.2.2.2.2.2.2.1 d i), u.2.2.2.2.2.2.2.2.2.2.2.2.2.2) : gU) x o z) := by
  unfold gH
  rw [gm_cp (n0 := 8) (n1 := 6) (by omega) (by omega) (gm_layA hk (by omega) (by omega)) (gm_layD d hd) (by omega) hc (by omega), gf_kd hk hd]
  rfl
theorem gW_kd {e g : Nat} {u : gU} {x : gX} {r : Nat → Nat → Int32} (W : gW n m p q e g u x) : gW n m p q e g ((u.1, u.2.1, u.2.2.1, u.2.2.2.1, u.2.2.2.2.1, u.2.2.2.2.2.1, u.2.2.2.2.2.2.1, u.2.2.2.2.2.2.2.1, u.2.2.2.2.2.2.2.2.1, u.2.2.2.2.2.2.2.2.2.1, u.2.2.2.2.2.2.2.2.2.2.1, u.2.2.2.2.2.2.2.2.2.2.2.1, u.2.2.2.2.2.2.2.2.2.2.2.2.1, r, u.2.2.2.2.2.2.2.2.2.2.2.2.2.2) : gU) x := by
  have T := W.T
  exact ⟨⟨T.hn, T.un, T.xn, T.ob, T.hm, T.um, T.xm, T.bs, T.b8, T.hp, T.up, T.xp, T.pa, T.pb, T.hq, T.uq, T.xq, T.ho, T.fo⟩, W.oc, W.o2, W.he, W.hg, W.dE, W.xe, W.dr, W.ug, W.xg, W.pl⟩
theorem k_lDead {u : gU} {y : gX} {o : Nat → Int64} {z : gx_H} {v : Int64} (h : ¬ u.2.2.2.2.2.2.2.2.1 4 = 0) (W : ∃ n m p q e g x, gW n m p q e g u x) : cW_writeZigzag (some 169) v (gH u y o z) = some (gH u y o z) := by
  obtain ⟨n, m, p, q, e, g, x, W⟩ := W
  obtain ⟨u', x', e', h1, h2, h3, h4, h5⟩ := w_zigzag (v := v) W
  have := (h5.dead h).1
  subst this
  exact h1 y o z
/-- one property's bytes and value, once a getter has run -/
theorem w_prop {D B e g : Nat} {u : gU} {x : gX} {key kd nm : Int32} (ih : gIH n m p q (D + 1) B F) (dead : gDead F) (W : gW n m p q e g u x) (st : u.2.2.2.2.2.2.2.2.1 4 = 0 → g < e ∧ x.2.1 18 = Int32.ofNat (D + 1)) (hv : ∃ j, j < 8 ∧ kd = Int32.ofNat j ∧ (j = 6 → ∃ b, b < n ∧ nm = Int32.ofNat b)) : ∃ u' x1 x', (∀ y o z, cW_writeProperty_54 F (some 169) (some 1) (some 165) (Int32.ofNat (D + 1)) key kd nm (gH u y o z) = some (gH u' y o z)) ∧ (∀ y o z, mM_sayProperty_47 (some 188) key kd nm (gH y x o z) = some (gH y x1 o z)) ∧ gRun B x1 x' ∧ gEnd n m p q (D + 1) e g u x u' x' ∧ (u'.2.2.2.2.2.2.2.2.1 4 = 0 → x'.2.1 18 = Int32.ofNat (D + 1)) := by
  obtain ⟨u1, x1, e1, a1, a2, a3, a4, a5⟩ := w_byte (b := 1) W ⟨1, by omega, rfl⟩
  obtain ⟨u2, x2, e2, b1, b2, b3, b4, b5⟩ := w_zigzag (v := Int32.toInt64 key) a3
  have B5 := gBy_trans a5 b5
  have cl : ∀ y o z, cW_writeProperty_54 F (some 169) (some 1) (some 165) (Int32.ofNat (D + 1)) key kd nm (gH u y o z) = F (some 169) (some 1) (some 165) kd nm (Int32.ofNat (D + 1 + 1)) (gH u2 y o z) := by
    intro y o z
    simp only [cW_writeProperty_54, ho_169, Option.bind_some, a1, b1, n_succ]
    exact Option.bind_fun_some _
  by_cases h0 : u.2.2.2.2.2.2.2.2.1 4 = 0
  · have oc : x.2.1 26 = 0 := W.oc.trans h0
    obtain ⟨g1, g2⟩ := st h0
    have rf : ∀ y o z, mM_sayProperty_47 (some 188) key kd nm (gH y x o z) = mM_sayProperty_68 (some 188) kd nm (gH y x2 o z) := by
      intro y o z
      have := b2 y o z
      simp only [mM_zigzag, Option.bind_some] at this
      simp only [mM_sayProperty_47, hi_188_26, Option.bind_some, oc, if_true, ho_188, a2, mM_zigzag, this]
    by_cases h2 : u2.2.2.2.2.2.2.2.2.1 4 = 0
    · have h1 := gBy_0 b5 h2
      have q1 := a4 h1
      have q2 := b4 h2
      have oc2 : x2.2.1 26 = 0 := b3.oc.trans h2
      obtain ⟨u3, x3, x4, k1, k2, k3, k4, k5⟩ := ih u2 x2 e2 g kd nm b3 h2 (by omega) ((B5.b188 18 (by omega) (by omega)).trans g2) hv
      refine ⟨u3, x3, x4, fun y o z => (cl y o z).trans (k1 y o z), fun y o z => ?_, k3, gEnd_trans (fun q => ⟨h0, by omega, by omega⟩) (gFr_by B5) k4 (Nat.le_refl _), k5⟩
      rw [rf]
      simp only [mM_sayProperty_68, hi_188_26, Option.bind_some, oc2, if_true, ho_188, k2]
    · have oc2 : ¬ x2.2.1 26 = 0 := fun h => h2 (b3.oc.symm.trans h)
      refine ⟨u2, x2, x2, fun y o z => (cl y o z).trans (dead u2 y o z _ _ _ h2), fun y o z => ?_, gRun_mono gRun_refl (by omega), ⟨e2, g, b3, fun q => absurd q h2, gFr_by B5⟩, fun q => absurd q h2⟩
      rw [rf]
      simp only [mM_sayProperty_68, hi_188_26, Option.bind_some, if_neg oc2]
  · have oc : ¬ x.2.1 26 = 0 := fun h => h0 (W.oc.symm.trans h)
    have eu := B5.dead h0
    refine ⟨u, x, x, fun y o z => ?_, fun y o z => ?_, gRun_mono gRun_refl (by omega), ⟨e, g, W, fun q => absurd q h0, gFr_refl⟩, fun q => absurd q h0⟩
    · rw [cl, eu.1]
      exact dead u y o z _ _ _ h0
    · simp only [mM_sayProperty_47, mM_sayProperty_68, hi_188_26, Option.bind_some, if_neg oc]
theorem w_recL {D k c B : Nat} (hD : D + 1 ≤ 12) (hkn : k < n) (hn : n ≤ 32) (ih : gIH n m p q (D + 1) B F) (dead : gDead F) (hc : c ≤ 6) : ∀ (r i f : Nat) (u : gU) (x : gX) (e g : Nat), i + r = c → gW n m p q e g u x → (u.2.2.2.2.2.2.2.2.1 4 = 0 → g < e ∧ x.2.1 18 = Int32.ofNat (D + 1) ∧ x.2.2.2.2.2.2.1 D = Int32.ofNat k ∧ x.2.2.2.2.2.2.2.1 D = Int32.ofNat i ∧ x.2.2.2.2.2.2.2.2.1 D = Int32.ofNat c ∧ ∀ j, j < c → x.2.2.2.2.2.2.2.2.2.1 (6 * D + j) = u.2.2.2.2.2.2.2.2.2.2.2.2.2.1 (D + 1) j) → (u.1 k).2.2.2.2.1 4 = Int32.ofNat 0 → ∃ u' x', (∀ y o z, cW_writeRecord_31 F (f + r + 1) (some 169) (some 1) (some 165) (some (3 + 5 * k)) (Int32.ofNat (D + 1)) (Int32.ofNat c) (some (174 + (D + 1))) (Int32.ofNat i) (gH u y o z) = some (gH u' y o z)) ∧ gRun (r * (B + 1) + 1) x x' ∧ gEnd n m p q D e g u x u' x' ∧ (u'.2.2.2.2.2.2.2.2.1 4 = 0 → x'.2.1 18 = Int32.ofNat D) := by
  have hk : k < 32 := by omega
  have hD14 : D < 14 := by omega
  have d13 : D + 1 < 13 := by omega
  have gone : ∀ (r i f : Nat) (u : gU) (x : gX) (e g : Nat), i + r = c → gW n m p q e g u x → ¬ u.2.2.2.2.2.2.2.2.1 4 = 0 → ∃ u' x', (∀ y o z, cW_writeRecord_31 F (f + r + 1) (some 169) (some 1) (some 165) (some (3 + 5 * k)) (Int32.ofNat (D + 1)) (Int32.ofNat c) (some (174 + (D + 1))) (Int32.ofNat i) (gH u y o z) = some (gH u' y o z)) ∧ gRun (r * (B + 1) + 1) x x' ∧ gEnd n m p q D e g u x u' x' ∧ (u'.2.2.2.2.2.2.2.2.1 4 = 0 → x'.2.1 18 = Int32.ofNat D) := by
    intro r i f u x e g h W h0
    refine ⟨u, x, fun y o z => ?_, gRun_mono gRun_refl (by omega), ⟨e, g, W, fun q => absurd q h0, gFr_refl⟩, fun q => absurd q h0⟩
    rw [cW_writeRecord_31]
    by_cases c1 : Int32.ofNat i < Int32.ofNat c
    · simp only [if_pos c1, hi_169_4, Option.bind_some, if_neg h0, cW_writeRecord_80, ho_169, k_wbDead h0]
    · simp only [if_neg c1, cW_writeRecord_80, ho_169, Option.bind_some, k_wbDead h0]
  intro r
  induction r with
  | zero =>
    intro i f u x e g h W st s1
    obtain rfl : i = c := by omega
    by_cases h0 : u.2.2.2.2.2.2.2.2.1 4 = 0
    · obtain ⟨g1, g2, g3, g4, g5, g6⟩ := st h0
      obtain ⟨s, c', O⟩ := W.T.ob k hkn
      have es : s = 0 := (n_eq (by have := O.s8; omega) (by omega)).mp (O.es.symm.trans s1)
      subst es
      obtain ⟨u1, x1, e1, a1, a2, a3, a4, a5⟩ := w_byte (b := 0) W ⟨0, by omega, rfl⟩
      have nx : ∀ y o z, mM_sayNext (some 188) (gH y x o z) = some (gH y ((x1.1, gup x1.2.1 18 (Int32.ofNat D), x1.2.2.1, x1.2.2.2.1, x1.2.2.2.2.1, x1.2.2.2.2.2.1, x1.2.2.2.2.2.2.1, x1.2.2.2.2.2.2.2.1, x1.2.2.2.2.2.2.2.2.1, x1.2.2.2.2.2.2.2.2.2.1, x1.2.2.2.2.2.2.2.2.2.2.1, x1.2.2.2.2.2.2.2.2.2.2.2.1, x1.2.2.2.2.2.2.2.2.2.2.2.2.1, x1.2.2.2.2.2.2.2.2.2.2.2.2.2.1, x1.2.2.2.2.2.2.2.2.2.2.2.2.2.2.1, x1.2.2.2.2.2.2.2.2.2.2.2.2.2.2.2) : gX) o z) := by
        intro y o z
        have p18 : x1.2.1 18 = Int32.ofNat (D + 1) := (a5.b188 18 (by omega) (by omega)).trans g2
        simp only [mM_sayNext, hi_188_18, Option.bind_some, g2, n_pred, hr_188_19, ha_201 hD14, g3, hr_188_20, ha_202 hD14, g4, hr_188_2, ha_189 hk, O.et, hr_188_21, ha_203 hD14, g5, if_true, show Int32.ofNat 0 = (0 : Int32) from rfl, ho_188, a2, p18, hp_188_18]
      refine ⟨u1, ((x1.1, gup x1.2.1 18 (Int32.ofNat D), x1.2.2.1, x1.2.2.2.1, x1.2.2.2.2.1, x1.2.2.2.2.2.1, x1.2.2.2.2.2.2.1, x1.2.2.2.2.2.2.2.1, x1.2.2.2.2.2.2.2.2.1, x1.2.2.2.2.2.2.2.2.2.1, x1.2.2.2.2.2.2.2.2.2.2.1, x1.2.2.2.2.2.2.2.2.2.2.2.1, x1.2.2.2.2.2.2.2.2.2.2.2.2.1, x1.2.2.2.2.2.2.2.2.2.2.2.2.2.1, x1.2.2.2.2.2.2.2.2.2.2.2.2.2.2.1, x1.2.2.2.2.2.2.2.2.2.2.2.2.2.2.2) : gX), fun y o z => ?_, gRun_mono (gRun_step (W.oc.trans h0) g2 hD14 nx) (by omega), ⟨e1, g, gW_x a3 rfl (fun i h => gup_ne h) rfl rfl rfl rfl rfl rfl, fun q => ⟨h0, by have := a4 q; omega, by have := a4 q; omega⟩, ?_⟩, fun _ => rfl⟩
      · rw [cW_writeRecord_31, if_neg (n_nltl (by omega) (by omega) (by omega))]
        simp only [cW_writeRecord_80, ho_169, Option.bind_some, a1]
      · have := gFr_by (D := D) a5
        exact ⟨this.fkd, this.so, this.fct, this.pi, this.hk, this.fpa⟩
    · exact gone 0 i f u x e g (by omega) W h0
  | succ r IH =>
    intro i f u x e g h W st s1
    by_cases h0 : u.2.2.2.2.2.2.2.2.1 4 = 0
    · obtain ⟨g1, g2, g3, g4, g5, g6⟩ := st h0
      obtain ⟨s, c', O⟩ := W.T.ob k hkn
      have es : s = 0 := (n_eq (by have := O.s8; omega) (by omega)).mp (O.es.symm.trans s1)
      subst es
      have c6 : c' ≤ 6 := O.c8
      have i6 : i < 6 := by omega
      have hi : i < c := by omega
      have ne : ¬ Int32.ofNat i = Int32.ofNat c := fun q => by have := (n_eq (by omega) (by omega)).mp q; omega
      have key := g6 i hi
      have W27 : gW n m p q e g u ((x.1, x.2.1, x.2.2.1, x.2.2.2.1, x.2.2.2.2.1, x.2.2.2.2.2.1, x.2.2.2.2.2.2.1, gup x.2.2.2.2.2.2.2.1 D (Int32.ofNat (i + 1)), x.2.2.2.2.2.2.2.2.1, x.2.2.2.2.2.2.2.2.2.1, x.2.2.2.2.2.2.2.2.2.2.1, x.2.2.2.2.2.2.2.2.2.2.2.1, x.2.2.2.2.2.2.2.2.2.2.2.2.1, x.2.2.2.2.2.2.2.2.2.2.2.2.2.1, x.2.2.2.2.2.2.2.2.2.2.2.2.2.2.1, x.2.2.2.2.2.2.2.2.2.2.2.2.2.2.2) : gX) := gW_x W rfl (fun _ _ => rfl) rfl rfl rfl rfl rfl rfl
      have F27 : gFr D u u x ((x.1, x.2.1, x.2.2.1, x.2.2.2.1, x.2.2.2.2.1, x.2.2.2.2.2.1, x.2.2.2.2.2.2.1, gup x.2.2.2.2.2.2.2.1 D (Int32.ofNat (i + 1)), x.2.2.2.2.2.2.2.2.1, x.2.2.2.2.2.2.2.2.2.1, x.2.2.2.2.2.2.2.2.2.2.1, x.2.2.2.2.2.2.2.2.2.2.2.1, x.2.2.2.2.2.2.2.2.2.2.2.2.1, x.2.2.2.2.2.2.2.2.2.2.2.2.2.1, x.2.2.2.2.2.2.2.2.2.2.2.2.2.2.1, x.2.2.2.2.2.2.2.2.2.2.2.2.2.2.2) : gX) := ⟨fun _ _ => rfl, fun _ => rfl, fun _ _ => rfl, fun j hj => ⟨rfl, gup_ne (by omega), rfl⟩, fun _ _ => rfl, rfl⟩
      have ix := fun y o z => k_index (u := u) (x := y) (o := o) (z := z) (a := 4) (b := u.2.2.2.2.2.2.2.2.2.2.2.2.2.1 (D + 1) i) hk O.ec (show c' ≤ 8 by omega)
      have sl : ∀ y o z, mM_slotOf (some 188) (Int32.ofNat k) (u.2.2.2.2.2.2.2.2.2.2.2.2.2.1 (D + 1) i) (gH y ((x.1, x.2.1, x.2.2.1, x.2.2.2.1, x.2.2.2.2.1, x.2.2.2.2.2.1, x.2.2.2.2.2.2.1, gup x.2.2.2.2.2.2.2.1 D (Int32.ofNat (i + 1)), x.2.2.2.2.2.2.2.2.1, x.2.2.2.2.2.2.2.2.2.1, x.2.2.2.2.2.2.2.2.2.2.1, x.2.2.2.2.2.2.2.2.2.2.2.1, x.2.2.2.2.2.2.2.2.2.2.2.2.1, x.2.2.2.2.2.2.2.2.2.2.2.2.2.1, x.2.2.2.2.2.2.2.2.2.2.2.2.2.2.1, x.2.2.2.2.2.2.2.2.2.2.2.2.2.2.2) : gX) o z) = some (gis k (gfi (fun j => decide ((u.1 k).1 j = 4 ∧ (u.1 k).2.1 j = u.2.2.2.2.2.2.2.2.2.2.2.2.2.1 (D + 1) i)) c' 0)) := fun y o z => by
        rw [r_slot (x := ((x.1, x.2.1, x.2.2.1, x.2.2.2.1, x.2.2.2.2.1, x.2.2.2.2.2.1, x.2.2.2.2.2.2.1, gup x.2.2.2.2.2.2.2.1 D (Int32.ofNat (i + 1)), x.2.2.2.2.2.2.2.2.1, x.2.2.2.2.2.2.2.2.2.1, x.2.2.2.2.2.2.2.2.2.2.1, x.2.2.2.2.2.2.2.2.2.2.2.1, x.2.2.2.2.2.2.2.2.2.2.2.2.1, x.2.2.2.2.2.2.2.2.2.2.2.2.2.1, x.2.2.2.2.2.2.2.2.2.2.2.2.2.2.1, x.2.2.2.2.2.2.2.2.2.2.2.2.2.2.2) : gX)) hk (rec_f6 O) (show c' ≤ 8 by omega), rec_find O]
      have top : ∀ y o z, mM_sayNext (some 188) (gH y x o z) = mM_sayProperty (some 188) (Int32.ofNat k) (u.2.2.2.2.2.2.2.2.2.2.2.2.2.1 (D + 1) i) (gH y ((x.1, x.2.1, x.2.2.1, x.2.2.2.1, x.2.2.2.2.1, x.2.2.2.2.2.1, x.2.2.2.2.2.2.1, gup x.2.2.2.2.2.2.2.1 D (Int32.ofNat (i + 1)), x.2.2.2.2.2.2.2.2.1, x.2.2.2.2.2.2.2.2.2.1, x.2.2.2.2.2.2.2.2.2.2.1, x.2.2.2.2.2.2.2.2.2.2.2.1, x.2.2.2.2.2.2.2.2.2.2.2.2.1, x.2.2.2.2.2.2.2.2.2.2.2.2.2.1, x.2.2.2.2.2.2.2.2.2.2.2.2.2.2.1, x.2.2.2.2.2.2.2.2.2.2.2.2.2.2.2) : gX) o z) := by
        intro y o z
        simp only [mM_sayNext, hi_188_18, Option.bind_some, g2, n_pred, hr_188_19, ha_201 hD14, g3, hr_188_20, ha_202 hD14, g4, hr_188_2, ha_189 hk, O.et, hr_188_21, ha_203 hD14, g5, if_neg ne, hb_202 hD14, n_succ, show Int32.ofNat 0 = (0 : Int32) from rfl, if_true, hr_188_22, n_6, ha_204 (show 6 * D + i < 84 by omega), key, ho_188]
        exact Option.bind_fun_some _
      have cl : ∀ y o z, cW_writeRecord_31 F (f + (r + 1) + 1) (some 169) (some 1) (some 165) (some (3 + 5 * k)) (Int32.ofNat (D + 1)) (Int32.ofNat c) (some (174 + (D + 1))) (Int32.ofNat i) (gH u y o z) = (if gio (gfi (fun j => decide ((u.1 k).1 j = 4 ∧ (u.1 k).2.1 j = u.2.2.2.2.2.2.2.2.2.2.2.2.2.1 (D + 1) i)) c' 0) = -1 then cW_writeRecord_31 F (f + r + 1) (some 169) (some 1) (some 165) (some (3 + 5 * k)) (Int32.ofNat (D + 1)) (Int32.ofNat c) (some (174 + (D + 1))) (Int32.ofNat (i + 1)) (gH u y o z) else (cW_writeProperty F (some 169) (some 1) (some 165) (some (3 + 5 * k)) (gio (gfi (fun j => decide ((u.1 k).1 j = 4 ∧ (u.1 k).2.1 j = u.2.2.2.2.2.2.2.2.2.2.2.2.2.1 (D + 1) i)) c' 0)) (Int32.ofNat (D + 1)) (gH u y o z)).bind fun h10 => cW_writeRecord_31 F (f + r + 1) (some 169) (some 1) (some 165) (some (3 + 5 * k)) (Int32.ofNat (D + 1)) (Int32.ofNat c) (some (174 + (D + 1))) (Int32.ofNat (i + 1)) h10) := by
        intro y o z
        rw [show f + (r + 1) + 1 = (f + r + 1) + 1 by omega, cW_writeRecord_31, if_pos (n_ltl (by omega) (by omega) (by omega))]
        simp only [hi_169_4, Option.bind_some, h0, if_true, hk_row d13 i6, ho_T hk, ix, cW_writeRecord_74, n_succ, ho_169]
      have keep : ∀ (u2 : gU) (x3 : gX) (e3 g3' : Nat), gW n m p q e3 g3' u2 x3 → (u2.2.2.2.2.2.2.2.2.1 4 = 0 → e ≤ e3 ∧ g3' + e ≤ g + e3) → gFr (D + 1) u u2 ((x.1, x.2.1, x.2.2.1, x.2.2.2.1, x.2.2.2.2.1, x.2.2.2.2.2.1, x.2.2.2.2.2.2.1, gup x.2.2.2.2.2.2.2.1 D (Int32.ofNat (i + 1)), x.2.2.2.2.2.2.2.2.1, x.2.2.2.2.2.2.2.2.2.1, x.2.2.2.2.2.2.2.2.2.2.1, x.2.2.2.2.2.2.2.2.2.2.2.1, x.2.2.2.2.2.2.2.2.2.2.2.2.1, x.2.2.2.2.2.2.2.2.2.2.2.2.2.1, x.2.2.2.2.2.2.2.2.2.2.2.2.2.2.1, x.2.2.2.2.2.2.2.2.2.2.2.2.2.2.2) : gX) x3 → (u2.2.2.2.2.2.2.2.2.1 4 = 0 → x3.2.1 18 = Int32.ofNat (D + 1)) → ∃ u' x', (∀ y o z, cW_writeRecord_31 F (f + r + 1) (some 169) (some 1) (some 165) (some (3 + 5 * k)) (Int32.ofNat (D + 1)) (Int32.ofNat c) (some (174 + (D + 1))) (Int32.ofNat (i + 1)) (gH u2 y o z) = some (gH u' y o z)) ∧ gRun (r * (B + 1) + 1) x3 x' ∧ gEnd n m p q D e g u x u' x' ∧ (u'.2.2.2.2.2.2.2.2.1 4 = 0 → x'.2.1 18 = Int32.ofNat D) := by
        intro u2 x3 e3 g3' l1 l2 l3 l4
        obtain ⟨u', x', b1, b2, b3, b4⟩ := IH (i + 1) f u2 x3 e3 g3' (by omega) l1 (fun q => by
          obtain ⟨m2, m3⟩ := l2 q
          obtain ⟨p1, p2, p3⟩ := l3.pi D (by omega)
          refine ⟨by omega, l4 q, p1.trans g3, p2.trans gup_eq, p3.trans g5, fun j hj => ?_⟩
          rw [l3.fkd (D + 1) (Nat.le_refl _)]
          exact (l3.hk (6 * D + j) (by omega)).trans (g6 j hj)) ((l3.so k).trans s1)
        exact ⟨u', x', b1, b2, gEnd_trans (fun q => ⟨h0, l2 q⟩) (gFr_trans F27 l3 (by omega)) b3 (Nat.le_refl _), b4⟩
      cases hf : gfi (fun j => decide ((u.1 k).1 j = 4 ∧ (u.1 k).2.1 j = u.2.2.2.2.2.2.2.2.2.2.2.2.2.1 (D + 1) i)) c' 0 with
      | none =>
        rw [hf] at cl sl
        have nx : ∀ y o z, mM_sayNext (some 188) (gH y x o z) = some (gH y ((x.1, x.2.1, x.2.2.1, x.2.2.2.1, x.2.2.2.2.1, x.2.2.2.2.2.1, x.2.2.2.2.2.2.1, gup x.2.2.2.2.2.2.2.1 D (Int32.ofNat (i + 1)), x.2.2.2.2.2.2.2.2.1, x.2.2.2.2.2.2.2.2.2.1, x.2.2.2.2.2.2.2.2.2.2.1, x.2.2.2.2.2.2.2.2.2.2.2.1, x.2.2.2.2.2.2.2.2.2.2.2.2.1, x.2.2.2.2.2.2.2.2.2.2.2.2.2.1, x.2.2.2.2.2.2.2.2.2.2.2.2.2.2.1, x.2.2.2.2.2.2.2.2.2.2.2.2.2.2.2) : gX) o z) := by
          intro y o z
          rw [top]
          simp only [mM_sayProperty, ho_188, Option.bind_some, sl, gis, show (-1 : Int32) < 0 by decide, if_true]
        obtain ⟨u', x', b1, b2, b3, b4⟩ := keep u _ e g W27 (fun _ => ⟨Nat.le_refl _, Nat.le_refl _⟩) gFr_refl (fun _ => g2)
        refine ⟨u', x', fun y o z => ?_, gRun_mono (gRun_trans (gRun_step (W.oc.trans h0) g2 hD14 nx) b2) (by rw [Nat.succ_mul]; omega), b3, b4⟩
        rw [cl, if_pos (show gio none = -1 from rfl), b1]
      | some t =>
        rw [hf] at cl sl
        obtain ⟨_, ht, ht2, _⟩ := gfi_some _ _ _ hf
        have ht' : t < c' := by omega
        have t8 : t < 8 := by omega
        simp only [decide_eq_true_eq] at ht2
        obtain ⟨v1, v2⟩ := O.vs (by omega) t ht'
        have vv := O.vv (by omega) t ht'
        have nt : ¬ gio (some t) = -1 := n_ne1 (n := t) (by omega)
        have sp : ∀ y o z, mM_sayNext (some 188) (gH y x o z) = (if (u.1 k).2.2.1 t = 8 then (mM_run (some 188) (Int32.ofNat k) ((u.1 k).2.2.2.1 t) (gH y ((x.1, x.2.1, x.2.2.1, x.2.2.2.1, x.2.2.2.2.1, x.2.2.2.2.2.1, x.2.2.2.2.2.2.1, gup x.2.2.2.2.2.2.2.1 D (Int32.ofNat (i + 1)), x.2.2.2.2.2.2.2.2.1, x.2.2.2.2.2.2.2.2.2.1, x.2.2.2.2.2.2.2.2.2.2.1, x.2.2.2.2.2.2.2.2.2.2.2.1, x.2.2.2.2.2.2.2.2.2.2.2.2.1, x.2.2.2.2.2.2.2.2.2.2.2.2.2.1, x.2.2.2.2.2.2.2.2.2.2.2.2.2.2.1, x.2.2.2.2.2.2.2.2.2.2.2.2.2.2.2) : gX) o z)).bind fun r12 => mM_sayProperty_47 (some 188) (u.2.2.2.2.2.2.2.2.2.2.2.2.2.1 (D + 1) i) 4 r12.1 r12.2 else mM_sayProperty_47 (some 188) (u.2.2.2.2.2.2.2.2.2.2.2.2.2.1 (D + 1) i) ((u.1 k).2.2.1 t) ((u.1 k).2.2.2.1 t) (gH y ((x.1, x.2.1, x.2.2.1, x.2.2.2.1, x.2.2.2.2.1, x.2.2.2.2.2.1, x.2.2.2.2.2.2.1, gup x.2.2.2.2.2.2.2.1 D (Int32.ofNat (i + 1)), x.2.2.2.2.2.2.2.2.1, x.2.2.2.2.2.2.2.2.2.1, x.2.2.2.2.2.2.2.2.2.2.1, x.2.2.2.2.2.2.2.2.2.2.2.1, x.2.2.2.2.2.2.2.2.2.2.2.2.1, x.2.2.2.2.2.2.2.2.2.2.2.2.2.1, x.2.2.2.2.2.2.2.2.2.2.2.2.2.2.1, x.2.2.2.2.2.2.2.2.2.2.2.2.2.2.2) : gX) o z)) := by
          intro y o z
          rw [top]
          simp only [mM_sayProperty, ho_188, Option.bind_some, sl]
          rw [if_neg (gis_neg (k := k) (j := t) (by omega))]
          simp only [gis, hr_188_8, hr_188_9, Option.bind_some, ha_195 hk t8, ha_196 hk t8, v1, v2]
        have wp : ∀ y o z, cW_writeProperty F (some 169) (some 1) (some 165) (some (3 + 5 * k)) (gio (some t)) (Int32.ofNat (D + 1)) (gH u y o z) = (if (u.1 k).2.2.1 t = 8 then (cW_runGetter (some 169) (some 1) (some (3 + 5 * k)) ((u.1 k).2.2.2.1 t) (gH u y o z)).bind fun h10 => cW_writeProperty_54 F (some 169) (some 1) (some 165) (Int32.ofNat (D + 1)) (u.2.2.2.2.2.2.2.2.2.2.2.2.2.1 (D + 1) i) 4 ((u.1 k).2.2.2.1 t >>> ((3 : Int32) &&& 31)) h10 else cW_writeProperty_54 F (some 169) (some 1) (some 165) (Int32.ofNat (D + 1)) (u.2.2.2.2.2.2.2.2.2.2.2.2.2.1 (D + 1) i) ((u.1 k).2.2.1 t) ((u.1 k).2.2.2.1 t) (gH u y o z)) := by
          intro y o z
          simp only [cW_writeProperty, gio, hrT_1 hk, hrT_2 hk, hrT_3 hk, Option.bind_some, haT_2 hk t8, haT_3 hk t8, haT_4 hk t8, ht2.2, ho_169, k_fd]
        by_cases k8 : (u.1 k).2.2.1 t = 8
        · obtain ⟨u1, x1, a1, a2, a3, a4⟩ := w_getter (num := (u.1 k).2.2.2.1 t) W27 h0 hkn O
          have Fg : gFr (D + 1) u u1 ((x.1, x.2.1, x.2.2.1, x.2.2.2.1, x.2.2.2.2.1, x.2.2.2.2.2.1, x.2.2.2.2.2.2.1, gup x.2.2.2.2.2.2.2.1 D (Int32.ofNat (i + 1)), x.2.2.2.2.2.2.2.2.1, x.2.2.2.2.2.2.2.2.2.1, x.2.2.2.2.2.2.2.2.2.2.1, x.2.2.2.2.2.2.2.2.2.2.2.1, x.2.2.2.2.2.2.2.2.2.2.2.2.1, x.2.2.2.2.2.2.2.2.2.2.2.2.2.1, x.2.2.2.2.2.2.2.2.2.2.2.2.2.2.1, x.2.2.2.2.2.2.2.2.2.2.2.2.2.2.2) : gX) x1 := ⟨fun j _ => by rw [a4.gkd], a4.so, a4.fct, fun j _ => by rw [a4.g201, a4.g202, a4.g203]; exact ⟨rfl, rfl, rfl⟩, fun j _ => by rw [a4.g204], a4.ga⟩
          obtain ⟨u2, x2, x3, b1, b2, b3, b4, b5⟩ := w_prop (D := D) (key := u.2.2.2.2.2.2.2.2.2.2.2.2.2.1 (D + 1) i) (kd := 4) (nm := (u.1 k).2.2.2.1 t >>> ((3 : Int32) &&& 31)) ih dead a3 (fun q => ⟨g1, (a4.g188 18 (by omega)).trans g2⟩) ⟨4, by omega, rfl, fun h => by omega⟩
          obtain ⟨e3, g3', l1, l2, l3⟩ := b4
          have nx : ∀ y o z, mM_sayNext (some 188) (gH y x o z) = some (gH y x2 o z) := by
            intro y o z
            rw [sp, if_pos k8, a2, Option.bind_some]
            exact b2 y o z
          obtain ⟨u', x', f1, f2, f3, f4⟩ := keep u2 x3 e3 g3' l1 (fun q => (l2 q).2) (gFr_trans Fg l3 (Nat.le_refl _)) b5
          refine ⟨u', x', fun y o z => ?_, gRun_mono (gRun_trans (gRun_trans (gRun_step (W.oc.trans h0) g2 hD14 nx) b3) f2) (by rw [Nat.succ_mul]; omega), f3, f4⟩
          rw [cl, if_neg nt, wp, if_pos k8, a1, Option.bind_some, b1, Option.bind_some, f1]
        · obtain ⟨u2, x2, x3, b1, b2, b3, b4, b5⟩ := w_prop (D := D) (key := u.2.2.2.2.2.2.2.2.2.2.2.2.2.1 (D + 1) i) (kd := (u.1 k).2.2.1 t) (nm := (u.1 k).2.2.2.1 t) ih dead W27 (fun q => ⟨g1, g2⟩) (by
            rcases vv with h | h | h
            · omega
            · exact absurd h.1 k8
            · exact h)
          obtain ⟨e3, g3', l1, l2, l3⟩ := b4
          have nx : ∀ y o z, mM_sayNext (some 188) (gH y x o z) = some (gH y x2 o z) := by
            intro y o z
            rw [sp, if_neg k8]
            exact b2 y o z
          obtain ⟨u', x', f1, f2, f3, f4⟩ := keep u2 x3 e3 g3' l1 (fun q => (l2 q).2) l3 b5
          refine ⟨u', x', fun y o z => ?_, gRun_mono (gRun_trans (gRun_trans (gRun_step (W.oc.trans h0) g2 hD14 nx) b3) f2) (by rw [Nat.succ_mul]; omega), f3, f4⟩
          rw [cl, if_neg nt, wp, if_neg k8, b1, Option.bind_some, f1]
    · exact gone (r + 1) i f u x e g h W h0
end H
