theorem i_c23 : ¬ (2 : Int32) = 0 ∧ ¬ (2 : Int32) = 5 ∧ ¬ (3 : Int32) = 0 ∧ ¬ (3 : Int32) = 5 ∧ ¬ (3 : Int32) = 2 := by decide
section H
variable {n m p q : Nat} {F : gWf}
/-- one turn of the loop that writes one value, and all that is in it -/
theorem w_one {D i B e g : Nat} {u : gU} {x : gX} {kd nm : Int32} (ih : gIH n m p q (D + 1) B F) (hD14 : D < 14) (W : gW n m p q e g u x) (h0 : u.2.2.2.2.2.2.2.2.1 4 = 0) (g1 : g < e) (g2 : x.2.1 18 = Int32.ofNat (D + 1)) (hv : ∃ j, j < 8 ∧ kd = Int32.ofNat j ∧ (j = 6 → ∃ b, b < n ∧ nm = Int32.ofNat b)) (top : ∀ y o z, mM_sayNext (some 188) (gH y x o z) = mM_sayValue (some 188) kd nm (gH y ((x.1, x.2.1, x.2.2.1, x.2.2.2.1, x.2.2.2.2.1, x.2.2.2.2.2.1, x.2.2.2.2.2.2.1, gup x.2.2.2.2.2.2.2.1 D (Int32.ofNat (i + 1)), x.2.2.2.2.2.2.2.2.1, x.2.2.2.2.2.2.2.2.2.1, x.2.2.2.2.2.2.2.2.2.2.1, x.2.2.2.2.2.2.2.2.2.2.2.1, x.2.2.2.2.2.2.2.2.2.2.2.2.1, x.2.2.2.2.2.2.2.2.2.2.2.2.2.1, x.2.2.2.2.2.2.2.2.2.2.2.2.2.2.1, x.2.2.2.2.2.2.2.2.2.2.2.2.2.2.2) : gX) o z)) : ∃ u2 x3 e3 g3, (∀ y o z, F (some 169) (some 1) (some 165) kd nm (Int32.ofNat (D + 1 + 1)) (gH u y o z) = some (gH u2 y o z)) ∧ gRun (B + 1) x x3 ∧ gW n m p q e3 g3 u2 x3 ∧ (u2.2.2.2.2.2.2.2.2.1 4 = 0 → e ≤ e3 ∧ g3 + e ≤ g + e3 ∧ x3.2.1 18 = Int32.ofNat (D + 1) ∧ x3.2.2.2.2.2.2.1 D = x.2.2.2.2.2.2.1 D ∧ x3.2.2.2.2.2.2.2.1 D = Int32.ofNat (i + 1) ∧ x3.2.2.2.2.2.2.2.2.1 D = x.2.2.2.2.2.2.2.2.1 D) ∧ gFr D u u2 x x3 := by
  have W27 : gW n m p q e g u ((x.1, x.2.1, x.2.2.1, x.2.2.2.1, x.2.2.2.2.1, x.2.2.2.2.2.1, x.2.2.2.2.2.2.1, gup x.2.2.2.2.2.2.2.1 D (Int32.ofNat (i + 1)), x.2.2.2.2.2.2.2.2.1, x.2.2.2.2.2.2.2.2.2.1, x.2.2.2.2.2.2.2.2.2.2.1, x.2.2.2.2.2.2.2.2.2.2.2.1, x.2.2.2.2.2.2.2.2.2.2.2.2.1, x.2.2.2.2.2.2.2.2.2.2.2.2.2.1, x.2.2.2.2.2.2.2.2.2.2.2.2.2.2.1, x.2.2.2.2.2.2.2.2.2.2.2.2.2.2.2) : gX) := gW_x W rfl (fun _ _ => rfl) rfl rfl rfl rfl rfl rfl
  have F27 : gFr D u u x ((x.1, x.2.1, x.2.2.1, x.2.2.2.1, x.2.2.2.2.1, x.2.2.2.2.2.1, x.2.2.2.2.2.2.1, gup x.2.2.2.2.2.2.2.1 D (Int32.ofNat (i + 1)), x.2.2.2.2.2.2.2.2.1, x.2.2.2.2.2.2.2.2.2.1, x.2.2.2.2.2.2.2.2.2.2.1, x.2.2.2.2.2.2.2.2.2.2.2.1, x.2.2.2.2.2.2.2.2.2.2.2.2.1, x.2.2.2.2.2.2.2.2.2.2.2.2.2.1, x.2.2.2.2.2.2.2.2.2.2.2.2.2.2.1, x.2.2.2.2.2.2.2.2.2.2.2.2.2.2.2) : gX) := ⟨fun _ _ => rfl, fun _ => rfl, fun _ _ => rfl, fun j hj => ⟨rfl, gup_ne (by omega), rfl⟩, fun _ _ => rfl, rfl⟩
  obtain ⟨u2, x2, x3, k1, k2, k3, k4, k5⟩ := ih u _ e g kd nm W27 h0 g1 g2 hv
  obtain ⟨e3, g3, l1, l2, l3⟩ := k4
  have nx : ∀ y o z, mM_sayNext (some 188) (gH y x o z) = some (gH y x2 o z) := fun y o z => (top y o z).trans (k2 y o z)
  refine ⟨u2, x3, e3, g3, k1, gRun_mono (gRun_trans (gRun_step (W.oc.trans h0) g2 hD14 nx) k3) (by omega), l1, fun q => ?_, gFr_trans F27 l3 (by omega)⟩
  obtain ⟨m1, m2, m3⟩ := l2 q
  obtain ⟨p1, p2, p3⟩ := l3.pi D (by omega)
  exact ⟨m2, m3, k5 q, p1, p2.trans gup_eq, p3⟩
theorem k_setDead {k c : Nat} {d : Int32} {u : gU} {y : gX} {o : Nat → Int64} {z : gx_H} (hk : k < 32) (dead : gDead F) (h0 : ¬ u.2.2.2.2.2.2.2.2.1 4 = 0) (hc : c ≤ 8) (h5 : (u.1 k).2.2.2.2.1 5 = Int32.ofNat c) : ∀ (r i f : Nat), i + r = c → cW_writeSet_11 F (f + r + 1) (some 169) (some 1) (some 165) (some (3 + 5 * k)) d (Int32.ofNat i) (gH u y o z) = some (gH u y o z) := by
  intro r
  induction r with
  | zero =>
    intro i f h
    rw [cW_writeSet_11, hiT_5 hk, Option.bind_some, h5, if_neg (n_nltl (by omega) (by omega) (by omega))]
  | succ r ih =>
    intro i f h
    have i8 : i < 8 := by omega
    rw [show f + (r + 1) + 1 = (f + r + 1) + 1 by omega, cW_writeSet_11, hiT_5 hk, Option.bind_some, h5, if_pos (n_ltl (by omega) (by omega) (by omega))]
    simp only [hrT_2 hk, hrT_3 hk, Option.bind_some, haT_3 hk i8, haT_4 hk i8, ho_169, n_succ, dead u y o z _ _ _ h0, ih (i + 1) f (by omega)]
theorem k_mapDead {k c : Nat} {d : Int32} {u : gU} {y : gX} {o : Nat → Int64} {z : gx_H} (hk : k < 32) (dead : gDead F) (h0 : ¬ u.2.2.2.2.2.2.2.2.1 4 = 0) (hc : c ≤ 8) (h5 : (u.1 k).2.2.2.2.1 5 = Int32.ofNat c) : ∀ (r i f : Nat), i + r = c → cW_writeMap_11 F (f + r + 1) (some 169) (some 1) (some 165) (some (3 + 5 * k)) d (Int32.ofNat i) (gH u y o z) = some (gH u y o z) := by
  intro r
  induction r with
  | zero =>
    intro i f h
    rw [cW_writeMap_11, hiT_5 hk, Option.bind_some, h5, if_neg (n_nltl (by omega) (by omega) (by omega))]
  | succ r ih =>
    intro i f h
    have i8 : i < 8 := by omega
    rw [show f + (r + 1) + 1 = (f + r + 1) + 1 by omega, cW_writeMap_11, hiT_5 hk, Option.bind_some, h5, if_pos (n_ltl (by omega) (by omega) (by omega))]
    simp only [hrT_0 hk, hrT_1 hk, hrT_2 hk, hrT_3 hk, Option.bind_some, haT_1 hk i8, haT_2 hk i8, haT_3 hk i8, haT_4 hk i8, ho_169, n_succ, dead u y o z _ _ _ h0, ih (i + 1) f (by omega)]
/-- the sort and the count that both sides see -/
theorem ob_at {k s c e g : Nat} {u : gU} {x : gX} (W : gW n m p q e g u x) (hkn : k < n) (hs : s < 8) (s1 : (u.1 k).2.2.2.2.1 4 = Int32.ofNat s) (hc : c ≤ 8) (h5 : (u.1 k).2.2.2.2.1 5 = Int32.ofNat c) : gO n s c (u.1 k) (x.1 k) := by
  obtain ⟨s', c', O⟩ := W.T.ob k hkn
  have es : s' = s := (n_eq (by have := O.s8; omega) (by omega)).mp (O.es.symm.trans s1)
  subst es
  have ec : c' = c := by
    have h8 := gcap8 O.c8
    exact (n_eq (by omega) (by omega)).mp (O.ec.symm.trans h5)
  subst ec
  exact O
theorem w_setL {D k c B : Nat} (hD : D + 1 ≤ 12) (hkn : k < n) (hn : n ≤ 32) (ih : gIH n m p q (D + 1) B F) (dead : gDead F) (hc : c ≤ 8) : ∀ (r i f : Nat) (u : gU) (x : gX) (e g : Nat), i + r = c → gW n m p q e g u x → (u.2.2.2.2.2.2.2.2.1 4 = 0 → g < e ∧ x.2.1 18 = Int32.ofNat (D + 1) ∧ x.2.2.2.2.2.2.1 D = Int32.ofNat k ∧ x.2.2.2.2.2.2.2.1 D = Int32.ofNat i ∧ x.2.2.2.2.2.2.2.2.1 D = Int32.ofNat c) → (u.1 k).2.2.2.2.1 4 = Int32.ofNat 3 → (u.1 k).2.2.2.2.1 5 = Int32.ofNat c → ∃ u' x', (∀ y o z, cW_writeSet_11 F (f + r + 1) (some 169) (some 1) (some 165) (some (3 + 5 * k)) (Int32.ofNat (D + 1)) (Int32.ofNat i) (gH u y o z) = some (gH u' y o z)) ∧ gRun (r * (B + 1) + 1) x x' ∧ gEnd n m p q D e g u x u' x' ∧ (u'.2.2.2.2.2.2.2.2.1 4 = 0 → x'.2.1 18 = Int32.ofNat D) := by
  have hk : k < 32 := by omega
  have hD14 : D < 14 := by omega
  intro r
  induction r with
  | zero =>
    intro i f u x e g h W st s1 h5
    obtain rfl : i = c := by omega
    by_cases h0 : u.2.2.2.2.2.2.2.2.1 4 = 0
    · obtain ⟨g1, g2, g3, g4, g5⟩ := st h0
      have O := ob_at W hkn (by omega) s1 hc h5
      refine ⟨u, ((x.1, gup x.2.1 18 (Int32.ofNat D), x.2.2.1, x.2.2.2.1, x.2.2.2.2.1, x.2.2.2.2.2.1, x.2.2.2.2.2.2.1, x.2.2.2.2.2.2.2.1, x.2.2.2.2.2.2.2.2.1, x.2.2.2.2.2.2.2.2.2.1, x.2.2.2.2.2.2.2.2.2.2.1, x.2.2.2.2.2.2.2.2.2.2.2.1, x.2.2.2.2.2.2.2.2.2.2.2.2.1, x.2.2.2.2.2.2.2.2.2.2.2.2.2.1, x.2.2.2.2.2.2.2.2.2.2.2.2.2.2.1, x.2.2.2.2.2.2.2.2.2.2.2.2.2.2.2) : gX), fun y o z => ?_, gRun_mono (gRun_step (W.oc.trans h0) g2 hD14 (r_nextEnd hD14 hk g2 g3 g4 g5 O.et (by omega) (by omega) (by omega))) (by omega), ⟨e, g, gW_x W rfl (fun i h => gup_ne h) rfl rfl rfl rfl rfl rfl, fun _ => ⟨h0, Nat.le_refl _, Nat.le_refl _⟩, ⟨fun _ _ => rfl, fun _ => rfl, fun _ _ => rfl, fun _ _ => ⟨rfl, rfl, rfl⟩, fun _ _ => rfl, rfl⟩⟩, fun _ => rfl⟩
      rw [cW_writeSet_11, hiT_5 hk, Option.bind_some, h5, if_neg (n_nltl (by omega) (by omega) (by omega))]
    · exact ⟨u, x, fun y o z => k_setDead hk dead h0 hc h5 0 i f (by omega), gRun_mono gRun_refl (by omega), ⟨e, g, W, fun q => absurd q h0, gFr_refl⟩, fun q => absurd q h0⟩
  | succ r IH =>
    intro i f u x e g h W st s1 h5
    by_cases h0 : u.2.2.2.2.2.2.2.2.1 4 = 0
    · obtain ⟨g1, g2, g3, g4, g5⟩ := st h0
      have O := ob_at W hkn (by omega) s1 hc h5
      have i8 : i < 8 := by omega
      have hi : i < c := by omega
      obtain ⟨v1, v2⟩ := O.vs (by omega) i hi
      have ne : ¬ Int32.ofNat i = Int32.ofNat c := fun q => by have := (n_eq (by omega) (by omega)).mp q; omega
      have vv := gV_val (O.vv (by omega) i hi) (by
        intro q
        have := O.vv (by omega) i hi
        rcases this with h | h | ⟨j, j1, j2, _⟩
        · omega
        · omega
        · exact n_ne1 (n := j) (by omega) (j2.symm.trans q)) (by omega)
      obtain ⟨u2, x3, e3, g3', k1, k2, k3, k4, k5⟩ := w_one (i := i) ih hD14 W h0 g1 g2 vv (fun y o z => by
        simp only [mM_sayNext, hi_188_18, Option.bind_some, g2, n_pred, hr_188_19, ha_201 hD14, g3, hr_188_20, ha_202 hD14, g4, hr_188_2, ha_189 hk, O.et, hr_188_21, ha_203 hD14, g5, if_neg ne, hb_202 hD14, n_succ, show Int32.ofNat 3 = (3 : Int32) from rfl, i_c23.2.2.1, i_c23.2.2.2.1, i_c23.2.2.2.2, if_false, if_true, hr_188_8, hr_188_9, n_8, ha_195 hk i8, ha_196 hk i8, v1, v2, ho_188]
        exact Option.bind_fun_some _)
      obtain ⟨u', x', b1, b2, b3, b4⟩ := IH (i + 1) f u2 x3 e3 g3' (by omega) k3 (fun q => by
        obtain ⟨m1, m2, m3, m4, m5, m6⟩ := k4 q
        exact ⟨by omega, m3, m4.trans g3, m5, m6.trans g5⟩) ((k5.so k).trans s1) ((k5.fct k (by rw [s1]; decide)).trans h5)
      refine ⟨u', x', fun y o z => ?_, gRun_mono (gRun_trans k2 b2) (by rw [Nat.succ_mul]; omega), gEnd_trans (fun q => ⟨h0, by have := k4 q; omega, by have := k4 q; omega⟩) k5 b3 (Nat.le_refl _), b4⟩
      rw [show f + (r + 1) + 1 = (f + r + 1) + 1 by omega, cW_writeSet_11, hiT_5 hk, Option.bind_some, h5, if_pos (n_ltl (by omega) (by omega) (by omega))]
      simp only [hrT_2 hk, hrT_3 hk, Option.bind_some, haT_3 hk i8, haT_4 hk i8, ho_169, n_succ, k1, b1]
    · exact ⟨u, x, fun y o z => k_setDead hk dead h0 hc h5 (r + 1) i f (by omega), gRun_mono gRun_refl (by omega), ⟨e, g, W, fun q => absurd q h0, gFr_refl⟩, fun q => absurd q h0⟩
theorem n_half : ∀ i : Nat, i < 4 → Int32.ofNat (2 * i) / 2 = Int32.ofNat i ∧ Int32.ofNat (2 * i) - Int32.ofNat i * 2 = 0 ∧ Int32.ofNat (2 * i + 1) / 2 = Int32.ofNat i ∧ ¬ Int32.ofNat (2 * i + 1) - Int32.ofNat i * 2 = 0 := by decide
theorem w_mapL {D k c B : Nat} (hD : D + 1 ≤ 12) (hkn : k < n) (hn : n ≤ 32) (ih : gIH n m p q (D + 1) B F) (dead : gDead F) (hc : c ≤ 4) : ∀ (r i f : Nat) (u : gU) (x : gX) (e g : Nat), i + r = c → gW n m p q e g u x → (u.2.2.2.2.2.2.2.2.1 4 = 0 → g < e ∧ x.2.1 18 = Int32.ofNat (D + 1) ∧ x.2.2.2.2.2.2.1 D = Int32.ofNat k ∧ x.2.2.2.2.2.2.2.1 D = Int32.ofNat (2 * i) ∧ x.2.2.2.2.2.2.2.2.1 D = Int32.ofNat (2 * c)) → (u.1 k).2.2.2.2.1 4 = Int32.ofNat 2 → (u.1 k).2.2.2.2.1 5 = Int32.ofNat c → ∃ u' x', (∀ y o z, cW_writeMap_11 F (f + r + 1) (some 169) (some 1) (some 165) (some (3 + 5 * k)) (Int32.ofNat (D + 1)) (Int32.ofNat i) (gH u y o z) = some (gH u' y o z)) ∧ gRun (r * (2 * (B + 1)) + 1) x x' ∧ gEnd n m p q D e g u x u' x' ∧ (u'.2.2.2.2.2.2.2.2.1 4 = 0 → x'.2.1 18 = Int32.ofNat D) := by
  have hk : k < 32 := by omega
  have hD14 : D < 14 := by omega
  intro r
  induction r with
  | zero =>
    intro i f u x e g h W st s1 h5
    obtain rfl : i = c := by omega
    by_cases h0 : u.2.2.2.2.2.2.2.2.1 4 = 0
    · obtain ⟨g1, g2, g3, g4, g5⟩ := st h0
      have O := ob_at W hkn (by omega) s1 (by omega) h5
      refine ⟨u, ((x.1, gup x.2.1 18 (Int32.ofNat D), x.2.2.1, x.2.2.2.1, x.2.2.2.2.1, x.2.2.2.2.2.1, x.2.2.2.2.2.2.1, x.2.2.2.2.2.2.2.1, x.2.2.2.2.2.2.2.2.1, x.2.2.2.2.2.2.2.2.2.1, x.2.2.2.2.2.2.2.2.2.2.1, x.2.2.2.2.2.2.2.2.2.2.2.1, x.2.2.2.2.2.2.2.2.2.2.2.2.1, x.2.2.2.2.2.2.2.2.2.2.2.2.2.1, x.2.2.2.2.2.2.2.2.2.2.2.2.2.2.1, x.2.2.2.2.2.2.2.2.2.2.2.2.2.2.2) : gX), fun y o z => ?_, gRun_mono (gRun_step (W.oc.trans h0) g2 hD14 (r_nextEnd hD14 hk g2 g3 g4 g5 O.et (by omega) (by omega) (by omega))) (by omega), ⟨e, g, gW_x W rfl (fun i h => gup_ne h) rfl rfl rfl rfl rfl rfl, fun _ => ⟨h0, Nat.le_refl _, Nat.le_refl _⟩, ⟨fun _ _ => rfl, fun _ => rfl, fun _ _ => rfl, fun _ _ => ⟨rfl, rfl, rfl⟩, fun _ _ => rfl, rfl⟩⟩, fun _ => rfl⟩
      rw [cW_writeMap_11, hiT_5 hk, Option.bind_some, h5, if_neg (n_nltl (by omega) (by omega) (by omega))]
    · exact ⟨u, x, fun y o z => k_mapDead hk dead h0 (by omega) h5 0 i f (by omega), gRun_mono gRun_refl (by omega), ⟨e, g, W, fun q => absurd q h0, gFr_refl⟩, fun q => absurd q h0⟩
  | succ r IH =>
    intro i f u x e g h W st s1 h5
    by_cases h0 : u.2.2.2.2.2.2.2.2.1 4 = 0
    · obtain ⟨g1, g2, g3, g4, g5⟩ := st h0
      have O := ob_at W hkn (by omega) s1 (by omega) h5
      have i8 : i < 8 := by omega
      have hi : i < c := by omega
      obtain ⟨q1, q2, q3, q4⟩ := n_half i (by omega)
      obtain ⟨v1, v2⟩ := O.vs (by omega) i hi
      have ne : ¬ Int32.ofNat (2 * i) = Int32.ofNat (2 * c) := fun q => by have := (n_eq (by omega) (by omega)).mp q; omega
      have ne2 : ¬ Int32.ofNat (2 * i + 1) = Int32.ofNat (2 * c) := fun q => by have := (n_eq (by omega) (by omega)).mp q; omega
      have val : ∀ {a b : Int32}, gV n 2 a b → ∃ j, j < 8 ∧ a = Int32.ofNat j ∧ (j = 6 → ∃ t, t < n ∧ b = Int32.ofNat t) := by
        intro a b h
        rcases h with h | h | h
        · omega
        · omega
        · exact h
      obtain ⟨u2, x2, e2, g2', k1, k2, k3, k4, k5⟩ := w_one (i := 2 * i) ih hD14 W h0 g1 g2 (val (O.kv rfl i hi)) (fun y o z => by
        simp only [mM_sayNext, hi_188_18, Option.bind_some, g2, n_pred, hr_188_19, ha_201 hD14, g3, hr_188_20, ha_202 hD14, g4, hr_188_2, ha_189 hk, O.et, hr_188_21, ha_203 hD14, g5, if_neg ne, hb_202 hD14, n_succ, show Int32.ofNat 2 = (2 : Int32) from rfl, i_c23.1, i_c23.2.1, if_false, if_true, q2, q1, hr_188_7, hr_188_6, n_8, ha_194 hk i8, ha_193 hk i8, O.kK rfl i hi, O.kE (Or.inr rfl) i hi, mM_sayNext_172, mM_sayNext_195, ho_188]
        exact Option.bind_fun_some _)
      by_cases h2 : u2.2.2.2.2.2.2.2.2.1 4 = 0
      · obtain ⟨m1, m2, m3, m4, m5, m6⟩ := k4 h2
        have s2 := (k5.so k).trans s1
        have h52 := (k5.fct k (by rw [s1]; decide)).trans h5
        have O2 := ob_at k3 hkn (by omega) s2 (by omega) h52
        obtain ⟨w1, w2⟩ := O2.vs (by omega) i hi
        obtain ⟨u3, x3, e3, g3', l1, l2, l3, l4, l5⟩ := w_one (i := 2 * i + 1) ih hD14 k3 h2 (by omega) m3 (val (O2.vv (by omega) i hi)) (fun y o z => by
          simp only [mM_sayNext, hi_188_18, Option.bind_some, m3, n_pred, hr_188_19, ha_201 hD14, m4.trans g3, hr_188_20, ha_202 hD14, m5, hr_188_2, ha_189 hk, O2.et, hr_188_21, ha_203 hD14, m6.trans g5, if_neg ne2, hb_202 hD14, n_succ, show Int32.ofNat 2 = (2 : Int32) from rfl, i_c23.1, i_c23.2.1, if_false, if_true, if_neg q4, q3, hr_188_8, hr_188_9, n_8, ha_195 hk i8, ha_196 hk i8, w1, w2, mM_sayNext_172, mM_sayNext_195, ho_188]
          exact Option.bind_fun_some _)
        obtain ⟨u', x', b1, b2, b3, b4⟩ := IH (i + 1) f u3 x3 e3 g3' (by omega) l3 (fun q => by
          obtain ⟨p1, p2, p3, p4, p5, p6⟩ := l4 q
          exact ⟨by omega, p3, p4.trans (m4.trans g3), by rw [p5]; congr 1, p6.trans (m6.trans g5)⟩) ((l5.so k).trans s2) ((l5.fct k (by rw [s2]; decide)).trans h52)
        refine ⟨u', x', fun y o z => ?_, gRun_mono (gRun_trans (gRun_trans k2 l2) b2) (by rw [Nat.succ_mul r]; omega), gEnd_trans (fun q => ⟨h0, by have := l4 q; omega, by have := l4 q; omega⟩) (gFr_trans k5 l5 (Nat.le_refl _)) b3 (Nat.le_refl _), b4⟩
        rw [show f + (r + 1) + 1 = (f + r + 1) + 1 by omega, cW_writeMap_11, hiT_5 hk, Option.bind_some, h5, if_pos (n_ltl (by omega) (by omega) (by omega))]
        simp only [hrT_0 hk, hrT_1 hk, hrT_2 hk, hrT_3 hk, Option.bind_some, haT_1 hk i8, haT_2 hk i8, haT_3 hk i8, haT_4 hk i8, ho_169, n_succ, k1, l1, b1]
      · refine ⟨u2, x2, fun y o z => ?_, gRun_mono k2 (by rw [Nat.succ_mul r]; omega), ⟨e2, g2', k3, fun q => absurd q h2, k5⟩, fun q => absurd q h2⟩
        rw [show f + (r + 1) + 1 = (f + r + 1) + 1 by omega, cW_writeMap_11, hiT_5 hk, Option.bind_some, h5, if_pos (n_ltl (by omega) (by omega) (by omega))]
        simp only [hrT_0 hk, hrT_1 hk, hrT_2 hk, hrT_3 hk, Option.bind_some, haT_1 hk i8, haT_2 hk i8, haT_3 hk i8, haT_4 hk i8, ho_169, n_succ, k1, dead u2 y o z _ _ _ h2, k_mapDead hk dead h2 (show c ≤ 8 by omega) ((k5.fct k (by rw [s1]; decide)).trans h5) r (i + 1) f (by omega)]
    · exact ⟨u, x, fun y o z => k_mapDead hk dead h0 (by omega) h5 (r + 1) i f (by omega), gRun_mono gRun_refl (by omega), ⟨e, g, W, fun q => absurd q h0, gFr_refl⟩, fun q => absurd q h0⟩
end H
