/-! handing over, on both sides -/
section H
variable {n m p q e g : Nat} {u : gU} {x : gX}
theorem r_ho8 {rec : Option Nat → Int32 → gx_H → Option gx_H} {k i : Nat} (hk : k < 32) (hi : i < 4) : ∀ (r j f : Nat) (x : gX), j + r = 8 → x.2.2.1 i = Int32.ofNat k → ∃ h, (∀ y o z, mM_handOver_37 rec (f + r + 1) (some 188) (Int32.ofNat i) (Int32.ofNat j) (gH y x o z) = rec (some 188) (Int32.ofNat (i + 1)) (gH y ((gup x.1 k (gp_det (x.1 k)), x.2.1, x.2.2.1, x.2.2.2.1, h, x.2.2.2.2.2.1, x.2.2.2.2.2.2.1, x.2.2.2.2.2.2.2.1, x.2.2.2.2.2.2.2.2.1, x.2.2.2.2.2.2.2.2.2.1, x.2.2.2.2.2.2.2.2.2.2.1, x.2.2.2.2.2.2.2.2.2.2.2.1, x.2.2.2.2.2.2.2.2.2.2.2.2.1, x.2.2.2.2.2.2.2.2.2.2.2.2.2.1, x.2.2.2.2.2.2.2.2.2.2.2.2.2.2.1, x.2.2.2.2.2.2.2.2.2.2.2.2.2.2.2) : gX) o z)) ∧ (∀ t, t < 8 * i → h t = x.2.2.2.2.1 t) ∧ (∀ t, t < j → h (8 * i + t) = x.2.2.2.2.1 (8 * i + t)) ∧ ∀ t, j ≤ t → t < 8 → h (8 * i + t) = (x.1 k).2.2.2.1 t := by
  intro r
  induction r with
  | zero =>
    intro j f x h hx
    obtain rfl : j = 8 := by omega
    refine ⟨x.2.2.2.2.1, fun y o z => ?_, fun _ _ => rfl, fun _ _ => rfl, fun t h1 h2 => by omega⟩
    rw [mM_handOver_37, if_neg (show ¬ Int32.ofNat 8 < 8 by decide)]
    simp only [hr_188_11, Option.bind_some, ha_197 hi, hx, ho_188, r_detNow hk, n_succ]
  | succ r ih =>
    intro j f x h hx
    obtain ⟨h2, k1, k2, k3, k4⟩ := ih (j + 1) f ((x.1, x.2.1, x.2.2.1, x.2.2.2.1, gup x.2.2.2.2.1 (8 * i + j) ((x.1 k).2.2.2.1 j), x.2.2.2.2.2.1, x.2.2.2.2.2.2.1, x.2.2.2.2.2.2.2.1, x.2.2.2.2.2.2.2.2.1, x.2.2.2.2.2.2.2.2.2.1, x.2.2.2.2.2.2.2.2.2.2.1, x.2.2.2.2.2.2.2.2.2.2.2.1, x.2.2.2.2.2.2.2.2.2.2.2.2.1, x.2.2.2.2.2.2.2.2.2.2.2.2.2.1, x.2.2.2.2.2.2.2.2.2.2.2.2.2.2.1, x.2.2.2.2.2.2.2.2.2.2.2.2.2.2.2) : gX) (by omega) hx
    refine ⟨h2, fun y o z => ?_, fun t ht => (k2 t ht).trans (gup_ne (by omega)), fun t ht => (k3 t (by omega)).trans (gup_ne (by omega)), fun t t1 t2 => ?_⟩
    · rw [show f + (r + 1) + 1 = (f + r + 1) + 1 by omega, mM_handOver_37, if_pos (show Int32.ofNat j < 8 from n_ltl (m := 8) (by omega) (by omega) (by omega))]
      simp only [hr_188_14, hr_188_9, hr_188_11, Option.bind_some, ha_197 hi, hx, n_8, ha_196 hk (show j < 8 by omega), hb_199 (show 8 * i + j < 32 by omega), n_succ]
      exact k1 y o z
    · by_cases c : t = j
      · subst c
        exact (k3 t (by omega)).trans gup_eq
      · exact k4 t (by omega) t2
theorem r_hoStep {k i c t f : Nat} (hk : k < 32) (hi : i < t) (ht : t ≤ 4) (hx : x.2.1 10 = Int32.ofNat t) (e2 : x.2.2.1 i = Int32.ofNat k) (hc : (x.1 k).2.2.2.2.2.1 = Int32.ofNat c) : ∃ h, (∀ y o z, mM_handOver_10 (f + 1) (some 188) (Int32.ofNat i) (gH y x o z) = mM_handOver_10 f (some 188) (Int32.ofNat (i + 1)) (gH y ((gup x.1 k (gp_det (x.1 k)), x.2.1, x.2.2.1, gup x.2.2.2.1 i (Int32.ofNat c), h, x.2.2.2.2.2.1, x.2.2.2.2.2.2.1, x.2.2.2.2.2.2.2.1, x.2.2.2.2.2.2.2.2.1, x.2.2.2.2.2.2.2.2.2.1, x.2.2.2.2.2.2.2.2.2.2.1, x.2.2.2.2.2.2.2.2.2.2.2.1, x.2.2.2.2.2.2.2.2.2.2.2.2.1, x.2.2.2.2.2.2.2.2.2.2.2.2.2.1, x.2.2.2.2.2.2.2.2.2.2.2.2.2.2.1, x.2.2.2.2.2.2.2.2.2.2.2.2.2.2.2) : gX) o z)) ∧ (∀ t, t < 8 * i → h t = x.2.2.2.2.1 t) ∧ ∀ t, t < 8 → h (8 * i + t) = (x.1 k).2.2.2.1 t := by
  have i4 : i < 4 := by omega
  obtain ⟨G, hG⟩ : ∃ G, 1000000000000000 = G + 8 + 1 := ⟨999999999999991, rfl⟩
  obtain ⟨h9, a1, a2, a3, a4⟩ := r_ho8 (rec := mM_handOver_10 f) (i := i) hk i4 8 0 G ((x.1, x.2.1, x.2.2.1, gup x.2.2.2.1 i (Int32.ofNat c), x.2.2.2.2.1, x.2.2.2.2.2.1, x.2.2.2.2.2.2.1, x.2.2.2.2.2.2.2.1, x.2.2.2.2.2.2.2.2.1, x.2.2.2.2.2.2.2.2.2.1, x.2.2.2.2.2.2.2.2.2.2.1, x.2.2.2.2.2.2.2.2.2.2.2.1, x.2.2.2.2.2.2.2.2.2.2.2.2.1, x.2.2.2.2.2.2.2.2.2.2.2.2.2.1, x.2.2.2.2.2.2.2.2.2.2.2.2.2.2.1, x.2.2.2.2.2.2.2.2.2.2.2.2.2.2.2) : gX) (by omega) e2
  refine ⟨h9, fun y o z => ?_, a2, fun t ht => a4 t (by omega) ht⟩
  have a1' := a1 y o z
  rw [← hG] at a1'
  rw [mM_handOver_10]
  simp only [hi_188_10, Option.bind_some, hx, if_pos (n_ltl (n := i) (m := t) (by omega) (by omega) hi), hr_188_13, hr_188_3, hr_188_11, ha_197 i4, e2, ha_190 hk, hc, hb_198 i4]
  exact a1'
theorem k_hoStep {k i c t f : Nat} (hn : n ≤ 32) (hu : u.2.2.1 1 = Int32.ofNat n) (hk : k < n) (hi : i < t) (ht : t ≤ 4) (hx : u.2.2.2.2.2.1 1 = Int32.ofNat t) (e1 : u.2.2.2.2.2.2.1 i = Int32.ofNat k) (hc : (u.1 k).2.2.2.2.1 5 = Int32.ofNat c) : ∀ y o z, cH_handOver_2 (f + 1) (some 165) (some 1) (Int32.ofNat i) (gH u y o z) = cH_handOver_2 f (some 165) (some 1) (Int32.ofNat (i + 1)) (gH ((gup u.1 k (gq_det (u.1 k)), u.2.1, u.2.2.1, u.2.2.2.1, u.2.2.2.2.1, u.2.2.2.2.2.1, u.2.2.2.2.2.2.1, gup u.2.2.2.2.2.2.2.1 i (Int32.ofNat c), u.2.2.2.2.2.2.2.2.1, u.2.2.2.2.2.2.2.2.2.1, u.2.2.2.2.2.2.2.2.2.2.1, u.2.2.2.2.2.2.2.2.2.2.2.1, u.2.2.2.2.2.2.2.2.2.2.2.2.1, u.2.2.2.2.2.2.2.2.2.2.2.2.2.1, gup u.2.2.2.2.2.2.2.2.2.2.2.2.2.2 i ((u.1 k).2.2.2.2.2 10)) : gU) y o z) := by
  intro y o z
  have i4 : i < 4 := by omega
  have hk2 : k < 32 := by omega
  rw [cH_handOver_2]
  simp only [hi_165_1, Option.bind_some, hx, if_pos (n_ltl (n := i) (m := t) (by omega) (by omega) hi), hr_165_0, ha_166 i4, e1, ho_1, k_tin hu hn hk, reduceCtorEq, if_false, hr_165_2, hjT_10 hk2, hb_167 i4, hr_165_3, hiT_5 hk2, hc, hb_168 i4, hpT_6 hk2, cH_handOver_50, n_succ]
  rfl
/-- the loop that hands over: what is passed is free, and none twice -/
theorem w_handL {pk : Nat → Nat} (hn : n ≤ 32) (hp4 : p ≤ 4) (hpk : ∀ t, t < p → pk t < n) (dis : ∀ s t, s < t → t < p → ¬ pk s = pk t) : ∀ (r i f f2 : Nat) (u : gU) (x : gX), i + r = p → u.2.2.1 1 = Int32.ofNat n → u.2.2.2.2.2.1 1 = Int32.ofNat p → x.2.1 10 = Int32.ofNat p → (∀ t, t < p → u.2.2.2.2.2.2.1 t = Int32.ofNat (pk t) ∧ x.2.2.1 t = Int32.ofNat (pk t)) → (∀ k, k < n → ∃ s c, gO n s c (u.1 k) (x.1 k)) → (∀ t, i ≤ t → t < p → ∃ c, gO n 4 c (u.1 (pk t)) (x.1 (pk t)) ∧ (u.1 (pk t)).2.2.2.2.1 6 = 0) → ∃ C' R' h8 hw' x8 x9, (∀ y o z, cH_handOver_2 (f + r + 1) (some 165) (some 1) (Int32.ofNat i) (gH u y o z) = some (gH ((C', u.2.1, u.2.2.1, u.2.2.2.1, u.2.2.2.2.1, gup u.2.2.2.2.2.1 4 (Int32.ofNat p), u.2.2.2.2.2.2.1, h8, u.2.2.2.2.2.2.2.2.1, u.2.2.2.2.2.2.2.2.2.1, u.2.2.2.2.2.2.2.2.2.2.1, u.2.2.2.2.2.2.2.2.2.2.2.1, u.2.2.2.2.2.2.2.2.2.2.2.2.1, u.2.2.2.2.2.2.2.2.2.2.2.2.2.1, hw') : gU) y o z)) ∧ (∀ y o z, mM_handOver_10 (f2 + r + 1) (some 188) (Int32.ofNat i) (gH y x o z) = some (gH y ((R', x.2.1, x.2.2.1, x8, x9, x.2.2.2.2.2.1, x.2.2.2.2.2.2.1, x.2.2.2.2.2.2.2.1, x.2.2.2.2.2.2.2.2.1, x.2.2.2.2.2.2.2.2.2.1, x.2.2.2.2.2.2.2.2.2.2.1, x.2.2.2.2.2.2.2.2.2.2.2.1, x.2.2.2.2.2.2.2.2.2.2.2.2.1, x.2.2.2.2.2.2.2.2.2.2.2.2.2.1, x.2.2.2.2.2.2.2.2.2.2.2.2.2.2.1, x.2.2.2.2.2.2.2.2.2.2.2.2.2.2.2) : gX) o z)) ∧ (∀ k, k < n → ∃ s c, gO n s c (C' k) (R' k)) ∧ (∀ t, t < i → h8 t = u.2.2.2.2.2.2.2.1 t ∧ hw' t = u.2.2.2.2.2.2.2.2.2.2.2.2.2.2 t ∧ x8 t = x.2.2.2.1 t ∧ ∀ j, j < 8 → x9 (8 * t + j) = x.2.2.2.2.1 (8 * t + j)) ∧ ∀ t, i ≤ t → t < p → ∃ l, l ≤ 8 ∧ h8 t = Int32.ofNat l ∧ x8 t = Int32.ofNat l ∧ ∀ j, j < l → x9 (8 * t + j) = gt_w (hw' t) j := by
  intro r
  induction r with
  | zero =>
    intro i f f2 u x h hu hc hx hps ob fr
    refine ⟨u.1, x.1, u.2.2.2.2.2.2.2.1, u.2.2.2.2.2.2.2.2.2.2.2.2.2.2, x.2.2.2.1, x.2.2.2.2.1, fun y o z => ?_, fun y o z => ?_, ob, fun t ht => ⟨rfl, rfl, rfl, fun _ _ => rfl⟩, fun t h1 h2 => by omega⟩
    · rw [cH_handOver_2, hi_165_1, Option.bind_some, hc, if_neg (n_nltl (by omega) (by omega) (by omega)), Option.bind_some, hp_165_4]
      rfl
    · rw [mM_handOver_10, hi_188_10, Option.bind_some, hx, if_neg (n_nltl (by omega) (by omega) (by omega))]
  | succ r ih =>
    intro i f f2 u x h hu hc hx hps ob fr
    have hip : i < p := by omega
    have i4 : i < 4 := by omega
    obtain ⟨e1, e2⟩ := hps i hip
    have hkn := hpk i hip
    have hk : pk i < 32 := by omega
    obtain ⟨c, O, f6⟩ := fr i (Nat.le_refl _) hip
    have c8 : c ≤ 8 := O.c8
    obtain ⟨h9, a1, a2, a4⟩ := r_hoStep (x := x) (f := f2 + r + 1) hk hip hp4 hx e2 (O.ep f6)
    have ks := k_hoStep (u := u) (f := f + r + 1) hn hu hkn hip hp4 hc e1 O.ec
    obtain ⟨C', R', h8, hw', x8, x9, b1, b2, b3, b4, b5⟩ := ih (i + 1) f f2 ((gup u.1 (pk i) (gq_det (u.1 (pk i))), u.2.1, u.2.2.1, u.2.2.2.1, u.2.2.2.2.1, u.2.2.2.2.2.1, u.2.2.2.2.2.2.1, gup u.2.2.2.2.2.2.2.1 i (Int32.ofNat c), u.2.2.2.2.2.2.2.2.1, u.2.2.2.2.2.2.2.2.2.1, u.2.2.2.2.2.2.2.2.2.2.1, u.2.2.2.2.2.2.2.2.2.2.2.1, u.2.2.2.2.2.2.2.2.2.2.2.2.1, u.2.2.2.2.2.2.2.2.2.2.2.2.2.1, gup u.2.2.2.2.2.2.2.2.2.2.2.2.2.2 i ((u.1 (pk i)).2.2.2.2.2 10)) : gU) ((gup x.1 (pk i) (gp_det (x.1 (pk i))), x.2.1, x.2.2.1, gup x.2.2.2.1 i (Int32.ofNat c), h9, x.2.2.2.2.2.1, x.2.2.2.2.2.2.1, x.2.2.2.2.2.2.2.1, x.2.2.2.2.2.2.2.2.1, x.2.2.2.2.2.2.2.2.2.1, x.2.2.2.2.2.2.2.2.2.2.1, x.2.2.2.2.2.2.2.2.2.2.2.1, x.2.2.2.2.2.2.2.2.2.2.2.2.1, x.2.2.2.2.2.2.2.2.2.2.2.2.2.1, x.2.2.2.2.2.2.2.2.2.2.2.2.2.2.1, x.2.2.2.2.2.2.2.2.2.2.2.2.2.2.2) : gX) (by omega) hu hc hx hps (gob_up ob ⟨4, c, gO_det O⟩) (fun t h1 h2 => by
      have ne : ¬ pk t = pk i := fun q => dis i t (by omega) h2 q.symm
      obtain ⟨c2, O2, f2⟩ := fr t (by omega) h2
      refine ⟨c2, ?_, ?_⟩
      · show gO n 4 c2 (gup u.1 (pk i) _ (pk t)) (gup x.1 (pk i) _ (pk t))
        rw [gup_ne ne, gup_ne ne]; exact O2
      · show (gup u.1 (pk i) _ (pk t)).2.2.2.2.1 6 = 0
        rw [gup_ne ne]; exact f2)
    refine ⟨C', R', h8, hw', x8, x9, fun y o z => ?_, fun y o z => ?_, b3, fun t ht => ?_, fun t h1 h2 => ?_⟩
    · exact (ks y o z).trans (b1 y o z)
    · exact (a1 y o z).trans (b2 y o z)
    · obtain ⟨q1, q2, q3, q4⟩ := b4 t (by omega)
      refine ⟨q1.trans (gup_ne (by omega)), q2.trans (gup_ne (by omega)), q3.trans (gup_ne (by omega)), fun j hj => (q4 j hj).trans (a2 (8 * t + j) (by omega))⟩
    · by_cases e : t = i
      · subst e
        obtain ⟨q1, q2, q3, q4⟩ := b4 t (by omega)
        refine ⟨c, c8, q1.trans gup_eq, q3.trans gup_eq, fun j hj => ?_⟩
        rw [q4 j (by omega), q2]
        show h9 (8 * t + j) = gt_w (gup u.2.2.2.2.2.2.2.2.2.2.2.2.2.2 t ((u.1 (pk t)).2.2.2.2.2 10) t) j
        rw [gup_eq, a4 j (by omega)]
        exact O.bb rfl j hj
      · exact b5 t (by omega) h2
theorem r_copyW {t : Nat} (ht : t ≤ 300) : ∀ (r i f : Nat) (x : gX), i + r = t → x.2.1 27 = Int32.ofNat t → ∃ h, (∀ y o z, mM_write_168 (f + r + 1) (some 188) (Int32.ofNat i) (gH y x o z) = mM_write_194 (some 188) (gH y ((x.1, x.2.1, x.2.2.1, x.2.2.2.1, x.2.2.2.2.1, h, x.2.2.2.2.2.2.1, x.2.2.2.2.2.2.2.1, x.2.2.2.2.2.2.2.2.1, x.2.2.2.2.2.2.2.2.2.1, x.2.2.2.2.2.2.2.2.2.2.1, x.2.2.2.2.2.2.2.2.2.2.2.1, x.2.2.2.2.2.2.2.2.2.2.2.2.1, x.2.2.2.2.2.2.2.2.2.2.2.2.2.1, x.2.2.2.2.2.2.2.2.2.2.2.2.2.2.1, x.2.2.2.2.2.2.2.2.2.2.2.2.2.2.2) : gX) o z)) ∧ (∀ j, j < i → h j = x.2.2.2.2.2.1 j) ∧ ∀ j, i ≤ j → j < t → h j = x.2.2.2.2.2.2.2.2.2.2.2.2.2.1 j := by
  intro r
  induction r with
  | zero =>
    intro i f x h hx
    refine ⟨x.2.2.2.2.2.1, fun y o z => ?_, fun _ _ => rfl, fun j h1 h2 => by omega⟩
    rw [mM_write_168, hi_188_27, Option.bind_some, hx, if_neg (n_nltl (by omega) (by omega) (by omega))]
  | succ r ih =>
    intro i f x h hx
    obtain ⟨h2, k1, k2, k3⟩ := ih (i + 1) f ((x.1, x.2.1, x.2.2.1, x.2.2.2.1, x.2.2.2.2.1, gup x.2.2.2.2.2.1 i (x.2.2.2.2.2.2.2.2.2.2.2.2.2.1 i), x.2.2.2.2.2.2.1, x.2.2.2.2.2.2.2.1, x.2.2.2.2.2.2.2.2.1, x.2.2.2.2.2.2.2.2.2.1, x.2.2.2.2.2.2.2.2.2.2.1, x.2.2.2.2.2.2.2.2.2.2.2.1, x.2.2.2.2.2.2.2.2.2.2.2.2.1, x.2.2.2.2.2.2.2.2.2.2.2.2.2.1, x.2.2.2.2.2.2.2.2.2.2.2.2.2.2.1, x.2.2.2.2.2.2.2.2.2.2.2.2.2.2.2) : gX) (by omega) hx
    refine ⟨h2, fun y o z => ?_, fun j hj => (k2 j (by omega)).trans (gup_ne (by omega)), fun j j1 j2 => ?_⟩
    · rw [show f + (r + 1) + 1 = (f + r + 1) + 1 by omega, mM_write_168, hi_188_27, Option.bind_some, hx, if_pos (n_ltl (by omega) (by omega) (by omega))]
      simp only [hr_188_16, hr_188_28, Option.bind_some, ha_208 (show i < 300 by omega), hb_200 (show i < 300 by omega), n_succ]
      exact k1 y o z
    · by_cases e : j = i
      · subst e; exact (k2 j (by omega)).trans gup_eq
      · exact k3 j (by omega) j2
theorem hb_like {t : Nat} {o : Nat → Int64} {z : gx_H} (ht : t ≤ 300) : gv_cp (gH u x o z) (some 171) 0 (some 164) 0 (Int32.ofNat t) = some (gH ((u.1, u.2.1, u.2.2.1, u.2.2.2.1, fun i => if i < t then u.2.2.2.2.2.2.2.2.2.2.1 i else u.2.2.2.2.1 i, u.2.2.2.2.2.1, u.2.2.2.2.2.2.1, u.2.2.2.2.2.2.2.1, u.2.2.2.2.2.2.2.2.1, u.2.2.2.2.2.2.2.2.2.1, u.2.2.2.2.2.2.2.2.2.2.1, u.2.2.2.2.2.2.2.2.2.2.2.1, u.2.2.2.2.2.2.2.2.2.2.2.2.1, u.2.2.2.2.2.2.2.2.2.2.2.2.2.1, u.2.2.2.2.2.2.2.2.2.2.2.2.2.2) : gU) x o z) := by
  unfold gH
  rw [gm_cp (n0 := 300) (n1 := 300) (by omega) (by omega) rfl rfl ht ht (by omega), gf_bl]
  rfl
end H
