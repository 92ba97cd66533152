/-! read: the call -/
section H
variable {n m p q : Nat} {u u' : gU} {x x' : gX} {o : Nat → Int64} {z : gx_H}
theorem rd_refuse (T : gTi n m p q u x) (h1 : ∀ y o z, cR_run (some 187) (some 1) (some 163) (some 165) (gH u y o z) = some (0, gH u' y o z)) (hu : gUf n u u') (hc : u'.2.2.1 1 = Int32.ofNat n) (h2 : ∀ y o z, mM_takeAll (some 188) (gH y x o z) = some (gH y x' o z)) (hg : x'.2.1 31 = 0) (hx : gXd n x x') : gAns u x o z (lw_read (some 0) (some 211)) (mM_read (some 188)) := by
  have e0 : gup x'.2.1 0 1 0 = 1 := gup_eq
  have tt : gTT u' ((x'.1, gup x'.2.1 0 1, x'.2.2.1, x'.2.2.2.1, x'.2.2.2.2.1, x'.2.2.2.2.2.1, x'.2.2.2.2.2.2.1, x'.2.2.2.2.2.2.2.1, x'.2.2.2.2.2.2.2.2.1, x'.2.2.2.2.2.2.2.2.2.1, x'.2.2.2.2.2.2.2.2.2.2.1, x'.2.2.2.2.2.2.2.2.2.2.2.1, x'.2.2.2.2.2.2.2.2.2.2.2.2.1, x'.2.2.2.2.2.2.2.2.2.2.2.2.2.1, x'.2.2.2.2.2.2.2.2.2.2.2.2.2.2.1, x'.2.2.2.2.2.2.2.2.2.2.2.2.2.2.2) : gX) := by
    refine gTT_0 ⟨n, m, p, q, T.hn, hc, (hx.dk 1 (by omega)).trans T.xn, fun k hk => ?_, T.hm, by rw [hu.u3]; exact T.um, (hx.dk 15 (by omega)).trans T.xm, fun i hi => ?_, fun i hi => ?_, T.hp, by rw [hu.u5]; exact T.up, (hx.dk 10 (by omega)).trans T.xp, fun i hi => ?_, fun i hi => ?_, T.hq, by rw [hu.u5]; exact T.uq, (hx.dk 12 (by omega)).trans T.xq, fun i hi => ?_, ?_⟩
    · rw [hu.uC k hk, hx.dR k hk]; exact T.ob k hk
    · rw [hx.d0, hu.u4]; exact T.bs i hi
    · rw [hu.u4]; exact T.b8 i hi
    · rw [hx.d7, hu.u6]; exact T.pa i hi
    · rw [hu.u6]; exact T.pb i hi
    · rw [hu.u8, hx.d8, hx.d9, hu.uh]; exact T.ho i hi
    · rw [hu.u0, hx.dk 17 (by omega)]; exact T.fo
  refine ⟨1, u', o, z ++ [(8, [])], 0, ((x'.1, gup x'.2.1 0 1, x'.2.2.1, x'.2.2.2.1, x'.2.2.2.2.1, x'.2.2.2.2.2.1, x'.2.2.2.2.2.2.1, x'.2.2.2.2.2.2.2.1, x'.2.2.2.2.2.2.2.2.1, x'.2.2.2.2.2.2.2.2.2.1, x'.2.2.2.2.2.2.2.2.2.2.1, x'.2.2.2.2.2.2.2.2.2.2.2.1, x'.2.2.2.2.2.2.2.2.2.2.2.2.1, x'.2.2.2.2.2.2.2.2.2.2.2.2.2.1, x'.2.2.2.2.2.2.2.2.2.2.2.2.2.2.1, x'.2.2.2.2.2.2.2.2.2.2.2.2.2.2.2) : gX), ?_, ?_, rfl, fun q => absurd q (by decide), tt, by simp⟩
  · simp only [lw_read, ho_0, Option.bind_some, cG_read, hr_0_4, hr_0_0, hr_0_1, hr_0_2, ho_187, h1, if_true, hl, hthr, hexc] <;> rfl
  · rw [mM_read, ho_188, Option.bind_some, h2, Option.bind_some, hi_188_31, Option.bind_some, if_pos hg, mM_read_17, hp_188_0, Option.bind_some, hi_188_0, Option.bind_some]
    exact if_pos (show 0 < gup x'.2.1 0 1 0 by rw [e0]; decide)
theorem rd_accept {f N pos : Nat} (T : gTi n m p q u x) (h1 : ∀ y o z, cR_run (some 187) (some 1) (some 163) (some 165) (gH u y o z) = some (1, gH u' y o z)) (hu : gUf n u u') (h2 : ∀ y o z, mM_takeAll (some 188) (gH y x o z) = some (gH y x' o z)) (G : gD n f q m N pos u' x') (hx : gXd n x x') (e35 : x'.2.1 35 = u'.2.2.2.2.2.2.2.2.2.2.2.2.1 2) (e36 : x'.2.1 36 = u'.2.2.2.2.2.2.2.2.2.2.2.2.1 3) : gAns u x o z (lw_read (some 0) (some 211)) (mM_read (some 188)) := by
  have nf := G.nf
  have fN := G.fN
  have hg : ¬ x'.2.1 31 = 0 := by rw [G.gg]; exact i_10
  have i0 : gup x'.2.1 0 0 0 = 0 := gup_eq
  have i33 : gup x'.2.1 0 0 33 = Int32.ofNat N := (gup_ne (by omega)).trans G.xn
  have i36 : gup (gup (gup x'.2.1 0 0) 1 (Int32.ofNat N)) 12 0 36 = u'.2.2.2.2.2.2.2.2.2.2.2.2.1 3 := by rw [gup_ne (by omega), gup_ne (by omega), gup_ne (by omega)]; exact e36
  have i35 : gup (gup (gup (gup x'.2.1 0 0) 1 (Int32.ofNat N)) 12 0) 17 (u'.2.2.2.2.2.2.2.2.2.2.2.2.1 3) 35 = u'.2.2.2.2.2.2.2.2.2.2.2.2.1 2 := by rw [gup_ne (by omega), gup_ne (by omega), gup_ne (by omega), gup_ne (by omega)]; exact e35
  have tt : gTT ((u'.1, gup u'.2.1 5 (u'.2.2.2.2.2.2.2.2.2.2.2.2.1 3), u'.2.2.1, u'.2.2.2.1, u'.2.2.2.2.1, gup u'.2.2.2.2.2.1 4 0, u'.2.2.2.2.2.2.1, u'.2.2.2.2.2.2.2.1, u'.2.2.2.2.2.2.2.2.1, u'.2.2.2.2.2.2.2.2.2.1, u'.2.2.2.2.2.2.2.2.2.2.1, u'.2.2.2.2.2.2.2.2.2.2.2.1, u'.2.2.2.2.2.2.2.2.2.2.2.2.1, u'.2.2.2.2.2.2.2.2.2.2.2.2.2.1, u'.2.2.2.2.2.2.2.2.2.2.2.2.2.2) : gU) ((x'.1, gup (gup (gup (gup x'.2.1 0 0) 1 (Int32.ofNat N)) 12 0) 17 (u'.2.2.2.2.2.2.2.2.2.2.2.2.1 3), x'.2.2.1, x'.2.2.2.1, x'.2.2.2.2.1, x'.2.2.2.2.2.1, x'.2.2.2.2.2.2.1, x'.2.2.2.2.2.2.2.1, x'.2.2.2.2.2.2.2.2.1, x'.2.2.2.2.2.2.2.2.2.1, x'.2.2.2.2.2.2.2.2.2.2.1, x'.2.2.2.2.2.2.2.2.2.2.2.1, x'.2.2.2.2.2.2.2.2.2.2.2.2.1, x'.2.2.2.2.2.2.2.2.2.2.2.2.2.1, x'.2.2.2.2.2.2.2.2.2.2.2.2.2.2.1, x'.2.2.2.2.2.2.2.2.2.2.2.2.2.2.2) : gX) := by
    refine ⟨N, m, p, 0, G.hN, G.un, rfl, G.ob, T.hm, G.um, ?_, G.bs, G.b8, T.hp, ?_, ?_, fun i hi => ?_, fun i hi => ?_, by omega, rfl, rfl, fun i hi => by omega, rfl⟩
    · show gup (gup (gup (gup x'.2.1 0 0) 1 (Int32.ofNat N)) 12 0) 17 (u'.2.2.2.2.2.2.2.2.2.2.2.2.1 3) 15 = _
      rw [gup_ne (by omega), gup_ne (by omega), gup_ne (by omega), gup_ne (by omega)]; exact G.xm
    · show gup u'.2.2.2.2.2.1 4 0 1 = _
      rw [gup_ne (by omega), hu.u5]; exact T.up
    · show gup (gup (gup (gup x'.2.1 0 0) 1 (Int32.ofNat N)) 12 0) 17 (u'.2.2.2.2.2.2.2.2.2.2.2.2.1 3) 10 = _
      rw [gup_ne (by omega), gup_ne (by omega), gup_ne (by omega), gup_ne (by omega), hx.dk 10 (by omega)]; exact T.xp
    · show x'.2.2.1 i = u'.2.2.2.2.2.2.1 i
      rw [hx.d7, hu.u6]; exact T.pa i hi
    · show ∃ k, k < N ∧ u'.2.2.2.2.2.2.1 i = Int32.ofNat k
      rw [hu.u6]
      obtain ⟨k, a, b⟩ := T.pb i hi
      exact ⟨k, by omega, b⟩
  refine ⟨0, ((u'.1, gup u'.2.1 5 (u'.2.2.2.2.2.2.2.2.2.2.2.2.1 3), u'.2.2.1, u'.2.2.2.1, u'.2.2.2.2.1, gup u'.2.2.2.2.2.1 4 0, u'.2.2.2.2.2.2.1, u'.2.2.2.2.2.2.2.1, u'.2.2.2.2.2.2.2.2.1, u'.2.2.2.2.2.2.2.2.2.1, u'.2.2.2.2.2.2.2.2.2.2.1, u'.2.2.2.2.2.2.2.2.2.2.2.1, u'.2.2.2.2.2.2.2.2.2.2.2.2.1, u'.2.2.2.2.2.2.2.2.2.2.2.2.2.1, u'.2.2.2.2.2.2.2.2.2.2.2.2.2.2) : gU), gup o 0 (Int32.toInt64 (u'.2.2.2.2.2.2.2.2.2.2.2.2.1 2)), z, u'.2.2.2.2.2.2.2.2.2.2.2.2.1 2, ((x'.1, gup (gup (gup (gup x'.2.1 0 0) 1 (Int32.ofNat N)) 12 0) 17 (u'.2.2.2.2.2.2.2.2.2.2.2.2.1 3), x'.2.2.1, x'.2.2.2.1, x'.2.2.2.2.1, x'.2.2.2.2.2.1, x'.2.2.2.2.2.2.1, x'.2.2.2.2.2.2.2.1, x'.2.2.2.2.2.2.2.2.1, x'.2.2.2.2.2.2.2.2.2.1, x'.2.2.2.2.2.2.2.2.2.2.1, x'.2.2.2.2.2.2.2.2.2.2.2.1, x'.2.2.2.2.2.2.2.2.2.2.2.2.1, x'.2.2.2.2.2.2.2.2.2.2.2.2.2.1, x'.2.2.2.2.2.2.2.2.2.2.2.2.2.2.1, x'.2.2.2.2.2.2.2.2.2.2.2.2.2.2.2) : gX), ?_, ?_, ?_, fun _ => rfl, tt, by omega⟩
  · simp only [lw_read, ho_0, Option.bind_some, cG_read, hr_0_4, hr_0_0, hr_0_1, hr_0_2, ho_187, h1, if_neg i_10, hp_165_4, hi_187_3, hp_0_5, hi_187_2, hb0] <;> rfl
  · rw [mM_read, ho_188, Option.bind_some, h2, Option.bind_some, hi_188_31, Option.bind_some, if_neg hg]
    simp only [mM_read_17, hp_188_0, Option.bind_some, hi_188_0, i0, show ¬ (0 : Int32) < 0 by decide, if_false, hi_188_33, i33, hp_188_1, hp_188_12, hi_188_36, i36, hp_188_17, hi_188_35, i35]
  · show gup (gup (gup (gup x'.2.1 0 0) 1 (Int32.ofNat N)) 12 0) 17 (u'.2.2.2.2.2.2.2.2.2.2.2.2.1 3) 0 = 0
    rw [gup_ne (by omega), gup_ne (by omega), gup_ne (by omega), gup_eq]
def gur (u : gU) (n q : Nat) : gU := ((u.1, u.2.1, u.2.2.1, u.2.2.2.1, u.2.2.2.2.1, u.2.2.2.2.2.1, u.2.2.2.2.2.2.1, u.2.2.2.2.2.2.2.1, u.2.2.2.2.2.2.2.2.1, u.2.2.2.2.2.2.2.2.2.1, u.2.2.2.2.2.2.2.2.2.2.1, u.2.2.2.2.2.2.2.2.2.2.2.1, gup (gup (gup (gup u.2.2.2.2.2.2.2.2.2.2.2.2.1 0 0) 1 0) 4 (Int32.ofNat n)) 5 (Int32.ofNat q), u.2.2.2.2.2.2.2.2.2.2.2.2.2.1, u.2.2.2.2.2.2.2.2.2.2.2.2.2.2) : gU)
def gxr (x : gX) (n : Nat) (v : Int32) : gX := ((x.1, gup (gup x.2.1 33 (Int32.ofNat n)) 31 v, x.2.2.1, x.2.2.2.1, x.2.2.2.2.1, x.2.2.2.2.2.1, x.2.2.2.2.2.2.1, x.2.2.2.2.2.2.2.1, x.2.2.2.2.2.2.2.2.1, x.2.2.2.2.2.2.2.2.2.1, x.2.2.2.2.2.2.2.2.2.2.1, x.2.2.2.2.2.2.2.2.2.2.2.1, x.2.2.2.2.2.2.2.2.2.2.2.2.1, x.2.2.2.2.2.2.2.2.2.2.2.2.2.1, x.2.2.2.2.2.2.2.2.2.2.2.2.2.2.1, x.2.2.2.2.2.2.2.2.2.2.2.2.2.2.2) : gX)
theorem k_run (T : gTi n m p q u x) : ∀ y o z, cR_run (some 187) (some 1) (some 163) (some 165) (gH u y o z) = (cR_makeHanded_18 1000000000000000 (some 187) (some 1) (some 165) (Int32.ofNat 0) (gH (gur u n q) y o z)).bind (crt (Int32.ofNat n)) := by
  intro y o z
  have un := T.un
  have uq := T.uq
  rw [cR_run, hi_1_1, Option.bind_some, hp_187_0, Option.bind_some, hp_187_1, Option.bind_some, ho_187, Option.bind_some, cR_makeHanded, hi_1_1, Option.bind_some, hp_187_4, Option.bind_some, hi_165_4, Option.bind_some, hp_187_5, Option.bind_some]
  show ((cR_makeHanded_18 1000000000000000 (some 187) (some 1) (some 165) 0 (gH ((u.1, u.2.1, u.2.2.1, u.2.2.2.1, u.2.2.2.2.1, u.2.2.2.2.2.1, u.2.2.2.2.2.2.1, u.2.2.2.2.2.2.2.1, u.2.2.2.2.2.2.2.2.1, u.2.2.2.2.2.2.2.2.2.1, u.2.2.2.2.2.2.2.2.2.2.1, u.2.2.2.2.2.2.2.2.2.2.2.1, gup (gup (gup (gup u.2.2.2.2.2.2.2.2.2.2.2.2.1 0 0) 1 0) 4 (u.2.2.1 1)) 5 (u.2.2.2.2.2.1 4), u.2.2.2.2.2.2.2.2.2.2.2.2.2.1, u.2.2.2.2.2.2.2.2.2.2.2.2.2.2) : gU) y o z)).bind (crt (u.2.2.1 1))) = _
  rw [un, uq]
  rfl
theorem r_all (T : gTi n m p q u x) : ∀ y o z, mM_takeAll (some 188) (gH y x o z) = (mM_takeHolders_33 1000000000000000 (some 188) (Int32.ofNat 0) (gH y (gxr x n (if 32 < n + q then 0 else 1)) o z)).bind mrt := by
  intro y o z
  have hn := T.hn
  have hq := T.hq
  have e1 : gup x.2.1 33 (x.2.1 1) 1 = Int32.ofNat n := (gup_ne (by omega)).trans T.xn
  have e12 : gup x.2.1 33 (x.2.1 1) 12 = Int32.ofNat q := (gup_ne (by omega)).trans T.xq
  have hh : mM_takeHolders (some 188) (gH y x o z) = mM_takeHolders_33 1000000000000000 (some 188) (Int32.ofNat 0) (gH y (gxr x n (if 32 < n + q then 0 else 1)) o z) := by
    rw [mM_takeHolders, hi_188_1, Option.bind_some, hp_188_33, Option.bind_some, hi_188_1, Option.bind_some, hi_188_12, Option.bind_some]
    show (if 32 < gup x.2.1 33 (x.2.1 1) 1 + gup x.2.1 33 (x.2.1 1) 12 then _ else _) = _
    rw [e1, e12, n_add, T.xn]
    by_cases c : 32 < n + q
    · rw [if_pos (show (32 : Int32) < Int32.ofNat (n + q) from n_ltl (n := 32) (by omega) (by omega) c), if_pos c, mM_takeHolders_28, if_neg (fun k => k (Or.inl rfl)), hp_188_31, Option.bind_some]
      rfl
    · rw [if_neg (show ¬ (32 : Int32) < Int32.ofNat (n + q) from n_nltl (n := 32) (by omega) (by omega) (by omega)), if_neg c, mM_takeHolders_28, if_neg (fun k => k (Or.inr rfl)), hp_188_31, Option.bind_some]
      rfl
  rw [mM_takeAll, ho_188, Option.bind_some, hh]
  rfl
theorem gD_first (T : gTi n m p q u x) (h : n + q ≤ 32) (K : gHd n q (gur u n q) (gxr x n 1) u' x') : gD n (n + q) q m (n + q) 0 ((u'.1, u'.2.1, u'.2.2.1, u'.2.2.2.1, u'.2.2.2.2.1, u'.2.2.2.2.2.1, u'.2.2.2.2.2.2.1, u'.2.2.2.2.2.2.2.1, u'.2.2.2.2.2.2.2.2.1, u'.2.2.2.2.2.2.2.2.2.1, u'.2.2.2.2.2.2.2.2.2.2.1, u'.2.2.2.2.2.2.2.2.2.2.2.1, gup u'.2.2.2.2.2.2.2.2.2.2.2.2.1 6 (Int32.ofNat (n + q)), u'.2.2.2.2.2.2.2.2.2.2.2.2.2.1, u'.2.2.2.2.2.2.2.2.2.2.2.2.2.2) : gU) (gz3 x') := by
  have z3 : ∀ t, ¬ t = 32 → ¬ t = 29 → ¬ t = 18 → ¬ t = 33 → ¬ t = 31 → (gz3 x').2.1 t = x.2.1 t := by
    intro t a b c d e
    show gup (gup (gup x'.2.1 32 0) 29 0) 18 0 t = _
    rw [gup_ne c, gup_ne b, gup_ne a, K.xk t d]
    show gup (gup x.2.1 33 (Int32.ofNat n)) 31 1 t = _
    rw [gup_ne e, gup_ne d]
  have uk : u'.2.2.2.2.2.2.2.2.2.2.2.2.1 = gup (gup (gup (gup u.2.2.2.2.2.2.2.2.2.2.2.2.1 0 0) 1 0) 4 (Int32.ofNat n)) 5 (Int32.ofNat q) := K.uk
  refine ⟨h, rfl, Nat.le_refl _, K.un, K.xn, (z3 1 (by omega) (by omega) (by omega) (by omega) (by omega)).trans T.xn, K.ob, K.nd, ?_, ?_, ?_, rfl, by omega, T.hm, by rw [K.uf.u3]; exact T.um, (z3 15 (by omega) (by omega) (by omega) (by omega) (by omega)).trans T.xm, fun i hi => ?_, fun i hi => ?_, rfl, ?_, ?_, (z3 12 (by omega) (by omega) (by omega) (by omega) (by omega)).trans T.xq, ?_, fun i hi => by omega⟩
  · show gup u'.2.2.2.2.2.2.2.2.2.2.2.2.1 6 (Int32.ofNat (n + q)) 1 = 0
    rw [gup_ne (by omega), uk]; rfl
  · show x'.2.1 31 = 1
    exact K.xk 31 (by omega)
  · show gup u'.2.2.2.2.2.2.2.2.2.2.2.2.1 6 (Int32.ofNat (n + q)) 0 = _
    rw [gup_ne (by omega), uk]; rfl
  · show x'.2.2.2.2.2.1 i = u'.2.2.2.2.1 i
    rw [K.xd.d0, K.uf.u4]; exact T.bs i hi
  · show ∃ b, b < 256 ∧ u'.2.2.2.2.1 i = _
    rw [K.uf.u4]; exact T.b8 i hi
  · show gup u'.2.2.2.2.2.2.2.2.2.2.2.2.1 6 (Int32.ofNat (n + q)) 4 = _
    rw [gup_ne (by omega), uk]; rfl
  · show gup u'.2.2.2.2.2.2.2.2.2.2.2.2.1 6 (Int32.ofNat (n + q)) 5 = _
    rw [gup_ne (by omega), uk]; rfl
  · rw [Nat.sub_self]
    rfl
theorem gUf_ur : gUf n u (gur u n q) := gUf_r
theorem gXd_xr {v : Int32} : gXd n x (gxr x n v) := by
  refine ⟨fun _ _ => rfl, fun j hj => ?_, rfl, rfl, rfl, rfl⟩
  show gup (gup x.2.1 33 (Int32.ofNat n)) 31 v j = _
  rw [gup_ne (by omega), gup_ne (by omega)]
theorem gHd_0 (T : gTi n m p q u x) : gHd n 0 (gur u n q) (gxr x n 1) (gur u n q) (gxr x n 1) :=
  ⟨T.un, rfl, T.ob, fun k a b => by omega, rfl, fun _ _ => rfl, gUf_refl, gXd_refl⟩
theorem t_read (h : gTT u x) : gAns u x o z (lw_read (some 0) (some 211)) (mM_read (some 188)) := by
  obtain ⟨n, m, p, q, T⟩ := h
  have hn := T.hn
  have hq := T.hq
  have kr := k_run T
  have ra := r_all T
  obtain ⟨g, hG⟩ : ∃ g, 1000000000000000 = g + q + 1 := ⟨999999999999999 - q, by omega⟩
  by_cases c : 32 < n + q
  · rw [if_pos c] at ra
    obtain ⟨u1, a1, a2, a3⟩ := k_mhL (n0 := n) hq q 0 g n (gur u n q) (by omega) (Nat.le_refl _) hn T.un rfl (Or.inl c)
    have e31 : (gxr x n 0).2.1 31 = 0 := rfl
    have th : ∀ y o z, mM_takeHolders_33 1000000000000000 (some 188) (Int32.ofNat 0) (gH y (gxr x n 0) o z) = some (gH y (gxr x n 0) o z) := by
      intro y o z
      have e12 : (gxr x n 0).2.1 12 = Int32.ofNat q := T.xq
      rw [hG, mM_takeHolders_33, hi_188_12, Option.bind_some, e12, if_pos (n_ltl (n := 0) (by omega) (by omega) (by omega)), hi_188_31, Option.bind_some, if_pos e31]
    have d3 : gXd n (gxr x n 0) (gz3 (gxr x n 0)) := gXd_z3
    have d4 : gXd n (gz3 (gxr x n 0)) (((gz3 (gxr x n 0)).1, gup (gz3 (gxr x n 0)).2.1 31 0, (gz3 (gxr x n 0)).2.2.1, (gz3 (gxr x n 0)).2.2.2.1, (gz3 (gxr x n 0)).2.2.2.2.1, (gz3 (gxr x n 0)).2.2.2.2.2.1, (gz3 (gxr x n 0)).2.2.2.2.2.2.1, (gz3 (gxr x n 0)).2.2.2.2.2.2.2.1, (gz3 (gxr x n 0)).2.2.2.2.2.2.2.2.1, (gz3 (gxr x n 0)).2.2.2.2.2.2.2.2.2.1, (gz3 (gxr x n 0)).2.2.2.2.2.2.2.2.2.2.1, (gz3 (gxr x n 0)).2.2.2.2.2.2.2.2.2.2.2.1, (gz3 (gxr x n 0)).2.2.2.2.2.2.2.2.2.2.2.2.1, (gz3 (gxr x n 0)).2.2.2.2.2.2.2.2.2.2.2.2.2.1, (gz3 (gxr x n 0)).2.2.2.2.2.2.2.2.2.2.2.2.2.2.1, (gz3 (gxr x n 0)).2.2.2.2.2.2.2.2.2.2.2.2.2.2.2) : gX) := gXd_31
    refine rd_refuse (u' := ((u1.1, u1.2.1, gup u1.2.2.1 1 (Int32.ofNat n), u1.2.2.2.1, u1.2.2.2.2.1, u1.2.2.2.2.2.1, u1.2.2.2.2.2.2.1, u1.2.2.2.2.2.2.2.1, u1.2.2.2.2.2.2.2.2.1, u1.2.2.2.2.2.2.2.2.2.1, u1.2.2.2.2.2.2.2.2.2.2.1, u1.2.2.2.2.2.2.2.2.2.2.2.1, u1.2.2.2.2.2.2.2.2.2.2.2.2.1, u1.2.2.2.2.2.2.2.2.2.2.2.2.2.1, u1.2.2.2.2.2.2.2.2.2.2.2.2.2.2) : gU)) (x' := (((gz3 (gxr x n 0)).1, gup (gz3 (gxr x n 0)).2.1 31 0, (gz3 (gxr x n 0)).2.2.1, (gz3 (gxr x n 0)).2.2.2.1, (gz3 (gxr x n 0)).2.2.2.2.1, (gz3 (gxr x n 0)).2.2.2.2.2.1, (gz3 (gxr x n 0)).2.2.2.2.2.2.1, (gz3 (gxr x n 0)).2.2.2.2.2.2.2.1, (gz3 (gxr x n 0)).2.2.2.2.2.2.2.2.1, (gz3 (gxr x n 0)).2.2.2.2.2.2.2.2.2.1, (gz3 (gxr x n 0)).2.2.2.2.2.2.2.2.2.2.1, (gz3 (gxr x n 0)).2.2.2.2.2.2.2.2.2.2.2.1, (gz3 (gxr x n 0)).2.2.2.2.2.2.2.2.2.2.2.2.1, (gz3 (gxr x n 0)).2.2.2.2.2.2.2.2.2.2.2.2.2.1, (gz3 (gxr x n 0)).2.2.2.2.2.2.2.2.2.2.2.2.2.2.1, (gz3 (gxr x n 0)).2.2.2.2.2.2.2.2.2.2.2.2.2.2.2) : gX)) T (fun y o z => ?_) (gUf_trans (gUf_trans gUf_ur a3 (Nat.le_refl _)) (N2 := n) ⟨fun _ _ => rfl, rfl, rfl, rfl, rfl, rfl, rfl, rfl⟩ (Nat.le_refl _)) rfl (fun y o z => ?_) rfl (gXd_trans (gXd_trans (gXd_xr (n := n)) d3 (Nat.le_refl _)) d4 (Nat.le_refl _))
    · rw [kr, hG, a1, Option.bind_some, k_crtD a2]
    · rw [ra, th, Option.bind_some, r_mrtD e31]
  · rw [if_neg c] at ra
    obtain ⟨u1, x1, a1, a2, K⟩ := rd_handL (u0 := gur u n q) (x0 := gxr x n 1) hq (by omega) rfl T.xq rfl T.ho q 0 g g (gur u n q) (gxr x n 1) (by omega) (gHd_0 T)
    rw [← hG] at a1 a2
    have G := gD_first T (by omega) K
    have g31 : x1.2.1 31 = 1 := K.xk 31 (by omega)
    have fu : gUf n u ((u1.1, u1.2.1, u1.2.2.1, u1.2.2.2.1, u1.2.2.2.2.1, u1.2.2.2.2.2.1, u1.2.2.2.2.2.2.1, u1.2.2.2.2.2.2.2.1, u1.2.2.2.2.2.2.2.2.1, u1.2.2.2.2.2.2.2.2.2.1, u1.2.2.2.2.2.2.2.2.2.2.1, u1.2.2.2.2.2.2.2.2.2.2.2.1, gup u1.2.2.2.2.2.2.2.2.2.2.2.2.1 6 (Int32.ofNat (n + q)), u1.2.2.2.2.2.2.2.2.2.2.2.2.2.1, u1.2.2.2.2.2.2.2.2.2.2.2.2.2.2) : gU) := gUf_trans (gUf_trans gUf_ur K.uf (Nat.le_refl _)) (gUf_r (N := n)) (Nat.le_refl _)
    have fx : gXd n x x1 := gXd_trans (gXd_xr (n := n)) K.xd (Nat.le_refl _)
    have kr2 : ∀ y o z, cR_run (some 187) (some 1) (some 163) (some 165) (gH u y o z) = crt (Int32.ofNat n) (gH ((u1.1, u1.2.1, u1.2.2.1, u1.2.2.2.1, u1.2.2.2.2.1, u1.2.2.2.2.2.1, u1.2.2.2.2.2.2.1, u1.2.2.2.2.2.2.2.1, u1.2.2.2.2.2.2.2.2.1, u1.2.2.2.2.2.2.2.2.2.1, u1.2.2.2.2.2.2.2.2.2.2.1, u1.2.2.2.2.2.2.2.2.2.2.2.1, gup u1.2.2.2.2.2.2.2.2.2.2.2.2.1 6 (Int32.ofNat (n + q)), u1.2.2.2.2.2.2.2.2.2.2.2.2.2.1, u1.2.2.2.2.2.2.2.2.2.2.2.2.2.2) : gU) y o z) := by
      intro y o z
      rw [kr, a1, Option.bind_some]
    have ra2 : ∀ y o z, mM_takeAll (some 188) (gH y x o z) = mrt (gH y x1 o z) := by
      intro y o z
      rw [ra, a2, Option.bind_some]
    clear kr ra a1 a2 K
    generalize (((u1.1, u1.2.1, u1.2.2.1, u1.2.2.2.1, u1.2.2.2.2.1, u1.2.2.2.2.2.1, u1.2.2.2.2.2.2.1, u1.2.2.2.2.2.2.2.1, u1.2.2.2.2.2.2.2.2.1, u1.2.2.2.2.2.2.2.2.2.1, u1.2.2.2.2.2.2.2.2.2.2.1, u1.2.2.2.2.2.2.2.2.2.2.2.1, gup u1.2.2.2.2.2.2.2.2.2.2.2.2.1 6 (Int32.ofNat (n + q)), u1.2.2.2.2.2.2.2.2.2.2.2.2.2.1, u1.2.2.2.2.2.2.2.2.2.2.2.2.2.2) : gU) : gU) = u2 at *
    have nq : n ≤ n + q := by omega
    by_cases c1 : 0 < m ∧ u2.2.2.2.2.1 0 = 15
    · obtain ⟨p0, e15⟩ := c1
      have G1 : gD n (n + q) q m (n + q) 1 (su u2 1) (sx (gz3 x1) 1) := gD_s G (by omega)
      have h18 : (sx (gz3 x1) 1).2.1 18 = Int32.ofNat 0 := rfl
      have kY := k_crtY (l := Int32.ofNat n) G p0 e15
      have rY := r_mrtY g31 G p0 e15
      obtain ⟨u3, k1, k2, k3⟩ := rd_val (n0 := n) (f := n + q) (q := q) (m := m) 12 0 7 (by omega) (su u2 1) (sx (gz3 x1) 1) (n + q) 1 G1 h18
      have rv : ∀ y o z, cR_readValue 20 (some 187) (some 1) (some 163) 1 (gH (su u2 1) y o z) = some (gH u3 y o z) := k1
      have fu3 : gUf n u u3 := gUf_trans (gUf_trans fu (gUf_r (N := n)) (Nat.le_refl _)) k2 nq
      have z3 : gXd n x1 (gz3 x1) := gXd_z3
      have s1 : gXd n (gz3 x1) (sx (gz3 x1) 1) := gXd_s (fun i hi => gup_ne (by omega))
      have fx1 : gXd n x (sx (gz3 x1) 1) := gXd_trans (gXd_trans fx z3 (Nat.le_refl _)) s1 (Nat.le_refl _)
      rcases k3 with ⟨x3, l1, N3, pos3, l2, l3, l4, l5, l6, l7, l8⟩ | ⟨l0, x3, l1, l2⟩
      · have rE := r_endT gBr12 l1 l5 l2.gg
        have fx3 : gXd n x x3 := gXd_trans fx1 l4.fd nq
        have hp3 := l2.hp
        have hm3 := l2.hm
        by_cases cp : pos3 = m
        · have ep : u3.2.2.2.2.2.2.2.2.2.2.2.2.1 0 = u3.2.2.2.1 1 := by rw [l2.pu, l2.um, cp]
          have ex : x3.2.1 32 = x3.2.1 15 := by rw [l2.px, l2.xm, cp]
          exact rd_accept T (fun y o z => by rw [kr2, kY, k_37Y rv l2.wr ep]) fu3 (fun y o z => by rw [ra2, rY, rE, r_145Y l2.gg ex]) l2 fx3 l6 l7
        · have ep : ¬ u3.2.2.2.2.2.2.2.2.2.2.2.2.1 0 = u3.2.2.2.1 1 := by
            rw [l2.pu, l2.um]
            exact fun h => cp ((n_eq (by omega) (by omega)).mp h)
          have ex : ¬ x3.2.1 32 = x3.2.1 15 := by
            rw [l2.px, l2.xm]
            exact fun h => cp ((n_eq (by omega) (by omega)).mp h)
          have d1 : gXd n x3 ((x3.1, gup x3.2.1 31 0, x3.2.2.1, x3.2.2.2.1, x3.2.2.2.2.1, x3.2.2.2.2.2.1, x3.2.2.2.2.2.2.1, x3.2.2.2.2.2.2.2.1, x3.2.2.2.2.2.2.2.2.1, x3.2.2.2.2.2.2.2.2.2.1, x3.2.2.2.2.2.2.2.2.2.2.1, x3.2.2.2.2.2.2.2.2.2.2.2.1, x3.2.2.2.2.2.2.2.2.2.2.2.2.1, x3.2.2.2.2.2.2.2.2.2.2.2.2.2.1, x3.2.2.2.2.2.2.2.2.2.2.2.2.2.2.1, x3.2.2.2.2.2.2.2.2.2.2.2.2.2.2.2) : gX) := gXd_31
          exact rd_refuse (u' := ((u3.1, u3.2.1, gup u3.2.2.1 1 (Int32.ofNat n), u3.2.2.2.1, u3.2.2.2.2.1, u3.2.2.2.2.2.1, u3.2.2.2.2.2.2.1, u3.2.2.2.2.2.2.2.1, u3.2.2.2.2.2.2.2.2.1, u3.2.2.2.2.2.2.2.2.2.1, u3.2.2.2.2.2.2.2.2.2.2.1, u3.2.2.2.2.2.2.2.2.2.2.2.1, gup u3.2.2.2.2.2.2.2.2.2.2.2.2.1 1 1, u3.2.2.2.2.2.2.2.2.2.2.2.2.2.1, u3.2.2.2.2.2.2.2.2.2.2.2.2.2.2) : gU)) (x' := ((x3.1, gup x3.2.1 31 0, x3.2.2.1, x3.2.2.2.1, x3.2.2.2.2.1, x3.2.2.2.2.2.1, x3.2.2.2.2.2.2.1, x3.2.2.2.2.2.2.2.1, x3.2.2.2.2.2.2.2.2.1, x3.2.2.2.2.2.2.2.2.2.1, x3.2.2.2.2.2.2.2.2.2.2.1, x3.2.2.2.2.2.2.2.2.2.2.2.1, x3.2.2.2.2.2.2.2.2.2.2.2.2.1, x3.2.2.2.2.2.2.2.2.2.2.2.2.2.1, x3.2.2.2.2.2.2.2.2.2.2.2.2.2.2.1, x3.2.2.2.2.2.2.2.2.2.2.2.2.2.2.2) : gX)) T (fun y o z => by rw [kr2, kY, k_37N rv ep]) (gUf_trans fu3 (N2 := n) ⟨fun _ _ => rfl, rfl, rfl, rfl, rfl, rfl, rfl, rfl⟩ (Nat.le_refl _)) rfl (fun y o z => by rw [ra2, rY, rE, r_145N l2.gg ex]) rfl (gXd_trans fx3 d1 (Nat.le_refl _))
      · have rE := r_endF gBr12 l1
        have fx3 : gXd n x x3 := gXd_trans fx1 l2 nq
        exact rd_refuse (u' := ((u3.1, u3.2.1, gup u3.2.2.1 1 (Int32.ofNat n), u3.2.2.2.1, u3.2.2.2.2.1, u3.2.2.2.2.2.1, u3.2.2.2.2.2.2.1, u3.2.2.2.2.2.2.2.1, u3.2.2.2.2.2.2.2.2.1, u3.2.2.2.2.2.2.2.2.2.1, u3.2.2.2.2.2.2.2.2.2.2.1, u3.2.2.2.2.2.2.2.2.2.2.2.1, u3.2.2.2.2.2.2.2.2.2.2.2.2.1, u3.2.2.2.2.2.2.2.2.2.2.2.2.2.1, u3.2.2.2.2.2.2.2.2.2.2.2.2.2.2) : gU)) (x' := x3) T (fun y o z => by rw [kr2, kY, k_37W rv l0]) (gUf_trans fu3 (N2 := n) ⟨fun _ _ => rfl, rfl, rfl, rfl, rfl, rfl, rfl, rfl⟩ (Nat.le_refl _)) rfl (fun y o z => by rw [ra2, rY, rE]) l1.1 fx3
    · obtain ⟨u3, b1, b2, b3⟩ := k_crtN (l := Int32.ofNat n) G c1
      obtain ⟨x3, d1, d2, d3⟩ := r_mrtN g31 G c1
      exact rd_refuse (u' := u3) (x' := x3) T (fun y o z => by rw [kr2, b3]) (gUf_trans fu b1 nq) (by rw [b2]; exact gup_eq) (fun y o z => by rw [ra2, d3]) d1 (gXd_trans fx d2 nq)
end H
