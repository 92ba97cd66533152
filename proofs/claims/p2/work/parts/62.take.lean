section H
variable {u : gU} {x : gX} {o : Nat → Int64} {z : gx_H}
theorem gV_m1 {n s : Nat} {v : Int32} (h : gV n s (-1) v) : v = 0 := by
  rcases h with h | h | ⟨j, h1, h2, _⟩
  · exact h.2.2
  · exact absurd h.1 (by decide)
  · exact absurd h2.symm (n_ne1 (by omega))
theorem t_take {b key : Int32} (h : gTT u x) : gAnsT u x o z (lw_take (some 0) b key (some 211)) (mM_take (some 188) b key) := by
  obtain ⟨n, m, p, q, T⟩ := h
  have hn := T.hn
  have d10 : ¬ (1 : Int32) = 0 := by decide
  have no : (∀ h : gx_H, h = gH u x o z → cG_take (some 0) b key h = cG_take_28 h) → (∀ z, mM_take (some 188) b key (gH u x o z) = some (0, gH u ((x.1, gup x.2.1 0 1, x.2.2.1, x.2.2.2.1, x.2.2.2.2.1, x.2.2.2.2.2.1, x.2.2.2.2.2.2.1, x.2.2.2.2.2.2.2.1, x.2.2.2.2.2.2.2.2.1, x.2.2.2.2.2.2.2.2.2.1, x.2.2.2.2.2.2.2.2.2.2.1, x.2.2.2.2.2.2.2.2.2.2.2.1, x.2.2.2.2.2.2.2.2.2.2.2.2.1, x.2.2.2.2.2.2.2.2.2.2.2.2.2.1, x.2.2.2.2.2.2.2.2.2.2.2.2.2.2.1, x.2.2.2.2.2.2.2.2.2.2.2.2.2.2.2) : gX) o z)) → gAnsT u x o z (lw_take (some 0) b key (some 211)) (mM_take (some 188) b key) := by
    intro h1 h2
    refine ⟨1, u, o, z ++ [(8, [])], 0, ((x.1, gup x.2.1 0 1, x.2.2.1, x.2.2.2.1, x.2.2.2.2.1, x.2.2.2.2.2.1, x.2.2.2.2.2.2.1, x.2.2.2.2.2.2.2.1, x.2.2.2.2.2.2.2.2.1, x.2.2.2.2.2.2.2.2.2.1, x.2.2.2.2.2.2.2.2.2.2.1, x.2.2.2.2.2.2.2.2.2.2.2.1, x.2.2.2.2.2.2.2.2.2.2.2.2.1, x.2.2.2.2.2.2.2.2.2.2.2.2.2.1, x.2.2.2.2.2.2.2.2.2.2.2.2.2.2.1, x.2.2.2.2.2.2.2.2.2.2.2.2.2.2.2) : gX), ?_, h2 _, rfl, gTT_0 ⟨n, m, p, q, T⟩, by simp⟩
    simp only [lw_take, ho_0, Option.bind_some, h1 _ rfl, cG_take_28, hl, hthr, hexc] <;> rfl
  have both : ∀ z, mM_is (some 188) b 0 (gH u x o z) = some 0 → mM_is (some 188) b 1 (gH u x o z) = some 0 → mM_take (some 188) b key (gH u x o z) = some (0, gH u ((x.1, gup x.2.1 0 1, x.2.2.1, x.2.2.2.1, x.2.2.2.2.1, x.2.2.2.2.2.1, x.2.2.2.2.2.2.1, x.2.2.2.2.2.2.2.1, x.2.2.2.2.2.2.2.2.1, x.2.2.2.2.2.2.2.2.2.1, x.2.2.2.2.2.2.2.2.2.2.1, x.2.2.2.2.2.2.2.2.2.2.2.1, x.2.2.2.2.2.2.2.2.2.2.2.2.1, x.2.2.2.2.2.2.2.2.2.2.2.2.2.1, x.2.2.2.2.2.2.2.2.2.2.2.2.2.2.1, x.2.2.2.2.2.2.2.2.2.2.2.2.2.2.2) : gX) o z) := by
    intro z h1 h2
    simp only [mM_take, ho_188, Option.bind_some, h1, h2, if_true, mM_take_26, r_ref] <;> rfl
  have law : ∀ (r : Int32) (u' : gU), (r = 0 ∨ r = 1) → cG_take (some 0) b key (gH u x o z) = some (.returned (some (.int r)), gH u' x o z) → ∃ o', lw_take (some 0) b key (some 211) (gH u x o z) = some (0, gH u' x o' z) := by
    intro r u' hr h
    rcases hr with rfl | rfl
    · refine ⟨gup o 0 0, ?_⟩
      simp only [lw_take, ho_0, Option.bind_some, h, if_true, hb0]
    · refine ⟨gup o 0 1, ?_⟩
      simp only [lw_take, ho_0, Option.bind_some, h, if_neg d10, hb0]
  rcases g_ob b n (by omega) with c | ⟨k, hk, rfl⟩
  · refine no (fun h e => ?_) (fun z => both z (r_isout T.xn c) (r_isout T.xn c))
    subst e
    simp only [cG_take, hr_0_0, Option.bind_some, ho_1, k_tout T.un c, if_true]
  · obtain ⟨s, c, O⟩ := T.ob k hk
    have hk2 : k < 32 := by omega
    obtain ⟨_, _, _, e0, e1, _⟩ := n_s6 s O.s8
    by_cases s0 : s = 0
    · subst s0
      have i0 : ∀ y o z, mM_is (some 188) (Int32.ofNat k) 0 (gH y x o z) = some 1 := fun y o z => by rw [r_isin T.xn hn hk, O.et]; rfl
      obtain ⟨r, q', p', c', a1, a2, a3, a4⟩ := dp_tie (a := key) hk2 O
      obtain ⟨o', ho'⟩ := law r ((gup u.1 k q', u.2.1, u.2.2.1, u.2.2.2.1, u.2.2.2.2.1, u.2.2.2.2.2.1, u.2.2.2.2.2.2.1, u.2.2.2.2.2.2.2.1, u.2.2.2.2.2.2.2.2.1, u.2.2.2.2.2.2.2.2.2.1, u.2.2.2.2.2.2.2.2.2.2.1, u.2.2.2.2.2.2.2.2.2.2.2.1, u.2.2.2.2.2.2.2.2.2.2.2.2.1, u.2.2.2.2.2.2.2.2.2.2.2.2.2.1, u.2.2.2.2.2.2.2.2.2.2.2.2.2.2) : gU) a1 (by
        simp only [cG_take, hr_0_0, Option.bind_some, ho_1, k_tin T.un hn hk, reduceCtorEq, if_false, hiT_4 hk2, O.es, show Int32.ofNat 0 = (0 : Int32) from rfl, if_true, cG_take_38, ho_T hk2, a2, a1, not_true, if_false])
      refine ⟨0, ((gup u.1 k q', u.2.1, u.2.2.1, u.2.2.2.1, u.2.2.2.2.1, u.2.2.2.2.2.1, u.2.2.2.2.2.2.1, u.2.2.2.2.2.2.2.1, u.2.2.2.2.2.2.2.2.1, u.2.2.2.2.2.2.2.2.2.1, u.2.2.2.2.2.2.2.2.2.2.1, u.2.2.2.2.2.2.2.2.2.2.2.1, u.2.2.2.2.2.2.2.2.2.2.2.2.1, u.2.2.2.2.2.2.2.2.2.2.2.2.2.1, u.2.2.2.2.2.2.2.2.2.2.2.2.2.2) : gU), o', z, r, ((gup x.1 k p', gup x.2.1 0 0, x.2.2.1, x.2.2.2.1, x.2.2.2.2.1, x.2.2.2.2.2.1, x.2.2.2.2.2.2.1, x.2.2.2.2.2.2.2.1, x.2.2.2.2.2.2.2.2.1, x.2.2.2.2.2.2.2.2.2.1, x.2.2.2.2.2.2.2.2.2.2.1, x.2.2.2.2.2.2.2.2.2.2.2.1, x.2.2.2.2.2.2.2.2.2.2.2.2.1, x.2.2.2.2.2.2.2.2.2.2.2.2.2.1, x.2.2.2.2.2.2.2.2.2.2.2.2.2.2.1, x.2.2.2.2.2.2.2.2.2.2.2.2.2.2.2) : gX), ho', ?_, rfl, ⟨n, m, p, q, gT_0 (x := ((gup x.1 k p', x.2.1, x.2.2.1, x.2.2.2.1, x.2.2.2.2.1, x.2.2.2.2.2.1, x.2.2.2.2.2.2.1, x.2.2.2.2.2.2.2.1, x.2.2.2.2.2.2.2.2.1, x.2.2.2.2.2.2.2.2.2.1, x.2.2.2.2.2.2.2.2.2.2.1, x.2.2.2.2.2.2.2.2.2.2.2.1, x.2.2.2.2.2.2.2.2.2.2.2.2.1, x.2.2.2.2.2.2.2.2.2.2.2.2.2.1, x.2.2.2.2.2.2.2.2.2.2.2.2.2.2.1, x.2.2.2.2.2.2.2.2.2.2.2.2.2.2.2) : gX)) (gT_ob T ⟨0, c', a4⟩)⟩, by omega⟩
      simp only [mM_take, ho_188, Option.bind_some, i0, if_neg d10, mM_take_25, mM_take_26, r_ref, and_self, if_true, a3 ((x.1, gup x.2.1 0 0, x.2.2.1, x.2.2.2.1, x.2.2.2.2.1, x.2.2.2.2.2.1, x.2.2.2.2.2.2.1, x.2.2.2.2.2.2.2.1, x.2.2.2.2.2.2.2.2.1, x.2.2.2.2.2.2.2.2.2.1, x.2.2.2.2.2.2.2.2.2.2.1, x.2.2.2.2.2.2.2.2.2.2.2.1, x.2.2.2.2.2.2.2.2.2.2.2.2.1, x.2.2.2.2.2.2.2.2.2.2.2.2.2.1, x.2.2.2.2.2.2.2.2.2.2.2.2.2.2.1, x.2.2.2.2.2.2.2.2.2.2.2.2.2.2.2) : gX) rfl, a1, not_true, if_false]
    · by_cases s1 : s = 1
      · subst s1
        have c8 : c ≤ 8 := O.c8
        have f6 : (u.1 k).2.2.2.2.1 6 = 0 := by rcases O.d4 with h | h; exact h; omega
        have h5 := O.ep f6
        have i0 : ∀ y o z, mM_is (some 188) (Int32.ofNat k) 0 (gH y x o z) = some 0 := fun y o z => by rw [r_isin T.xn hn hk, O.et]; rfl
        have i1 : ∀ y o z, mM_is (some 188) (Int32.ofNat k) 1 (gH y x o z) = some 1 := fun y o z => by rw [r_isin T.xn hn hk, O.et]; rfl
        by_cases g : ¬ key < 0 ∧ key < Int32.ofNat c
        · obtain ⟨k0, kc⟩ := g
          obtain ⟨t, ht, rfl⟩ := n_of (m := c) k0 kc (by omega)
          have t8 : t < 8 := by omega
          obtain ⟨o', ho'⟩ := law 1 ((gup u.1 k (((u.1 k).1, (u.1 k).2.1, gup (u.1 k).2.2.1 t (-1), gup (u.1 k).2.2.2.1 t 0, (u.1 k).2.2.2.2.1, (u.1 k).2.2.2.2.2) : gQ), u.2.1, u.2.2.1, u.2.2.2.1, u.2.2.2.2.1, u.2.2.2.2.2.1, u.2.2.2.2.2.2.1, u.2.2.2.2.2.2.2.1, u.2.2.2.2.2.2.2.2.1, u.2.2.2.2.2.2.2.2.2.1, u.2.2.2.2.2.2.2.2.2.2.1, u.2.2.2.2.2.2.2.2.2.2.2.1, u.2.2.2.2.2.2.2.2.2.2.2.2.1, u.2.2.2.2.2.2.2.2.2.2.2.2.2.1, u.2.2.2.2.2.2.2.2.2.2.2.2.2.2) : gU) (Or.inr rfl) (by
            simp only [cG_take, hr_0_0, Option.bind_some, ho_1, k_tin T.un hn hk, reduceCtorEq, if_false, hiT_4 hk2, O.es, show ¬ Int32.ofNat 1 = (0 : Int32) by decide, show Int32.ofNat 1 = (1 : Int32) from rfl, if_true, if_false, cG_take_38, if_neg d10, ho_T hk2, cT_makeHole, if_neg k0, hiT_5 hk2, O.ec, if_pos kc, k_setValue hk2 t8, or_true, not_true])
          obtain ⟨v1, v2⟩ := O.vs (by omega) t ht
          by_cases hole : (u.1 k).2.2.1 t = -1
          · have nz : (u.1 k).2.2.2.1 t = 0 := gV_m1 (by have := O.vv (by omega) t ht; rw [hole] at this; exact this)
            have eu : (((gup u.1 k (((u.1 k).1, (u.1 k).2.1, gup (u.1 k).2.2.1 t (-1), gup (u.1 k).2.2.2.1 t 0, (u.1 k).2.2.2.2.1, (u.1 k).2.2.2.2.2) : gQ), u.2.1, u.2.2.1, u.2.2.2.1, u.2.2.2.2.1, u.2.2.2.2.2.1, u.2.2.2.2.2.2.1, u.2.2.2.2.2.2.2.1, u.2.2.2.2.2.2.2.2.1, u.2.2.2.2.2.2.2.2.2.1, u.2.2.2.2.2.2.2.2.2.2.1, u.2.2.2.2.2.2.2.2.2.2.2.1, u.2.2.2.2.2.2.2.2.2.2.2.2.1, u.2.2.2.2.2.2.2.2.2.2.2.2.2.1, u.2.2.2.2.2.2.2.2.2.2.2.2.2.2) : gU) : gU) = u := by
              rw [gup_same hole, gup_same nz, show ((((u.1 k).1, (u.1 k).2.1, (u.1 k).2.2.1, (u.1 k).2.2.2.1, (u.1 k).2.2.2.2.1, (u.1 k).2.2.2.2.2) : gQ) : gQ) = u.1 k from rfl, gup_self]
            rw [eu] at ho'
            refine ⟨0, u, o', z, 0, ((x.1, gup x.2.1 0 0, x.2.2.1, x.2.2.2.1, x.2.2.2.2.1, x.2.2.2.2.2.1, x.2.2.2.2.2.2.1, x.2.2.2.2.2.2.2.1, x.2.2.2.2.2.2.2.2.1, x.2.2.2.2.2.2.2.2.2.1, x.2.2.2.2.2.2.2.2.2.2.1, x.2.2.2.2.2.2.2.2.2.2.2.1, x.2.2.2.2.2.2.2.2.2.2.2.2.1, x.2.2.2.2.2.2.2.2.2.2.2.2.2.1, x.2.2.2.2.2.2.2.2.2.2.2.2.2.2.1, x.2.2.2.2.2.2.2.2.2.2.2.2.2.2.2) : gX), ho', ?_, rfl, gTT_0 ⟨n, m, p, q, T⟩, by omega⟩
            simp only [mM_take, ho_188, Option.bind_some, i0, i1, if_true, if_neg d10, mM_take_25, mM_take_26, r_ref, and_self, if_neg k0, hr_188_3, ha_190 hk2, h5, if_pos kc, hr_188_8, n_8, ha_195 hk2 t8, v1, hole, mM_take_79, mM_take_80, true_or, not_true, if_false]
          · refine ⟨0, _, o', z, 1, ((gup x.1 k (((x.1 k).1, (x.1 k).2.1, gup (x.1 k).2.2.1 t (-1), gup (x.1 k).2.2.2.1 t 0, (x.1 k).2.2.2.2.1, (x.1 k).2.2.2.2.2.1, (x.1 k).2.2.2.2.2.2.1, (x.1 k).2.2.2.2.2.2.2) : gP), gup x.2.1 0 0, x.2.2.1, x.2.2.2.1, x.2.2.2.2.1, x.2.2.2.2.2.1, x.2.2.2.2.2.2.1, x.2.2.2.2.2.2.2.1, x.2.2.2.2.2.2.2.2.1, x.2.2.2.2.2.2.2.2.2.1, x.2.2.2.2.2.2.2.2.2.2.1, x.2.2.2.2.2.2.2.2.2.2.2.1, x.2.2.2.2.2.2.2.2.2.2.2.2.1, x.2.2.2.2.2.2.2.2.2.2.2.2.2.1, x.2.2.2.2.2.2.2.2.2.2.2.2.2.2.1, x.2.2.2.2.2.2.2.2.2.2.2.2.2.2.2) : gX), ho', ?_, rfl, ⟨n, m, p, q, gT_0 (x := ((gup x.1 k _, x.2.1, x.2.2.1, x.2.2.2.1, x.2.2.2.2.1, x.2.2.2.2.2.1, x.2.2.2.2.2.2.1, x.2.2.2.2.2.2.2.1, x.2.2.2.2.2.2.2.2.1, x.2.2.2.2.2.2.2.2.2.1, x.2.2.2.2.2.2.2.2.2.2.1, x.2.2.2.2.2.2.2.2.2.2.2.1, x.2.2.2.2.2.2.2.2.2.2.2.2.1, x.2.2.2.2.2.2.2.2.2.2.2.2.2.1, x.2.2.2.2.2.2.2.2.2.2.2.2.2.2.1, x.2.2.2.2.2.2.2.2.2.2.2.2.2.2.2) : gX)) (gT_ob T ⟨1, c, gO_set O (by omega) (Or.inl ⟨rfl, rfl, rfl⟩)⟩)⟩, by omega⟩
            have hole' : ¬ (x.1 k).2.2.1 t = -1 := by rw [v1]; exact hole
            simp only [mM_take, ho_188, Option.bind_some, i0, i1, if_true, if_neg d10, mM_take_25, mM_take_26, r_ref, and_self, if_neg k0, hr_188_3, ha_190 hk2, h5, if_pos kc, hr_188_8, n_8, ha_195 hk2 t8, if_neg hole', mM_take_80, r_setSlot hk2 t8, gcn_m1, or_true, not_true, if_false]
        · obtain ⟨o', ho'⟩ := law 0 u (Or.inl rfl) (by
            simp only [cG_take, hr_0_0, Option.bind_some, ho_1, k_tin T.un hn hk, reduceCtorEq, if_false, hiT_4 hk2, O.es, show ¬ Int32.ofNat 1 = (0 : Int32) by decide, show Int32.ofNat 1 = (1 : Int32) from rfl, if_true, if_false, cG_take_38, if_neg d10, ho_T hk2, cT_makeHole, hiT_5 hk2, O.ec]
            by_cases k0 : key < 0
            · simp [k0]
            · have kc : ¬ key < Int32.ofNat c := fun q => g ⟨k0, q⟩
              simp [k0, kc])
          refine ⟨0, u, o', z, 0, ((x.1, gup x.2.1 0 0, x.2.2.1, x.2.2.2.1, x.2.2.2.2.1, x.2.2.2.2.2.1, x.2.2.2.2.2.2.1, x.2.2.2.2.2.2.2.1, x.2.2.2.2.2.2.2.2.1, x.2.2.2.2.2.2.2.2.2.1, x.2.2.2.2.2.2.2.2.2.2.1, x.2.2.2.2.2.2.2.2.2.2.2.1, x.2.2.2.2.2.2.2.2.2.2.2.2.1, x.2.2.2.2.2.2.2.2.2.2.2.2.2.1, x.2.2.2.2.2.2.2.2.2.2.2.2.2.2.1, x.2.2.2.2.2.2.2.2.2.2.2.2.2.2.2) : gX), ho', ?_, rfl, gTT_0 ⟨n, m, p, q, T⟩, by omega⟩
          simp only [mM_take, ho_188, Option.bind_some, i0, i1, if_true, if_neg d10, mM_take_25, mM_take_26, r_ref, and_self, hr_188_3, ha_190 hk2, h5, mM_take_79, mM_take_80, true_or, not_true, if_false]
          by_cases k0 : key < 0
          · rw [if_pos k0]
          · rw [if_neg k0, if_neg (fun q => g ⟨k0, q⟩)]
      · refine no (fun h e => ?_) (fun z => both z ?_ ?_)
        · subst e
          simp only [cG_take, hr_0_0, Option.bind_some, ho_1, k_tin T.un hn hk, reduceCtorEq, if_false, hiT_4 hk2, O.es, e0, e1, if_neg s0, if_neg s1] <;> rfl
        · rw [r_isin T.xn hn hk, O.et, if_neg (fun q => s0 (e0.mp q))]
        · rw [r_isin T.xn hn hk, O.et, if_neg (fun q => s1 (e1.mp q))]
/-- a value that may stand in a map or a set -/
theorem v_gV {n s : Nat} {k v : Int32} (h : ∃ j, j < 8 ∧ k = Int32.ofNat j ∧ (j = 6 → ∃ b, b < n ∧ v = Int32.ofNat b)) : gV n s k (gcn k v) := by
  obtain ⟨j, j1, j2, j3⟩ := h
  refine Or.inr (Or.inr ⟨j, j1, j2, fun e => ?_⟩)
  obtain ⟨b, b1, b2⟩ := j3 e
  refine ⟨b, b1, ?_⟩
  subst e
  rw [j2]
  exact b2
/-- an entry's key that is new -/
def gq_ent (q : gQ) (c : Nat) (a b kd nm : Int32) : gQ := ((gup q.1 c a, gup q.2.1 c b, gup q.2.2.1 c kd, gup q.2.2.2.1 c nm, gup q.2.2.2.2.1 5 (Int32.ofNat (c + 1)), q.2.2.2.2.2) : gQ)
def gp_ent (p : gP) (c : Nat) (a b kd nm : Int32) : gP := ((gup p.1 c a, gup p.2.1 c b, gup p.2.2.1 c kd, gup p.2.2.2.1 c nm, p.2.2.2.2.1, Int32.ofNat (c + 1), p.2.2.2.2.2.2.1, p.2.2.2.2.2.2.2) : gP)
theorem gup_c {α : Type} {f g : Nat → α} {c i : Nat} {v : α} (hi : i < c + 1) (h : i < c → f i = g i) : gup f c v i = gup g c v i := by
  by_cases e : i = c
  · subst e; rw [gup_eq, gup_eq]
  · rw [gup_ne e, gup_ne e]; exact h (by omega)
theorem gO_ent {n c : Nat} {q : gQ} {p : gP} {a b kd nm : Int32} (O : gO n 2 c q p) (c4 : c < 4) (hk : gV n 2 a b) (hv : gV n 2 kd nm) : gO n 2 (c + 1) (gq_ent q c a b kd nm) (gp_ent p c a b kd nm) := by
  have f6 : q.2.2.2.2.1 6 = 0 := by rcases O.d4 with h | h; exact h; omega
  refine ⟨by omega, O.es, O.et, rfl, by show c + 1 ≤ 4; omega, O.ed, Or.inl f6, fun _ => rfl, fun h => absurd f6 h, ?_, ?_, fun h => by omega, ?_, ?_, ?_, fun h => by omega, fun h => by omega, fun h => by omega, fun h => by omega⟩
  · intro h i hi
    exact gup_c hi (O.kE h i)
  · intro h i hi
    exact gup_c hi (O.kK h i)
  · intro h i hi
    exact ⟨gup_c hi (fun q => (O.vs h i q).1), gup_c hi (fun q => (O.vs h i q).2)⟩
  · intro h i hi
    show gV n 2 (gup q.2.2.1 c kd i) (gup q.2.2.2.1 c nm i)
    by_cases e : i = c
    · subst e; rw [gup_eq, gup_eq]; exact hv
    · rw [gup_ne e, gup_ne e]; exact O.vv h i (by omega)
  · intro h i hi
    show gV n 2 (gup q.1 c a i) (gup q.2.1 c b i)
    by_cases e : i = c
    · subst e; rw [gup_eq, gup_eq]; exact hk
    · rw [gup_ne e, gup_ne e]; exact O.kv h i (by omega)
theorem map_find {n c : Nat} {q : gQ} {p : gP} {a b : Int32} (O : gO n 2 c q p) : gfi (fun i => decide (q.1 i = a ∧ q.2.1 i = b)) c 0 = gfi (fun i => decide (p.1 i = a ∧ p.2.1 i = b)) c 0 := by
  refine gfi_congr _ _ fun t _ ht => ?_
  rw [O.kE (Or.inr rfl) t (by omega), O.kK rfl t (by omega)]
theorem k_setEntry {k c : Nat} {a b kd nm : Int32} (hk : k < 32) (h5 : (u.1 k).2.2.2.2.1 5 = Int32.ofNat c) (h8 : c ≤ 4) : cT_setEntry (some (3 + 5 * k)) a b kd nm (gH u x o z) = match gfi (fun i => decide ((u.1 k).1 i = a ∧ (u.1 k).2.1 i = b)) c 0 with
    | some j => some (1, gH ((gup u.1 k (((u.1 k).1, (u.1 k).2.1, gup (u.1 k).2.2.1 j kd, gup (u.1 k).2.2.2.1 j nm, (u.1 k).2.2.2.2.1, (u.1 k).2.2.2.2.2) : gQ), u.2.1, u.2.2.1, u.2.2.2.1, u.2.2.2.2.1, u.2.2.2.2.2.1, u.2.2.2.2.2.2.1, u.2.2.2.2.2.2.2.1, u.2.2.2.2.2.2.2.2.1, u.2.2.2.2.2.2.2.2.2.1, u.2.2.2.2.2.2.2.2.2.2.1, u.2.2.2.2.2.2.2.2.2.2.2.1, u.2.2.2.2.2.2.2.2.2.2.2.2.1, u.2.2.2.2.2.2.2.2.2.2.2.2.2.1, u.2.2.2.2.2.2.2.2.2.2.2.2.2.2) : gU) x o z)
    | none => if c < 4 then some (1, gH ((gup u.1 k (gq_ent (u.1 k) c a b kd nm), u.2.1, u.2.2.1, u.2.2.2.1, u.2.2.2.2.1, u.2.2.2.2.2.1, u.2.2.2.2.2.2.1, u.2.2.2.2.2.2.2.1, u.2.2.2.2.2.2.2.2.1, u.2.2.2.2.2.2.2.2.2.1, u.2.2.2.2.2.2.2.2.2.2.1, u.2.2.2.2.2.2.2.2.2.2.2.1, u.2.2.2.2.2.2.2.2.2.2.2.2.1, u.2.2.2.2.2.2.2.2.2.2.2.2.2.1, u.2.2.2.2.2.2.2.2.2.2.2.2.2.2) : gU) x o z) else some (0, gH u x o z) := by
  unfold cT_setEntry
  simp only [ho_T hk, Option.bind_some, k_index hk h5 (show c ≤ 8 by omega)]
  cases h : gfi (fun i => decide ((u.1 k).1 i = a ∧ (u.1 k).2.1 i = b)) c 0 with
  | some j =>
    have hj := (gfi_some _ _ _ h).2.1
    have j8 : j < 8 := by omega
    simp only [gio, if_neg (n_ne1 (n := j) (by omega)), cT_setEntry_56, ho_T hk, Option.bind_some, k_setValue hk j8]
  | none =>
    by_cases c4 : c < 4
    · have c8 : c < 8 := by omega
      simp only [gio, if_true, hiT_5 hk, Option.bind_some, h5, if_pos (show Int32.ofNat c < 4 from n_ltl (m := 4) (by omega) (by omega) c4), hrT_0 hk, hrT_1 hk, hbT_1 hk c8, hbT_2 hk c8, gup_eq, gup_gup, n_succ, hpT_5 hk, cT_setEntry_56, ho_T hk, k_setValue hk c8, if_pos c4] <;> rfl
    · simp only [gio, if_true, hiT_5 hk, Option.bind_some, h5, if_neg (show ¬ Int32.ofNat c < 4 from n_nltl (m := 4) (by omega) (by omega) (by omega)), if_neg c4]
theorem t_entry {b a v kd nm : Int32} (h : gTT u x) : gAnsV u x o z (lw_entry (some 0) b a v kd nm) (mM_entry (some 188) b a v kd nm) := by
  obtain ⟨n, m, p, q, T⟩ := h
  have hn := T.hn
  have d10 : ¬ (1 : Int32) = 0 := by decide
  obtain ⟨r, r1, r2, r3, r4⟩ := v_eq (k := a) (v := v) T.un T.xn hn
  obtain ⟨s', s1, s2, s3, s4⟩ := v_eq (k := kd) (v := nm) T.un T.xn hn
  have no : (∀ h : gx_H, h = gH u x o z → cG_entry (some 0) b a v kd nm h = cG_entry_50 h) → (∀ z, mM_entry (some 188) b a v kd nm (gH u x o z) = mM_entry_33 (some 188) b a v kd nm (gH u x o z)) → gAnsV u x o z (lw_entry (some 0) b a v kd nm) (mM_entry (some 188) b a v kd nm) := by
    intro h1 h2
    refine ⟨1, u, z ++ [(8, [])], ((x.1, gup x.2.1 0 1, x.2.2.1, x.2.2.2.1, x.2.2.2.2.1, x.2.2.2.2.2.1, x.2.2.2.2.2.2.1, x.2.2.2.2.2.2.2.1, x.2.2.2.2.2.2.2.2.1, x.2.2.2.2.2.2.2.2.2.1, x.2.2.2.2.2.2.2.2.2.2.1, x.2.2.2.2.2.2.2.2.2.2.2.1, x.2.2.2.2.2.2.2.2.2.2.2.2.1, x.2.2.2.2.2.2.2.2.2.2.2.2.2.1, x.2.2.2.2.2.2.2.2.2.2.2.2.2.2.1, x.2.2.2.2.2.2.2.2.2.2.2.2.2.2.2) : gX), ?_, (h2 _).trans ?_, rfl, gTT_0 ⟨n, m, p, q, T⟩, by simp⟩
    · simp only [lw_entry, ho_0, Option.bind_some, h1 _ rfl, cG_entry_50, hl, hthr, hexc] <;> rfl
    · simp only [mM_entry_33, mM_entry_34, if_true, mM_entry_52, mM_entry_65, mM_entry_89, mM_entry_90, ho_188, Option.bind_some, r_ref] <;> rfl
  rcases g_ob b n (by omega) with c | ⟨k, hk, rfl⟩
  · refine no (fun h e => ?_) (fun z => ?_)
    · subst e
      simp only [cG_entry, hr_0_0, Option.bind_some, ho_1, k_tout T.un c, if_true]
    · simp only [mM_entry, ho_188, Option.bind_some, r_isout T.xn c, if_true]
  · obtain ⟨s, c, O⟩ := T.ob k hk
    have hk2 : k < 32 := by omega
    obtain ⟨_, _, _, _, _, e2, _⟩ := n_s6 s O.s8
    by_cases sm : s = 2
    · subst sm
      have c4 : c ≤ 4 := O.c8
      have f6 : (u.1 k).2.2.2.2.1 6 = 0 := by rcases O.d4 with h | h; exact h; omega
      have h5 := O.ep f6
      have i2 : ∀ y o z, mM_is (some 188) (Int32.ofNat k) 2 (gH y x o z) = some 1 := fun y o z => by rw [r_isin T.xn hn hk, O.et]; rfl
      by_cases g : r = 1 ∧ s' = 1
      · obtain ⟨rfl, rfl⟩ := g
        have hkv := v_gV (s := 2) (r4 rfl)
        have hvv := v_gV (s := 2) (s4 rfl)
        have cl : ∀ h : gx_H, h = gH u x o z → cG_entry (some 0) (Int32.ofNat k) a v kd nm h = (cT_setEntry (some (3 + 5 * k)) a (gcn a v) kd (gcn kd nm) h).bind fun r20 => if r20.1 = 0 then some (.threw r20.2.length, r20.2 ++ [(9, [])]) else some (.returned none, r20.2) := by
          intro h e
          subst e
          simp only [cG_entry, hr_0_0, Option.bind_some, ho_1, k_tin T.un hn hk, reduceCtorEq, if_false, hiT_4 hk2, O.es, show Int32.ofNat 2 = (2 : Int32) from rfl, if_true, r2, s2, if_neg d10, k_cn, ho_T hk2] <;> rfl
        have ent := fun y o z => r_ent (u := y) (o := o) (z := z) (a := a) (b := v) hk2 h5 (show c ≤ 8 by omega)
        simp only [← map_find O] at ent
        have ref : ∀ y z, mM_entry (some 188) (Int32.ofNat k) a v kd nm (gH y x o z) = mM_entry_65 (some 188) (Int32.ofNat k) a v kd nm 1 (gio (gfi (fun i => decide ((u.1 k).1 i = a ∧ (u.1 k).2.1 i = gcn a v)) c 0)) (some 188) 0 (gH y x o z) := by
          intro y z
          simp only [mM_entry, ho_188, Option.bind_some, i2, if_neg d10, r3, s3, mM_entry_34, ent, mM_entry_52]
        have e1 := fun y o z => k_setEntry (x := y) (o := o) (z := z) (a := a) (b := gcn a v) (kd := kd) (nm := gcn kd nm) hk2 O.ec c4
        cases hf : gfi (fun i => decide ((u.1 k).1 i = a ∧ (u.1 k).2.1 i = gcn a v)) c 0 with
        | some j =>
          rw [hf] at e1 ref
          have hj := (gfi_some _ _ _ hf).2.1
          have j8 : j < 8 := by omega
          refine ⟨0, _, z, _, ?_, ?_, rfl, ⟨n, m, p, q, gT_0 (x := ((gup x.1 k _, x.2.1, x.2.2.1, x.2.2.2.1, x.2.2.2.2.1, x.2.2.2.2.2.1, x.2.2.2.2.2.2.1, x.2.2.2.2.2.2.2.1, x.2.2.2.2.2.2.2.2.1, x.2.2.2.2.2.2.2.2.2.1, x.2.2.2.2.2.2.2.2.2.2.1, x.2.2.2.2.2.2.2.2.2.2.2.1, x.2.2.2.2.2.2.2.2.2.2.2.2.1, x.2.2.2.2.2.2.2.2.2.2.2.2.2.1, x.2.2.2.2.2.2.2.2.2.2.2.2.2.2.1, x.2.2.2.2.2.2.2.2.2.2.2.2.2.2.2) : gX)) (gT_ob T ⟨2, c, gO_set (j := j) O (by omega) hvv⟩)⟩, by omega⟩
          · simp only [lw_entry, ho_0, Option.bind_some, cl _ rfl, e1, if_neg d10]
          · simp only [ref, gio, mM_entry_65, if_neg d10, if_neg (n_nn (n := j) (by omega)), mM_entry_89, mM_entry_90, ho_188, Option.bind_some, r_ref, and_self, if_true, mM_entry_150, n_8, r_setSlot hk2 j8]
        | none =>
          rw [hf] at e1 ref
          by_cases c3 : c < 4
          · have c8 : c < 8 := by omega
            have ne4 : ¬ Int32.ofNat c = 4 := fun q => by have := (n_eq (m := 4) (by omega) (by omega)).mp q; omega
            refine ⟨0, _, z, _, ?_, ?_, rfl, ⟨n, m, p, q, gT_0 (x := ((gup x.1 k _, x.2.1, x.2.2.1, x.2.2.2.1, x.2.2.2.2.1, x.2.2.2.2.2.1, x.2.2.2.2.2.2.1, x.2.2.2.2.2.2.2.1, x.2.2.2.2.2.2.2.2.1, x.2.2.2.2.2.2.2.2.2.1, x.2.2.2.2.2.2.2.2.2.2.1, x.2.2.2.2.2.2.2.2.2.2.2.1, x.2.2.2.2.2.2.2.2.2.2.2.2.1, x.2.2.2.2.2.2.2.2.2.2.2.2.2.1, x.2.2.2.2.2.2.2.2.2.2.2.2.2.2.1, x.2.2.2.2.2.2.2.2.2.2.2.2.2.2.2) : gX)) (gT_ob T ⟨2, c + 1, gO_ent O c3 hkv hvv⟩)⟩, by omega⟩
            · simp only [lw_entry, ho_0, Option.bind_some, cl _ rfl, e1, if_pos c3, if_neg d10]
            · simp only [ref, gio, mM_entry_65, if_neg d10, if_pos (show (-1 : Int32) < 0 by decide), hr_188_3, ha_190 hk2, Option.bind_some, h5, if_neg ne4, mM_entry_89, mM_entry_90, ho_188, r_ref, and_self, if_true, n_succ, hb_190 hk2, hr_188_7, hr_188_6, n_8, hb_194 hk2 c8, hb_193 hk2 c8, r_no, gup_eq, gup_gup, mM_entry_150, r_setSlot hk2 c8] <;> rfl
          · obtain rfl : c = 4 := by omega
            refine ⟨2, u, z ++ [(9, [])], ((x.1, gup x.2.1 0 2, x.2.2.1, x.2.2.2.1, x.2.2.2.2.1, x.2.2.2.2.2.1, x.2.2.2.2.2.2.1, x.2.2.2.2.2.2.2.1, x.2.2.2.2.2.2.2.2.1, x.2.2.2.2.2.2.2.2.2.1, x.2.2.2.2.2.2.2.2.2.2.1, x.2.2.2.2.2.2.2.2.2.2.2.1, x.2.2.2.2.2.2.2.2.2.2.2.2.1, x.2.2.2.2.2.2.2.2.2.2.2.2.2.1, x.2.2.2.2.2.2.2.2.2.2.2.2.2.2.1, x.2.2.2.2.2.2.2.2.2.2.2.2.2.2.2) : gX), ?_, ?_, rfl, gTT_0 ⟨n, m, p, q, T⟩, by simp⟩
            · simp only [lw_entry, ho_0, Option.bind_some, cl _ rfl, e1, if_neg c3, if_true, hl, hthr, hexc] <;> rfl
            · simp only [ref, gio, mM_entry_65, if_neg d10, if_pos (show (-1 : Int32) < 0 by decide), hr_188_3, ha_190 hk2, Option.bind_some, h5, show Int32.ofNat 4 = (4 : Int32) from rfl, if_true, mM_entry_90, ho_188, r_ref] <;> rfl
      · refine no (fun h e => ?_) (fun z => ?_)
        · subst e
          simp only [cG_entry, hr_0_0, Option.bind_some, ho_1, k_tin T.un hn hk, reduceCtorEq, if_false, hiT_4 hk2, O.es, show Int32.ofNat 2 = (2 : Int32) from rfl, if_true, r2, s2]
          rcases r1 with rfl | rfl
          · simp only [if_true]
          · have : s' = 0 := by rcases s1 with h | h; exact h; exact absurd ⟨rfl, h⟩ g
            subst this
            simp only [if_neg d10, if_true]
        · simp only [mM_entry, ho_188, Option.bind_some, i2, if_neg d10, r3, s3]
          rcases r1 with rfl | rfl
          · simp only [if_true]
          · have : s' = 0 := by rcases s1 with h | h; exact h; exact absurd ⟨rfl, h⟩ g
            subst this
            simp only [if_neg d10, if_true]
    · refine no (fun h e => ?_) (fun z => ?_)
      · subst e
        simp only [cG_entry, hr_0_0, Option.bind_some, ho_1, k_tin T.un hn hk, reduceCtorEq, if_false, hiT_4 hk2, O.es, e2, if_neg sm] <;> rfl
      · simp only [mM_entry, ho_188, Option.bind_some, r_isin T.xn hn hk, O.et, e2, if_neg sm, if_true]
/-- a set's value that is new -/
def gq_add (q : gQ) (c : Nat) (kd nm : Int32) : gQ := ((q.1, q.2.1, gup q.2.2.1 c kd, gup q.2.2.2.1 c nm, gup q.2.2.2.2.1 5 (Int32.ofNat (c + 1)), q.2.2.2.2.2) : gQ)
def gp_add (p : gP) (c : Nat) (kd nm : Int32) : gP := ((p.1, p.2.1, gup p.2.2.1 c kd, gup p.2.2.2.1 c nm, p.2.2.2.2.1, Int32.ofNat (c + 1), p.2.2.2.2.2.2.1, p.2.2.2.2.2.2.2) : gP)
theorem gO_add {n c : Nat} {q : gQ} {p : gP} {kd nm : Int32} (O : gO n 3 c q p) (c5 : c < 5) (hv : gV n 3 kd nm) : gO n 3 (c + 1) (gq_add q c kd nm) (gp_add p c kd nm) := by
  have f6 : q.2.2.2.2.1 6 = 0 := by rcases O.d4 with h | h; exact h; omega
  refine ⟨by omega, O.es, O.et, rfl, by show c + 1 ≤ 5; omega, O.ed, Or.inl f6, fun _ => rfl, fun h => absurd f6 h, fun h => by omega, fun h => by omega, fun h => by omega, ?_, ?_, fun h => by omega, fun h => by omega, fun h => by omega, fun h => by omega, fun h => by omega⟩
  · intro h i hi
    exact ⟨gup_c hi (fun q => (O.vs h i q).1), gup_c hi (fun q => (O.vs h i q).2)⟩
  · intro h i hi
    show gV n 3 (gup q.2.2.1 c kd i) (gup q.2.2.2.1 c nm i)
    by_cases e : i = c
    · subst e; rw [gup_eq, gup_eq]; exact hv
    · rw [gup_ne e, gup_ne e]; exact O.vv h i (by omega)
theorem set_find {n c : Nat} {q : gQ} {p : gP} {a b : Int32} (O : gO n 3 c q p) : gfi (fun i => decide (q.2.2.1 i = a ∧ q.2.2.2.1 i = b)) c 0 = gfi (fun i => decide (p.2.2.1 i = a ∧ p.2.2.2.1 i = b)) c 0 := by
  refine gfi_congr _ _ fun t _ ht => ?_
  obtain ⟨v1, v2⟩ := O.vs (by omega) t (by omega)
  rw [v1, v2]
theorem k_app {k c : Nat} {kd nm : Int32} (hk : k < 32) (h5 : (u.1 k).2.2.2.2.1 5 = Int32.ofNat c) (h8 : c ≤ 5) : cT_appendMember (some (3 + 5 * k)) kd nm (gH u x o z) = if c < 5 then some (1, gH ((gup u.1 k (gq_add (u.1 k) c kd nm), u.2.1, u.2.2.1, u.2.2.2.1, u.2.2.2.2.1, u.2.2.2.2.2.1, u.2.2.2.2.2.2.1, u.2.2.2.2.2.2.2.1, u.2.2.2.2.2.2.2.2.1, u.2.2.2.2.2.2.2.2.2.1, u.2.2.2.2.2.2.2.2.2.2.1, u.2.2.2.2.2.2.2.2.2.2.2.1, u.2.2.2.2.2.2.2.2.2.2.2.2.1, u.2.2.2.2.2.2.2.2.2.2.2.2.2.1, u.2.2.2.2.2.2.2.2.2.2.2.2.2.2) : gU) x o z) else some (0, gH u x o z) := by
  unfold cT_appendMember
  by_cases c5 : c < 5
  · have c8 : c < 8 := by omega
    simp only [hiT_5 hk, Option.bind_some, h5, if_pos (show Int32.ofNat c < 5 from n_ltl (m := 5) (by omega) (by omega) c5), ho_T hk, k_setValue hk c8, gup_eq, n_succ, hpT_5 hk, gup_gup, if_pos c5] <;> rfl
  · simp only [hiT_5 hk, Option.bind_some, h5, if_neg (show ¬ Int32.ofNat c < 5 from n_nltl (m := 5) (by omega) (by omega) (by omega)), if_neg c5]
theorem t_add {b kd nm : Int32} (h : gTT u x) : gAns u x o z (lw_add (some 0) b kd nm (some 211)) (mM_add (some 188) b kd nm) := by
  obtain ⟨n, m, p, q, T⟩ := h
  have hn := T.hn
  have d10 : ¬ (1 : Int32) = 0 := by decide
  obtain ⟨r, r1, r2, r3, r4⟩ := v_eq (k := kd) (v := nm) T.un T.xn hn
  have no : (∀ h : gx_H, h = gH u x o z → cG_add (some 0) b kd nm h = cG_add_36 h) → (∀ z, mM_add (some 188) b kd nm (gH u x o z) = mM_add_22 (some 188) b kd nm (gH u x o z)) → gAns u x o z (lw_add (some 0) b kd nm (some 211)) (mM_add (some 188) b kd nm) := by
    intro h1 h2
    refine ⟨1, u, o, z ++ [(8, [])], 0, ((x.1, gup x.2.1 0 1, x.2.2.1, x.2.2.2.1, x.2.2.2.2.1, x.2.2.2.2.2.1, x.2.2.2.2.2.2.1, x.2.2.2.2.2.2.2.1, x.2.2.2.2.2.2.2.2.1, x.2.2.2.2.2.2.2.2.2.1, x.2.2.2.2.2.2.2.2.2.2.1, x.2.2.2.2.2.2.2.2.2.2.2.1, x.2.2.2.2.2.2.2.2.2.2.2.2.1, x.2.2.2.2.2.2.2.2.2.2.2.2.2.1, x.2.2.2.2.2.2.2.2.2.2.2.2.2.2.1, x.2.2.2.2.2.2.2.2.2.2.2.2.2.2.2) : gX), ?_, (h2 _).trans ?_, rfl, fun q => absurd q (by decide), gTT_0 ⟨n, m, p, q, T⟩, by simp⟩
    · simp only [lw_add, ho_0, Option.bind_some, h1 _ rfl, cG_add_36, hl, hthr, hexc] <;> rfl
    · simp only [mM_add_22, mM_add_23, if_true, mM_add_44, mM_add_45, mM_add_58, mM_add_82, mM_add_83, ho_188, Option.bind_some, r_ref] <;> rfl
  rcases g_ob b n (by omega) with c | ⟨k, hk, rfl⟩
  · refine no (fun h e => ?_) (fun z => ?_)
    · subst e
      simp only [cG_add, hr_0_0, Option.bind_some, ho_1, k_tout T.un c, if_true]
    · simp only [mM_add, ho_188, Option.bind_some, r_isout T.xn c, if_true]
  · obtain ⟨s, c, O⟩ := T.ob k hk
    have hk2 : k < 32 := by omega
    obtain ⟨_, _, _, _, _, _, e3, _⟩ := n_s6 s O.s8
    by_cases sm : s = 3
    · subst sm
      have c5 : c ≤ 5 := O.c8
      have f6 : (u.1 k).2.2.2.2.1 6 = 0 := by rcases O.d4 with h | h; exact h; omega
      have h5 := O.ep f6
      have i3 : ∀ y o z, mM_is (some 188) (Int32.ofNat k) 3 (gH y x o z) = some 1 := fun y o z => by rw [r_isin T.xn hn hk, O.et]; rfl
      rcases r1 with rfl | rfl
      · refine no (fun h e => ?_) (fun z => ?_)
        · subst e
          simp only [cG_add, hr_0_0, Option.bind_some, ho_1, k_tin T.un hn hk, reduceCtorEq, if_false, hiT_4 hk2, O.es, show Int32.ofNat 3 = (3 : Int32) from rfl, if_true, r2] <;> rfl
        · simp only [mM_add, ho_188, Option.bind_some, i3, if_neg d10, r3, if_true]
      · have hvv := v_gV (s := 3) (r4 rfl)
        have hm := fun y o z => r_has (u := y) (o := o) (z := z) (a := kd) (b := nm) hk2 h5 (show c ≤ 8 by omega)
        simp only [← set_find O] at hm
        have hc := fun y o z => k_has (x := y) (o := o) (z := z) (a := kd) (b := gcn kd nm) hk2 O.ec (show c ≤ 8 by omega)
        have ap := fun y o z => k_app (x := y) (o := o) (z := z) (kd := kd) (nm := gcn kd nm) hk2 O.ec c5
        cases hf : gfi (fun i => decide ((u.1 k).2.2.1 i = kd ∧ (u.1 k).2.2.2.1 i = gcn kd nm)) c 0 with
        | some j =>
          rw [hf] at hm hc
          simp only [Option.isSome_some, if_true] at hm hc
          refine ⟨0, u, gup o 0 0, z, 0, ((x.1, gup x.2.1 0 0, x.2.2.1, x.2.2.2.1, x.2.2.2.2.1, x.2.2.2.2.2.1, x.2.2.2.2.2.2.1, x.2.2.2.2.2.2.2.1, x.2.2.2.2.2.2.2.2.1, x.2.2.2.2.2.2.2.2.2.1, x.2.2.2.2.2.2.2.2.2.2.1, x.2.2.2.2.2.2.2.2.2.2.2.1, x.2.2.2.2.2.2.2.2.2.2.2.2.1, x.2.2.2.2.2.2.2.2.2.2.2.2.2.1, x.2.2.2.2.2.2.2.2.2.2.2.2.2.2.1, x.2.2.2.2.2.2.2.2.2.2.2.2.2.2.2) : gX), ?_, ?_, rfl, fun _ => rfl, gTT_0 ⟨n, m, p, q, T⟩, by omega⟩
          · simp only [lw_add, ho_0, Option.bind_some, cG_add, hr_0_0, ho_1, k_tin T.un hn hk, reduceCtorEq, if_false, hiT_4 hk2, O.es, show Int32.ofNat 3 = (3 : Int32) from rfl, if_true, r2, if_neg d10, k_cn, ho_T hk2, hc, hb0] <;> rfl
          · simp only [mM_add, ho_188, Option.bind_some, i3, if_neg d10, r3, mM_add_23, hm, mM_add_45, mM_add_58, mM_add_82, mM_add_83, r_ref, and_self, if_true]
        | none =>
          rw [hf] at hm hc
          simp only [Option.isSome_none, Bool.false_eq_true, if_false] at hm hc
          by_cases c4 : c < 5
          · have c8 : c < 8 := by omega
            have ne5 : ¬ Int32.ofNat c = 5 := fun q => by have := (n_eq (m := 5) (by omega) (by omega)).mp q; omega
            simp only [if_pos c4] at ap
            refine ⟨0, _, gup o 0 1, z, 1, _, ?_, ?_, rfl, fun _ => rfl, ⟨n, m, p, q, gT_0 (x := ((gup x.1 k _, x.2.1, x.2.2.1, x.2.2.2.1, x.2.2.2.2.1, x.2.2.2.2.2.1, x.2.2.2.2.2.2.1, x.2.2.2.2.2.2.2.1, x.2.2.2.2.2.2.2.2.1, x.2.2.2.2.2.2.2.2.2.1, x.2.2.2.2.2.2.2.2.2.2.1, x.2.2.2.2.2.2.2.2.2.2.2.1, x.2.2.2.2.2.2.2.2.2.2.2.2.1, x.2.2.2.2.2.2.2.2.2.2.2.2.2.1, x.2.2.2.2.2.2.2.2.2.2.2.2.2.2.1, x.2.2.2.2.2.2.2.2.2.2.2.2.2.2.2) : gX)) (gT_ob T ⟨3, c + 1, gO_add O c4 hvv⟩)⟩, by omega⟩
            · simp only [lw_add, ho_0, Option.bind_some, cG_add, hr_0_0, ho_1, k_tin T.un hn hk, reduceCtorEq, if_false, hiT_4 hk2, O.es, show Int32.ofNat 3 = (3 : Int32) from rfl, if_true, r2, if_neg d10, k_cn, ho_T hk2, hc, ap, hb0] <;> rfl
            · simp only [mM_add, ho_188, Option.bind_some, i3, if_neg d10, r3, mM_add_23, hm, if_true, mM_add_44, mM_add_45, mM_add_58, hr_188_3, ha_190 hk2, h5, if_neg ne5, mM_add_82, mM_add_83, r_ref, and_self, n_8, r_setSlot hk2 c8, gup_eq, n_succ, hb_190 hk2, gup_gup] <;> rfl
          · obtain rfl : c = 5 := by omega
            simp only [if_neg c4] at ap
            refine ⟨2, u, o, z ++ [(9, [])], 0, ((x.1, gup x.2.1 0 2, x.2.2.1, x.2.2.2.1, x.2.2.2.2.1, x.2.2.2.2.2.1, x.2.2.2.2.2.2.1, x.2.2.2.2.2.2.2.1, x.2.2.2.2.2.2.2.2.1, x.2.2.2.2.2.2.2.2.2.1, x.2.2.2.2.2.2.2.2.2.2.1, x.2.2.2.2.2.2.2.2.2.2.2.1, x.2.2.2.2.2.2.2.2.2.2.2.2.1, x.2.2.2.2.2.2.2.2.2.2.2.2.2.1, x.2.2.2.2.2.2.2.2.2.2.2.2.2.2.1, x.2.2.2.2.2.2.2.2.2.2.2.2.2.2.2) : gX), ?_, ?_, rfl, fun q => absurd q (by decide), gTT_0 ⟨n, m, p, q, T⟩, by simp⟩
            · simp only [lw_add, ho_0, Option.bind_some, cG_add, hr_0_0, ho_1, k_tin T.un hn hk, reduceCtorEq, if_false, hiT_4 hk2, O.es, show Int32.ofNat 3 = (3 : Int32) from rfl, if_true, r2, if_neg d10, k_cn, ho_T hk2, hc, ap, hl, hthr, hexc] <;> rfl
            · simp only [mM_add, ho_188, Option.bind_some, i3, if_neg d10, r3, mM_add_23, hm, if_true, mM_add_44, mM_add_45, mM_add_58, hr_188_3, ha_190 hk2, h5, show Int32.ofNat 5 = (5 : Int32) from rfl, mM_add_83, r_ref] <;> rfl
    · refine no (fun h e => ?_) (fun z => ?_)
      · subst e
        simp only [cG_add, hr_0_0, Option.bind_some, ho_1, k_tin T.un hn hk, reduceCtorEq, if_false, hiT_4 hk2, O.es, e3, if_neg sm] <;> rfl
      · simp only [mM_add, ho_188, Option.bind_some, r_isin T.xn hn hk, O.et, e3, if_neg sm, if_true]
end H
