/-! a getter that runs, on both sides -/
section H
variable {n m p q e g : Nat} {F : gWf}
theorem gW_T {u u' : gU} {x x' : gX} (W : gW n m p q e g u x) (T : gTi n m p q u' x') (h1 : u'.2.2.2.2.2.2.2.2.1 = u.2.2.2.2.2.2.2.2.1) (h2 : u'.2.2.2.2.2.2.2.2.2.1 = u.2.2.2.2.2.2.2.2.2.1) (h3 : u'.2.2.2.2.2.2.2.2.2.2.1 = u.2.2.2.2.2.2.2.2.2.2.1) (h4 : u'.2.2.2.2.2.2.2.2.2.2.2.1 = u.2.2.2.2.2.2.2.2.2.2.2.1) (h5 : x'.2.1 = x.2.1) (h6 : x'.2.2.2.2.2.2.2.2.2.2.2.2.2.1 = x.2.2.2.2.2.2.2.2.2.2.2.2.2.1) (h7 : x'.2.2.2.2.2.2.2.2.2.2.2.2.2.2.1 = x.2.2.2.2.2.2.2.2.2.2.2.2.2.2.1) : gW n m p q e g u' x' :=
  ⟨T, by rw [h1, h5]; exact W.oc, by rw [h1]; exact W.o2, by rw [h1]; exact W.he, by rw [h1]; exact W.hg, by rw [h1, h2]; exact W.dE, by rw [h1, h5]; exact W.xe, by rw [h1, h3, h6]; exact W.dr, by rw [h1]; exact W.ug, by rw [h1, h5]; exact W.xg, by rw [h1, h4, h7]; exact W.pl⟩
/-- both sides refuse: the outcome is set -/
theorem gW_bad {u : gU} {x : gX} {b : Int32} (W : gW n m p q e g u x) (hb : b = 1 ∨ b = 2) : gW n m p q e g ((u.1, u.2.1, u.2.2.1, u.2.2.2.1, u.2.2.2.2.1, u.2.2.2.2.2.1, u.2.2.2.2.2.2.1, u.2.2.2.2.2.2.2.1, gup u.2.2.2.2.2.2.2.2.1 4 b, u.2.2.2.2.2.2.2.2.2.1, u.2.2.2.2.2.2.2.2.2.2.1, u.2.2.2.2.2.2.2.2.2.2.2.1, u.2.2.2.2.2.2.2.2.2.2.2.2.1, u.2.2.2.2.2.2.2.2.2.2.2.2.2.1, u.2.2.2.2.2.2.2.2.2.2.2.2.2.2) : gU) ((x.1, gup x.2.1 26 b, x.2.2.1, x.2.2.2.1, x.2.2.2.2.1, x.2.2.2.2.2.1, x.2.2.2.2.2.2.1, x.2.2.2.2.2.2.2.1, x.2.2.2.2.2.2.2.2.1, x.2.2.2.2.2.2.2.2.2.1, x.2.2.2.2.2.2.2.2.2.2.1, x.2.2.2.2.2.2.2.2.2.2.2.1, x.2.2.2.2.2.2.2.2.2.2.2.2.1, x.2.2.2.2.2.2.2.2.2.2.2.2.2.1, x.2.2.2.2.2.2.2.2.2.2.2.2.2.2.1, x.2.2.2.2.2.2.2.2.2.2.2.2.2.2.2) : gX) := by
  have T := W.T
  have nb : ¬ b = 0 := by rcases hb with h | h <;> rw [h] <;> decide
  exact ⟨⟨T.hn, T.un, T.xn, T.ob, T.hm, T.um, T.xm, T.bs, T.b8, T.hp, T.up, T.xp, T.pa, T.pb, T.hq, T.uq, T.xq, T.ho, T.fo⟩, rfl, by rcases hb with h | h; exact Or.inr (Or.inl h); exact Or.inr (Or.inr h), fun h => absurd h nb, fun h => absurd h nb, fun h => absurd h nb, fun h => absurd h nb, fun h => absurd h nb, fun h => absurd h nb, fun h => absurd h nb, fun h => absurd h nb⟩
/-- what a getter leaves as it was -/
abbrev gGe  (u u' : gU) (x x' : gX) : Prop := (u'.2.2.2.2.2.2.2.2.2.2.2.2.2.1 = u.2.2.2.2.2.2.2.2.2.2.2.2.2.1) ∧ (∀ k, (u'.1 k).2.2.2.2.1 4 = (u.1 k).2.2.2.2.1 4) ∧ (∀ k, ¬ (u.1 k).2.2.2.2.1 4 = 0 → (u'.1 k).2.2.2.2.1 5 = (u.1 k).2.2.2.2.1 5) ∧ (u'.2.2.2.2.2.2.2.2.1 2 = u.2.2.2.2.2.2.2.2.1 2) ∧ (∀ i, ¬ i = 26 → x'.2.1 i = x.2.1 i) ∧ (x'.2.2.2.2.2.2.1 = x.2.2.2.2.2.2.1) ∧ (x'.2.2.2.2.2.2.2.1 = x.2.2.2.2.2.2.2.1) ∧ (x'.2.2.2.2.2.2.2.2.1 = x.2.2.2.2.2.2.2.2.1) ∧ (x'.2.2.2.2.2.2.2.2.2.1 = x.2.2.2.2.2.2.2.2.2.1) ∧ (u'.2.2.2.2.2.2.1 = u.2.2.2.2.2.2.1)
theorem gGe.gkd {u u' : gU} {x x' : gX} (h : gGe u u' x x') : u'.2.2.2.2.2.2.2.2.2.2.2.2.2.1 = u.2.2.2.2.2.2.2.2.2.2.2.2.2.1 := h.1
theorem gGe.so {u u' : gU} {x x' : gX} (h : gGe u u' x x') : ∀ k, (u'.1 k).2.2.2.2.1 4 = (u.1 k).2.2.2.2.1 4 := h.2.1
theorem gGe.fct {u u' : gU} {x x' : gX} (h : gGe u u' x x') : ∀ k, ¬ (u.1 k).2.2.2.2.1 4 = 0 → (u'.1 k).2.2.2.2.1 5 = (u.1 k).2.2.2.2.1 5 := h.2.2.1
theorem gGe.p2 {u u' : gU} {x x' : gX} (h : gGe u u' x x') : u'.2.2.2.2.2.2.2.2.1 2 = u.2.2.2.2.2.2.2.2.1 2 := h.2.2.2.1
theorem gGe.g188 {u u' : gU} {x x' : gX} (h : gGe u u' x x') : ∀ i, ¬ i = 26 → x'.2.1 i = x.2.1 i := h.2.2.2.2.1
theorem gGe.g201 {u u' : gU} {x x' : gX} (h : gGe u u' x x') : x'.2.2.2.2.2.2.1 = x.2.2.2.2.2.2.1 := h.2.2.2.2.2.1
theorem gGe.g202 {u u' : gU} {x x' : gX} (h : gGe u u' x x') : x'.2.2.2.2.2.2.2.1 = x.2.2.2.2.2.2.2.1 := h.2.2.2.2.2.2.1
theorem gGe.g203 {u u' : gU} {x x' : gX} (h : gGe u u' x x') : x'.2.2.2.2.2.2.2.2.1 = x.2.2.2.2.2.2.2.2.1 := h.2.2.2.2.2.2.2.1
theorem gGe.g204 {u u' : gU} {x x' : gX} (h : gGe u u' x x') : x'.2.2.2.2.2.2.2.2.2.1 = x.2.2.2.2.2.2.2.2.2.1 := h.2.2.2.2.2.2.2.2.1
theorem gGe.ga {u u' : gU} {x x' : gX} (h : gGe u u' x x') : u'.2.2.2.2.2.2.1 = u.2.2.2.2.2.2.1 := h.2.2.2.2.2.2.2.2.2
theorem w_getter {k c : Nat} {u : gU} {x : gX} {num : Int32} (W : gW n m p q e g u x) (h0 : u.2.2.2.2.2.2.2.2.1 4 = 0) (hkn : k < n) (O : gO n 0 c (u.1 k) (x.1 k)) : ∃ u' x', (∀ y o z, cW_runGetter (some 169) (some 1) (some (3 + 5 * k)) num (gH u y o z) = some (gH u' y o z)) ∧ (∀ y o z, mM_run (some 188) (Int32.ofNat k) num (gH y x o z) = some (num >>> ((3 : Int32) &&& 31), gH y x' o z)) ∧ gW n m p q e g u' x' ∧ gGe u u' x x' := by
  have T := W.T
  have hn := T.hn
  have hk : k < 32 := by omega
  have c6 : c ≤ 6 := O.c8
  have d10 : ¬ (1 : Int32) = 0 := by decide
  have same : gGe u u x x := ⟨rfl, fun _ => rfl, fun _ _ => rfl, rfl, fun _ _ => rfl, rfl, rfl, rfl, rfl, rfl⟩
  have obj : ∀ (q' : gQ) (p' : gP) (c' : Nat), gO n 0 c' q' p' → gW n m p q e g ((gup u.1 k q', u.2.1, u.2.2.1, u.2.2.2.1, u.2.2.2.2.1, u.2.2.2.2.2.1, u.2.2.2.2.2.2.1, u.2.2.2.2.2.2.2.1, u.2.2.2.2.2.2.2.2.1, u.2.2.2.2.2.2.2.2.2.1, u.2.2.2.2.2.2.2.2.2.2.1, u.2.2.2.2.2.2.2.2.2.2.2.1, u.2.2.2.2.2.2.2.2.2.2.2.2.1, u.2.2.2.2.2.2.2.2.2.2.2.2.2.1, u.2.2.2.2.2.2.2.2.2.2.2.2.2.2) : gU) ((gup x.1 k p', x.2.1, x.2.2.1, x.2.2.2.1, x.2.2.2.2.1, x.2.2.2.2.2.1, x.2.2.2.2.2.2.1, x.2.2.2.2.2.2.2.1, x.2.2.2.2.2.2.2.2.1, x.2.2.2.2.2.2.2.2.2.1, x.2.2.2.2.2.2.2.2.2.2.1, x.2.2.2.2.2.2.2.2.2.2.2.1, x.2.2.2.2.2.2.2.2.2.2.2.2.1, x.2.2.2.2.2.2.2.2.2.2.2.2.2.1, x.2.2.2.2.2.2.2.2.2.2.2.2.2.2.1, x.2.2.2.2.2.2.2.2.2.2.2.2.2.2.2) : gX) ∧ gGe u ((gup u.1 k q', u.2.1, u.2.2.1, u.2.2.2.1, u.2.2.2.2.1, u.2.2.2.2.2.1, u.2.2.2.2.2.2.1, u.2.2.2.2.2.2.2.1, u.2.2.2.2.2.2.2.2.1, u.2.2.2.2.2.2.2.2.2.1, u.2.2.2.2.2.2.2.2.2.2.1, u.2.2.2.2.2.2.2.2.2.2.2.1, u.2.2.2.2.2.2.2.2.2.2.2.2.1, u.2.2.2.2.2.2.2.2.2.2.2.2.2.1, u.2.2.2.2.2.2.2.2.2.2.2.2.2.2) : gU) x ((gup x.1 k p', x.2.1, x.2.2.1, x.2.2.2.1, x.2.2.2.2.1, x.2.2.2.2.2.1, x.2.2.2.2.2.2.1, x.2.2.2.2.2.2.2.1, x.2.2.2.2.2.2.2.2.1, x.2.2.2.2.2.2.2.2.2.1, x.2.2.2.2.2.2.2.2.2.2.1, x.2.2.2.2.2.2.2.2.2.2.2.1, x.2.2.2.2.2.2.2.2.2.2.2.2.1, x.2.2.2.2.2.2.2.2.2.2.2.2.2.1, x.2.2.2.2.2.2.2.2.2.2.2.2.2.2.1, x.2.2.2.2.2.2.2.2.2.2.2.2.2.2.2) : gX) := by
    intro q' p' c' O'
    refine ⟨gW_T W (gT_ob T ⟨0, c', O'⟩) rfl rfl rfl rfl rfl rfl rfl, rfl, fun j => ?_, fun j hj => ?_, rfl, fun _ _ => rfl, rfl, rfl, rfl, rfl, rfl⟩
    · show (gup u.1 k q' j).2.2.2.2.1 4 = _
      by_cases e : j = k
      · subst e; rw [gup_eq, O'.es, O.es]
      · rw [gup_ne e]
    · show (gup u.1 k q' j).2.2.2.2.1 5 = _
      by_cases e : j = k
      · subst e; exact absurd O.es hj
      · rw [gup_ne e]
  by_cases m1 : num &&& 7 = 1
  · refine ⟨((u.1, u.2.1, u.2.2.1, u.2.2.2.1, u.2.2.2.2.1, u.2.2.2.2.2.1, u.2.2.2.2.2.2.1, u.2.2.2.2.2.2.2.1, gup u.2.2.2.2.2.2.2.2.1 4 2, u.2.2.2.2.2.2.2.2.2.1, u.2.2.2.2.2.2.2.2.2.2.1, u.2.2.2.2.2.2.2.2.2.2.2.1, u.2.2.2.2.2.2.2.2.2.2.2.2.1, u.2.2.2.2.2.2.2.2.2.2.2.2.2.1, u.2.2.2.2.2.2.2.2.2.2.2.2.2.2) : gU), ((x.1, gup x.2.1 26 2, x.2.2.1, x.2.2.2.1, x.2.2.2.2.1, x.2.2.2.2.2.1, x.2.2.2.2.2.2.1, x.2.2.2.2.2.2.2.1, x.2.2.2.2.2.2.2.2.1, x.2.2.2.2.2.2.2.2.2.1, x.2.2.2.2.2.2.2.2.2.2.1, x.2.2.2.2.2.2.2.2.2.2.2.1, x.2.2.2.2.2.2.2.2.2.2.2.2.1, x.2.2.2.2.2.2.2.2.2.2.2.2.2.1, x.2.2.2.2.2.2.2.2.2.2.2.2.2.2.1, x.2.2.2.2.2.2.2.2.2.2.2.2.2.2.2) : gX), fun y o z => ?_, fun y o z => ?_, gW_bad W (Or.inr rfl), rfl, fun _ => rfl, fun _ _ => rfl, rfl, fun i hi => gup_ne hi, rfl, rfl, rfl, rfl, rfl⟩
    · simp only [cW_runGetter, k_fd, k_fm, Option.bind_some, m1, if_true, hp_169_4]
    · simp only [mM_run, m1, if_true, hp_188_26, Option.bind_some]
  · by_cases m2 : num &&& 7 = 2
    · obtain ⟨r, q', p', c', a1, a2, a3, a4⟩ := dp_tie (a := num >>> ((3 : Int32) &&& 31)) hk O
      refine ⟨_, _, fun y o z => ?_, fun y o z => ?_, (obj q' p' c' a4).1, (obj q' p' c' a4).2⟩
      · simp only [cW_runGetter, k_fd, k_fm, Option.bind_some, m2, show ¬ (2 : Int32) = 1 by decide, if_false, if_true, ho_T hk, a2]
      · simp only [mM_run, m2, show ¬ (2 : Int32) = 1 by decide, if_false, if_true, ho_188, Option.bind_some, a3 x rfl]
    · by_cases m3 : num &&& 7 = 3
      · have hv : gV n 0 4 (gcn 4 7) := Or.inr (Or.inr ⟨4, by omega, rfl, fun h => by omega⟩)
        have ix := fun y o z => k_index (u := u) (x := y) (o := o) (z := z) (a := 4) (b := num >>> ((3 : Int32) &&& 31)) hk O.ec (show c ≤ 8 by omega)
        have sl := fun y o z => r_slot (u := y) (x := x) (o := o) (z := z) (b := num >>> ((3 : Int32) &&& 31)) hk (rec_f6 O) (show c ≤ 8 by omega)
        simp only [← rec_find O] at sl
        have st := sp_tie (a := num >>> ((3 : Int32) &&& 31)) hk O hv
        have e7 : gcn 4 7 = 7 := by decide
        rw [e7] at st
        have m34 : ¬ (3 : Int32) = 1 ∧ ¬ (3 : Int32) = 2 ∧ ¬ (3 : Int32) = 4 := by decide
        cases hf : gfi (fun i => decide ((u.1 k).1 i = 4 ∧ (u.1 k).2.1 i = num >>> ((3 : Int32) &&& 31))) c 0 with
        | some j =>
          rw [hf] at ix sl
          have hj := (gfi_some _ _ _ hf).2.1
          refine ⟨u, x, fun y o z => ?_, fun y o z => ?_, W, same⟩
          · simp only [cW_runGetter, k_fd, k_fm, Option.bind_some, m3, m34.1, m34.2.1, if_false, if_true, ho_T hk, ix, gio, n_ne1 (n := j) (by omega)]
          · simp only [mM_run, m3, m34.1, m34.2.1, if_false, if_true, ho_188, Option.bind_some, sl, gis, n_nn (n := 8 * k + j) (by omega), mM_run_79, m34.2.2]
        | none =>
          rw [hf] at ix sl st
          rcases st with ⟨q', p', c', a1, a2, a3, a4⟩ | ⟨a1, a2, a3⟩
          · have c5 : c < 6 := by rcases a4 with h | h; exact h; exact absurd rfl h
            refine ⟨_, _, fun y o z => ?_, fun y o z => ?_, (obj q' p' c' a3).1, (obj q' p' c' a3).2⟩
            · simp only [cW_runGetter, k_fd, k_fm, Option.bind_some, m3, m34.1, m34.2.1, if_false, if_true, ho_T hk, ix, gio, a1]
            · simp only [mM_run, m3, m34.1, m34.2.1, if_false, if_true, ho_188, Option.bind_some, sl, gis, show (-1 : Int32) < 0 by decide, hr_188_3, ha_190 hk, rec_f6 O, show Int32.ofNat c < 6 from n_ltl (m := 6) (by omega) (by omega) c5, a2 x rfl]
          · refine ⟨u, x, fun y o z => ?_, fun y o z => ?_, W, same⟩
            · simp only [cW_runGetter, k_fd, k_fm, Option.bind_some, m3, m34.1, m34.2.1, if_false, if_true, ho_T hk, ix, gio, a1]
            · simp only [mM_run, m3, m34.1, m34.2.1, if_false, if_true, ho_188, Option.bind_some, sl, gis, show (-1 : Int32) < 0 by decide, hr_188_3, ha_190 hk, rec_f6 O, show ¬ Int32.ofNat c < 6 from n_nltl (m := 6) (by omega) (by omega) (by omega), mM_run_79, m34.2.2]
      · by_cases m4 : num &&& 7 = 4
        · have m44 : ¬ (4 : Int32) = 1 ∧ ¬ (4 : Int32) = 2 ∧ ¬ (4 : Int32) = 3 := by decide
          have det : ∀ y o z, cW_runGetter (some 169) (some 1) (some (3 + 5 * k)) num (gH u y o z) = (cS_detachBuffer (some 1) (num >>> ((3 : Int32) &&& 31)) (gH u y o z)).bind fun r => some r.2 := by
            intro y o z
            simp only [cW_runGetter, k_fd, k_fm, Option.bind_some, m4, m44.1, m44.2.1, m44.2.2, if_false, if_true, ho_1]
          rcases g_ob (num >>> ((3 : Int32) &&& 31)) n (by omega) with cc | ⟨b, hb, eb⟩
          · refine ⟨u, x, fun y o z => ?_, fun y o z => ?_, W, same⟩
            · rw [det]
              simp only [cS_detachBuffer, ho_1, Option.bind_some, k_free0 T.un cc, if_true]
            · simp only [mM_run, m4, m44.1, m44.2.1, m44.2.2, if_false, mM_run_79, if_true, ho_188, Option.bind_some, r_isout T.xn cc]
          · obtain ⟨s, c2, Ob⟩ := T.ob b hb
            have hb2 : b < 32 := by omega
            obtain ⟨_, _, _, _, _, _, _, e4, _⟩ := n_s6 s Ob.s8
            have is4 := fun y o z => r_isin (u := y) (x := x) (o := o) (z := z) (t := 4) T.xn hn hb
            have fr : ∀ y o z, cS_isFreeBuffer (some 1) (Int32.ofNat b) (gH u y o z) = some (if s = 4 ∧ (u.1 b).2.2.2.2.1 6 = 0 then 1 else 0) := by
              intro y o z
              simp only [cS_isFreeBuffer, ho_1, Option.bind_some, k_tin T.un hn hb, reduceCtorEq, if_false, hiT_4 hb2, hiT_6 hb2, Ob.es, e4]
              by_cases c1 : s = 4 <;> by_cases c2 : (u.1 b).2.2.2.2.1 6 = 0 <;> simp [c1, c2]
            by_cases f4 : s = 4
            · subst f4
              have ty4 : (x.1 b).2.2.2.2.1 = 4 := Ob.et
              have ref : ∀ y o z, mM_run (some 188) (Int32.ofNat k) num (gH y x o z) = some (num >>> ((3 : Int32) &&& 31), gH y ((gup x.1 b (gp_det (x.1 b)), x.2.1, x.2.2.1, x.2.2.2.1, x.2.2.2.2.1, x.2.2.2.2.2.1, x.2.2.2.2.2.2.1, x.2.2.2.2.2.2.2.1, x.2.2.2.2.2.2.2.2.1, x.2.2.2.2.2.2.2.2.2.1, x.2.2.2.2.2.2.2.2.2.2.1, x.2.2.2.2.2.2.2.2.2.2.2.1, x.2.2.2.2.2.2.2.2.2.2.2.2.1, x.2.2.2.2.2.2.2.2.2.2.2.2.2.1, x.2.2.2.2.2.2.2.2.2.2.2.2.2.2.1, x.2.2.2.2.2.2.2.2.2.2.2.2.2.2.2) : gX) o z) := by
                intro y o z
                simp only [mM_run, m4, m44.1, m44.2.1, m44.2.2, if_false, mM_run_79, if_true, ho_188, Option.bind_some, eb, is4, ty4, if_neg d10, r_detNow hb2]
              by_cases d0 : (u.1 b).2.2.2.2.1 6 = 0
              · refine ⟨((gup u.1 b (gq_det (u.1 b)), u.2.1, u.2.2.1, u.2.2.2.1, u.2.2.2.2.1, u.2.2.2.2.2.1, u.2.2.2.2.2.2.1, u.2.2.2.2.2.2.2.1, u.2.2.2.2.2.2.2.2.1, u.2.2.2.2.2.2.2.2.2.1, u.2.2.2.2.2.2.2.2.2.2.1, u.2.2.2.2.2.2.2.2.2.2.2.1, u.2.2.2.2.2.2.2.2.2.2.2.2.1, u.2.2.2.2.2.2.2.2.2.2.2.2.2.1, u.2.2.2.2.2.2.2.2.2.2.2.2.2.2) : gU), ((gup x.1 b (gp_det (x.1 b)), x.2.1, x.2.2.1, x.2.2.2.1, x.2.2.2.2.1, x.2.2.2.2.2.1, x.2.2.2.2.2.2.1, x.2.2.2.2.2.2.2.1, x.2.2.2.2.2.2.2.2.1, x.2.2.2.2.2.2.2.2.2.1, x.2.2.2.2.2.2.2.2.2.2.1, x.2.2.2.2.2.2.2.2.2.2.2.1, x.2.2.2.2.2.2.2.2.2.2.2.2.1, x.2.2.2.2.2.2.2.2.2.2.2.2.2.1, x.2.2.2.2.2.2.2.2.2.2.2.2.2.2.1, x.2.2.2.2.2.2.2.2.2.2.2.2.2.2.2) : gX), fun y o z => ?_, ref, gW_T W (gT_ob T ⟨4, c2, gO_det Ob⟩) rfl rfl rfl rfl rfl rfl rfl, rfl, fun j => ?_, fun j hj => ?_, rfl, fun _ _ => rfl, rfl, rfl, rfl, rfl, rfl⟩
                · rw [det, eb]
                  simp only [cS_detachBuffer, ho_1, Option.bind_some, fr, d0, and_self, if_true, if_neg d10, hr_1_0, hT hb2, hpT_6 hb2] <;> rfl
                · show (gup u.1 b (gq_det (u.1 b)) j).2.2.2.2.1 4 = _
                  by_cases e : j = b
                  · subst e; rw [gup_eq]; rfl
                  · rw [gup_ne e]
                · show (gup u.1 b (gq_det (u.1 b)) j).2.2.2.2.1 5 = _
                  by_cases e : j = b
                  · subst e; rw [gup_eq]; rfl
                  · rw [gup_ne e]
              · have er : gp_det (x.1 b) = x.1 b := by
                  have d1 : (x.1 b).2.2.2.2.2.2.1 = 1 := by
                    rw [Ob.ed]
                    rcases Ob.d4 with h | h
                    · exact absurd h d0
                    · exact h.1
                  have c0 : (x.1 b).2.2.2.2.2.1 = 0 := Ob.e0 d0
                  unfold gp_det
                  rw [← d1, ← c0]
                refine ⟨u, x, fun y o z => ?_, fun y o z => ?_, W, same⟩
                · rw [det, eb]
                  simp only [cS_detachBuffer, ho_1, Option.bind_some, fr, d0, and_false, if_false, if_true]
                · rw [ref, er, gup_self]
            · refine ⟨u, x, fun y o z => ?_, fun y o z => ?_, W, same⟩
              · rw [det, eb]
                simp only [cS_detachBuffer, ho_1, Option.bind_some, fr, f4, false_and, if_false, if_true]
              · have ty4 : ¬ (x.1 b).2.2.2.2.1 = 4 := fun h => f4 (e4.mp (Ob.et.symm.trans h))
                simp only [mM_run, m4, m44.1, m44.2.1, m44.2.2, if_false, mM_run_79, if_true, ho_188, Option.bind_some, eb, is4, if_neg ty4]
        · refine ⟨u, x, fun y o z => ?_, fun y o z => ?_, W, same⟩
          · simp only [cW_runGetter, k_fd, k_fm, Option.bind_some, if_neg m1, if_neg m2, if_neg m3, if_neg m4]
          · simp only [mM_run, if_neg m1, if_neg m2, if_neg m3, mM_run_79, if_neg m4]
end H
