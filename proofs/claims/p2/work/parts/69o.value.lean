/-! read: a value of any kind -/
/-- what the class does behind the tag -/
def crv (W : gWr) (l3 t : Int32) (h : gx_H) : Option gx_H :=
    if t = (4 : Int32) then (
      (cR_nextInt (some 187) (some 163) h).bind fun r11 =>
      (gv_is r11.2 (some 187) 6).bind fun _ =>
      cR_settle (some 187) (4 : Int32) r11.1 r11.2) else
    if t = (5 : Int32) then (
      cR_readText (some 187) (some 163) h) else
    if t = (6 : Int32) then (
      (gv_gI h (some 187) 6 6).bind fun v20 =>
      (gv_gI h (some 1) 1 1).bind fun v21 =>
      (gv_gI h (some 187) 6 6).bind fun v22 =>
      cR_readPlace (some 187) (some 163) v20 (v21 - v22) h) else
    if t = (7 : Int32) then (
      (gv_gI h (some 187) 6 4).bind fun v27 =>
      (gv_gI h (some 187) 6 5).bind fun v28 =>
      cR_readPlace (some 187) (some 163) v27 v28 h) else
    if t = (13 : Int32) then (
      cR_readView W (some 187) (some 1) (some 163) l3 h) else
    if (3 : Int32) < t then (
      cR_readObject W (some 187) (some 1) (some 163) (t - (8 : Int32)) l3 h) else
    cR_settle (some 187) t (0 : Int32) h
section H
variable {n0 f q m N pos : Nat} {u : gU} {x : gX} {W : gWr}
theorem k_crv {D n j : Nat} (G : gD n0 f q m N pos u x) (hD : D < 12) (p : pos < m) (hj : j ≤ 14) (e : u.2.2.2.2.1 pos = Int32.ofNat j) : ∀ y o z, cR_readValue (n + 1) (some 187) (some 1) (some 163) (Int32.ofNat (D + 1)) (gH u y o z) = crv (cR_readValue n) (Int32.ofNat (D + 1)) (Int32.ofNat j) (gH (su u (pos + 1)) y o z) := by
  intro y o z
  have l : ¬ (12 : Int32) < Int32.ofNat (D + 1) := n_nltl (n := 12) (by omega) (by omega) (by omega)
  have w : (su u (pos + 1)).2.2.2.2.2.2.2.2.2.2.2.2.1 1 = 0 := G.wr
  rw [cR_readValue, if_neg l, cR_readValue_11, ho_187, Option.bind_some]
  rw [show cR_nextUpTo (some 187) (some 163) 14 (gH u y o z) = some (Int32.ofNat j, gH (su u (pos + 1)) y o z) from k_up (t := 14) G p hj (by omega) e y o z, Option.bind_some, hi_187_1, Option.bind_some, if_pos w]
  simp only [crv, ho_187, Option.bind_some, Option.bind_fun_some]
theorem k_crv0 {D n : Nat} (G : gD n0 f q m N pos u x) (c : ¬ (pos < m ∧ ∃ j, j ≤ 14 ∧ u.2.2.2.2.1 pos = Int32.ofNat j)) (hD : D < 12) : ∃ r, r 1 = 1 ∧ ∀ y o z, cR_readValue (n + 1) (some 187) (some 1) (some 163) (Int32.ofNat (D + 1)) (gH u y o z) = some (gH ((u.1, u.2.1, u.2.2.1, u.2.2.2.1, u.2.2.2.2.1, u.2.2.2.2.2.1, u.2.2.2.2.2.2.1, u.2.2.2.2.2.2.2.1, u.2.2.2.2.2.2.2.2.1, u.2.2.2.2.2.2.2.2.2.1, u.2.2.2.2.2.2.2.2.2.2.1, u.2.2.2.2.2.2.2.2.2.2.2.1, r, u.2.2.2.2.2.2.2.2.2.2.2.2.2.1, u.2.2.2.2.2.2.2.2.2.2.2.2.2.2) : gU) y o z) := by
  obtain ⟨r, r1, r2⟩ := k_up0 (t := 14) G (by omega) c
  refine ⟨r, r1, fun y o z => ?_⟩
  have l : ¬ (12 : Int32) < Int32.ofNat (D + 1) := n_nltl (n := 12) (by omega) (by omega) (by omega)
  rw [cR_readValue, if_neg l, cR_readValue_11, ho_187, Option.bind_some]
  rw [show cR_nextUpTo (some 187) (some 163) 14 (gH u y o z) = some (0, gH ((u.1, u.2.1, u.2.2.1, u.2.2.2.1, u.2.2.2.2.1, u.2.2.2.2.2.1, u.2.2.2.2.2.2.1, u.2.2.2.2.2.2.2.1, u.2.2.2.2.2.2.2.2.1, u.2.2.2.2.2.2.2.2.2.1, u.2.2.2.2.2.2.2.2.2.2.1, u.2.2.2.2.2.2.2.2.2.2.2.1, r, u.2.2.2.2.2.2.2.2.2.2.2.2.2.1, u.2.2.2.2.2.2.2.2.2.2.2.2.2.2) : gU) y o z) from r2 y o z, Option.bind_some, hi_187_1, Option.bind_some]
  exact if_neg (show ¬ r 1 = 0 by rw [r1]; exact i_10)
theorem k_rv11D {l : Int32} (h : u.2.2.2.2.2.2.2.2.2.2.2.2.1 1 = 1) : ∀ y o z, cR_readValue_11 W (some 187) (some 1) (some 163) l (gH u y o z) = some (gH u y o z) := by
  intro y o z
  rw [cR_readValue_11, ho_187, Option.bind_some]
  rw [show cR_nextUpTo (some 187) (some 163) 14 (gH u y o z) = some (0, gH u y o z) from k_uptoDead (t := 14) h (by omega), Option.bind_some, hi_187_1, Option.bind_some]
  exact if_neg (show ¬ u.2.2.2.2.2.2.2.2.2.2.2.2.1 1 = 0 by rw [h]; exact i_10)
theorem gDe_rv {n : Nat} : gDe (cR_readValue (n + 1)) := by
  intro u y o z d h
  have e : (((u.1, u.2.1, u.2.2.1, u.2.2.2.1, u.2.2.2.2.1, u.2.2.2.2.2.1, u.2.2.2.2.2.2.1, u.2.2.2.2.2.2.2.1, u.2.2.2.2.2.2.2.2.1, u.2.2.2.2.2.2.2.2.2.1, u.2.2.2.2.2.2.2.2.2.2.1, u.2.2.2.2.2.2.2.2.2.2.2.1, gup u.2.2.2.2.2.2.2.2.2.2.2.2.1 1 1, u.2.2.2.2.2.2.2.2.2.2.2.2.2.1, u.2.2.2.2.2.2.2.2.2.2.2.2.2.2) : gU) : gU) = u := by rw [gup_same h]
  have hx : gv_pV (gH u y o z) (some 187) 6 1 (.int 1) = some (gH u y o z) := by
    rw [hp_187_1]
    exact congrArg (fun w => some (gH w y o z)) e
  rw [cR_readValue, hx, Option.bind_some, k_rv11D h, ite_self]
theorem k_deep {n : Nat} : ∀ y o z, cR_readValue (n + 1) (some 187) (some 1) (some 163) (Int32.ofNat (12 + 1)) (gH u y o z) = some (gH ((u.1, u.2.1, u.2.2.1, u.2.2.2.1, u.2.2.2.2.1, u.2.2.2.2.2.1, u.2.2.2.2.2.2.1, u.2.2.2.2.2.2.2.1, u.2.2.2.2.2.2.2.2.1, u.2.2.2.2.2.2.2.2.2.1, u.2.2.2.2.2.2.2.2.2.2.1, u.2.2.2.2.2.2.2.2.2.2.2.1, gup u.2.2.2.2.2.2.2.2.2.2.2.2.1 1 1, u.2.2.2.2.2.2.2.2.2.2.2.2.2.1, u.2.2.2.2.2.2.2.2.2.2.2.2.2.2) : gU) y o z) := by
  intro y o z
  rw [cR_readValue, if_pos (by decide), hp_187_1, Option.bind_some]
  exact k_rv11D (u := ((u.1, u.2.1, u.2.2.1, u.2.2.2.1, u.2.2.2.2.1, u.2.2.2.2.2.1, u.2.2.2.2.2.2.1, u.2.2.2.2.2.2.2.1, u.2.2.2.2.2.2.2.2.1, u.2.2.2.2.2.2.2.2.2.1, u.2.2.2.2.2.2.2.2.2.2.1, u.2.2.2.2.2.2.2.2.2.2.2.1, gup u.2.2.2.2.2.2.2.2.2.2.2.2.1 1 1, u.2.2.2.2.2.2.2.2.2.2.2.2.2.1, u.2.2.2.2.2.2.2.2.2.2.2.2.2.2) : gU)) rfl y o z
theorem r_got44 : ∀ y o z, mM_takeValue_44 (some 188) 0 0 (gH y x o z) = some (1, gH y ((x.1, gup (gup x.2.1 35 0) 36 0, x.2.2.1, x.2.2.2.1, x.2.2.2.2.1, x.2.2.2.2.2.1, x.2.2.2.2.2.2.1, x.2.2.2.2.2.2.2.1, x.2.2.2.2.2.2.2.2.1, x.2.2.2.2.2.2.2.2.2.1, x.2.2.2.2.2.2.2.2.2.2.1, x.2.2.2.2.2.2.2.2.2.2.2.1, x.2.2.2.2.2.2.2.2.2.2.2.2.1, x.2.2.2.2.2.2.2.2.2.2.2.2.2.1, x.2.2.2.2.2.2.2.2.2.2.2.2.2.2.1, x.2.2.2.2.2.2.2.2.2.2.2.2.2.2.2) : gX) o z) := by
  intro y o z
  rw [mM_takeValue_44, if_pos rfl, ho_188, Option.bind_some, r_got, Option.bind_some]
theorem r_tv {D : Nat} (G : gD n0 f q m N pos u x) (h18 : x.2.1 18 = Int32.ofNat D) (hD : D < 12) (p : pos < m) : ∀ y o z, mM_takeValue (some 188) (gH y x o z) = mM_takeValue_44 (some 188) (u.2.2.2.2.1 pos) (u.2.2.2.2.1 pos) (gH y (sx x (pos + 1)) o z) := by
  intro y o z
  have l : ¬ (12 : Int32) < Int32.ofNat (D + 1) := n_nltl (n := 12) (by omega) (by omega) (by omega)
  have s31 : (((x.1, gup x.2.1 31 1, x.2.2.1, x.2.2.2.1, x.2.2.2.2.1, x.2.2.2.2.2.1, x.2.2.2.2.2.2.1, x.2.2.2.2.2.2.2.1, x.2.2.2.2.2.2.2.2.1, x.2.2.2.2.2.2.2.2.2.1, x.2.2.2.2.2.2.2.2.2.2.1, x.2.2.2.2.2.2.2.2.2.2.2.1, x.2.2.2.2.2.2.2.2.2.2.2.2.1, x.2.2.2.2.2.2.2.2.2.2.2.2.2.1, x.2.2.2.2.2.2.2.2.2.2.2.2.2.2.1, x.2.2.2.2.2.2.2.2.2.2.2.2.2.2.2) : gX) : gX) = x := by rw [gup_same G.gg]
  have hx : gv_pV (gH y x o z) (some 188) 7 31 (.int 1) = some (gH y x o z) := by
    rw [hp_188_31]
    exact congrArg (fun w => some (gH y w o z)) s31
  have g31 : ¬ x.2.1 31 = 0 := by rw [G.gg]; exact i_10
  have g31' : ¬ (sx x (pos + 1)).2.1 31 = 0 := g31
  rw [mM_takeValue, hi_188_31, Option.bind_some, if_neg g31, hi_188_18, Option.bind_some, h18, n_succ, if_neg l, mM_takeValue_24, if_neg (fun k => k (Or.inr rfl)), hx, Option.bind_some, ho_188, Option.bind_some, r_nx G p, Option.bind_some, hi_188_31, Option.bind_some, if_neg g31']
theorem r_tv0 {D : Nat} (G : gD n0 f q m N pos u x) (h18 : x.2.1 18 = Int32.ofNat D) (hD : D < 12) (p : ¬ pos < m) : ∃ x', x'.2.1 31 = 0 ∧ gXd N x x' ∧ ∀ y o z, mM_takeValue (some 188) (gH y x o z) = some (1, gH y x' o z) := by
  have l : ¬ (12 : Int32) < Int32.ofNat (D + 1) := n_nltl (n := 12) (by omega) (by omega) (by omega)
  have s31 : (((x.1, gup x.2.1 31 1, x.2.2.1, x.2.2.2.1, x.2.2.2.2.1, x.2.2.2.2.2.1, x.2.2.2.2.2.2.1, x.2.2.2.2.2.2.2.1, x.2.2.2.2.2.2.2.2.1, x.2.2.2.2.2.2.2.2.2.1, x.2.2.2.2.2.2.2.2.2.2.1, x.2.2.2.2.2.2.2.2.2.2.2.1, x.2.2.2.2.2.2.2.2.2.2.2.2.1, x.2.2.2.2.2.2.2.2.2.2.2.2.2.1, x.2.2.2.2.2.2.2.2.2.2.2.2.2.2.1, x.2.2.2.2.2.2.2.2.2.2.2.2.2.2.2) : gX) : gX) = x := by rw [gup_same G.gg]
  have g31 : ¬ x.2.1 31 = 0 := by rw [G.gg]; exact i_10
  have e31 : (((x.1, gup (gup x.2.1 31 0) 32 (Int32.ofNat (pos + 1)), x.2.2.1, x.2.2.2.1, x.2.2.2.2.1, x.2.2.2.2.2.1, x.2.2.2.2.2.2.1, x.2.2.2.2.2.2.2.1, x.2.2.2.2.2.2.2.2.1, x.2.2.2.2.2.2.2.2.2.1, x.2.2.2.2.2.2.2.2.2.2.1, x.2.2.2.2.2.2.2.2.2.2.2.1, x.2.2.2.2.2.2.2.2.2.2.2.2.1, x.2.2.2.2.2.2.2.2.2.2.2.2.2.1, x.2.2.2.2.2.2.2.2.2.2.2.2.2.2.1, x.2.2.2.2.2.2.2.2.2.2.2.2.2.2.2) : gX) : gX).2.1 31 = 0 := rfl
  refine ⟨((x.1, gup (gup (gup (gup x.2.1 31 0) 32 (Int32.ofNat (pos + 1))) 35 0) 36 0, x.2.2.1, x.2.2.2.1, x.2.2.2.2.1, x.2.2.2.2.2.1, x.2.2.2.2.2.2.1, x.2.2.2.2.2.2.2.1, x.2.2.2.2.2.2.2.2.1, x.2.2.2.2.2.2.2.2.2.1, x.2.2.2.2.2.2.2.2.2.2.1, x.2.2.2.2.2.2.2.2.2.2.2.1, x.2.2.2.2.2.2.2.2.2.2.2.2.1, x.2.2.2.2.2.2.2.2.2.2.2.2.2.1, x.2.2.2.2.2.2.2.2.2.2.2.2.2.2.1, x.2.2.2.2.2.2.2.2.2.2.2.2.2.2.2) : gX), rfl, ⟨fun _ _ => rfl, fun i hi => ?_, rfl, rfl, rfl, rfl⟩, fun y o z => ?_⟩
  · show gup (gup (gup (gup x.2.1 31 0) 32 (Int32.ofNat (pos + 1))) 35 0) 36 0 i = _
    rw [gup_ne (by omega), gup_ne (by omega), gup_ne (by omega), gup_ne (by omega)]
  · have hx : gv_pV (gH y x o z) (some 188) 7 31 (.int 1) = some (gH y x o z) := by
      rw [hp_188_31]
      exact congrArg (fun w => some (gH y w o z)) s31
    rw [mM_takeValue, hi_188_31, Option.bind_some, if_neg g31, hi_188_18, Option.bind_some, h18, n_succ, if_neg l, mM_takeValue_24, if_neg (fun k => k (Or.inr rfl)), hx, Option.bind_some, ho_188, Option.bind_some, r_nx0 G p, Option.bind_some, hi_188_31, Option.bind_some, if_pos e31]
    exact r_got44 (x := ((x.1, gup (gup x.2.1 31 0) 32 (Int32.ofNat (pos + 1)), x.2.2.1, x.2.2.2.1, x.2.2.2.2.1, x.2.2.2.2.2.1, x.2.2.2.2.2.2.1, x.2.2.2.2.2.2.2.1, x.2.2.2.2.2.2.2.2.1, x.2.2.2.2.2.2.2.2.2.1, x.2.2.2.2.2.2.2.2.2.2.1, x.2.2.2.2.2.2.2.2.2.2.2.1, x.2.2.2.2.2.2.2.2.2.2.2.2.1, x.2.2.2.2.2.2.2.2.2.2.2.2.2.1, x.2.2.2.2.2.2.2.2.2.2.2.2.2.2.1, x.2.2.2.2.2.2.2.2.2.2.2.2.2.2.2) : gX)) y o z
theorem r_tvDeep (h18 : x.2.1 18 = Int32.ofNat 12) (hg : x.2.1 31 = 1) : ∃ x', x'.2.1 31 = 0 ∧ gXd N x x' ∧ ∀ y o z, mM_takeValue (some 188) (gH y x o z) = some (1, gH y x' o z) := by
  have l : (12 : Int32) < Int32.ofNat (12 + 1) := by decide
  have g31 : ¬ x.2.1 31 = 0 := by rw [hg]; exact i_10
  have e31 : (((x.1, gup x.2.1 31 0, x.2.2.1, x.2.2.2.1, x.2.2.2.2.1, x.2.2.2.2.2.1, x.2.2.2.2.2.2.1, x.2.2.2.2.2.2.2.1, x.2.2.2.2.2.2.2.2.1, x.2.2.2.2.2.2.2.2.2.1, x.2.2.2.2.2.2.2.2.2.2.1, x.2.2.2.2.2.2.2.2.2.2.2.1, x.2.2.2.2.2.2.2.2.2.2.2.2.1, x.2.2.2.2.2.2.2.2.2.2.2.2.2.1, x.2.2.2.2.2.2.2.2.2.2.2.2.2.2.1, x.2.2.2.2.2.2.2.2.2.2.2.2.2.2.2) : gX) : gX).2.1 31 = 0 := rfl
  obtain ⟨s, s1, s2, s3⟩ := r_nxDead e31
  have s31 : (((x.1, s, x.2.2.1, x.2.2.2.1, x.2.2.2.2.1, x.2.2.2.2.2.1, x.2.2.2.2.2.2.1, x.2.2.2.2.2.2.2.1, x.2.2.2.2.2.2.2.2.1, x.2.2.2.2.2.2.2.2.2.1, x.2.2.2.2.2.2.2.2.2.2.1, x.2.2.2.2.2.2.2.2.2.2.2.1, x.2.2.2.2.2.2.2.2.2.2.2.2.1, x.2.2.2.2.2.2.2.2.2.2.2.2.2.1, x.2.2.2.2.2.2.2.2.2.2.2.2.2.2.1, x.2.2.2.2.2.2.2.2.2.2.2.2.2.2.2) : gX) : gX).2.1 31 = 0 := s1
  refine ⟨((x.1, gup (gup s 35 0) 36 0, x.2.2.1, x.2.2.2.1, x.2.2.2.2.1, x.2.2.2.2.2.1, x.2.2.2.2.2.2.1, x.2.2.2.2.2.2.2.1, x.2.2.2.2.2.2.2.2.1, x.2.2.2.2.2.2.2.2.2.1, x.2.2.2.2.2.2.2.2.2.2.1, x.2.2.2.2.2.2.2.2.2.2.2.1, x.2.2.2.2.2.2.2.2.2.2.2.2.1, x.2.2.2.2.2.2.2.2.2.2.2.2.2.1, x.2.2.2.2.2.2.2.2.2.2.2.2.2.2.1, x.2.2.2.2.2.2.2.2.2.2.2.2.2.2.2) : gX), s1, ⟨fun _ _ => rfl, fun i hi => ?_, rfl, rfl, rfl, rfl⟩, fun y o z => ?_⟩
  · show gup (gup s 35 0) 36 0 i = _
    rw [gup_ne (by omega), gup_ne (by omega), s2 i (by omega)]
    show gup x.2.1 31 0 i = _
    rw [gup_ne (by omega)]
  · rw [mM_takeValue, hi_188_31, Option.bind_some, if_neg g31, hi_188_18, Option.bind_some, h18, n_succ, if_pos l, mM_takeValue_23, mM_takeValue_24, if_neg (fun k => k (Or.inl rfl)), hp_188_31, Option.bind_some, ho_188, Option.bind_some, s3, Option.bind_some, hi_188_31, Option.bind_some, if_pos s31]
    exact r_got44 (x := ((x.1, s, x.2.2.1, x.2.2.2.1, x.2.2.2.2.1, x.2.2.2.2.2.1, x.2.2.2.2.2.2.1, x.2.2.2.2.2.2.2.1, x.2.2.2.2.2.2.2.2.1, x.2.2.2.2.2.2.2.2.2.1, x.2.2.2.2.2.2.2.2.2.2.1, x.2.2.2.2.2.2.2.2.2.2.2.1, x.2.2.2.2.2.2.2.2.2.2.2.2.1, x.2.2.2.2.2.2.2.2.2.2.2.2.2.1, x.2.2.2.2.2.2.2.2.2.2.2.2.2.2.1, x.2.2.2.2.2.2.2.2.2.2.2.2.2.2.2) : gX)) y o z
theorem r_44none {t : Nat} (h : 14 < t) (ht : t < 256) : ∀ y o z, mM_takeValue_44 (some 188) (Int32.ofNat t) (Int32.ofNat t) (gH y x o z) = some (1, gH y ((x.1, gup x.2.1 31 0, x.2.2.1, x.2.2.2.1, x.2.2.2.2.1, x.2.2.2.2.2.1, x.2.2.2.2.2.2.1, x.2.2.2.2.2.2.2.1, x.2.2.2.2.2.2.2.2.1, x.2.2.2.2.2.2.2.2.2.1, x.2.2.2.2.2.2.2.2.2.2.1, x.2.2.2.2.2.2.2.2.2.2.2.1, x.2.2.2.2.2.2.2.2.2.2.2.2.1, x.2.2.2.2.2.2.2.2.2.2.2.2.2.1, x.2.2.2.2.2.2.2.2.2.2.2.2.2.2.1, x.2.2.2.2.2.2.2.2.2.2.2.2.2.2.2) : gX) o z) := by
  intro y o z
  have ne : ∀ k : Nat, k ≤ 14 → ¬ Int32.ofNat t = Int32.ofNat k := fun k hk e => by
    have := (n_eq (show t < 2 ^ 31 by omega) (by omega)).mp e
    omega
  rw [mM_takeValue_44, if_neg (show ¬ Int32.ofNat t = 0 from ne 0 (by omega)), if_neg (show ¬ Int32.ofNat t = 1 from ne 1 (by omega)), if_neg (show ¬ Int32.ofNat t = 2 from ne 2 (by omega)), if_neg (show ¬ Int32.ofNat t = 3 from ne 3 (by omega)), if_neg (show ¬ Int32.ofNat t = 4 from ne 4 (by omega)), if_neg (show ¬ Int32.ofNat t = 5 from ne 5 (by omega)), if_neg (show ¬ Int32.ofNat t = 6 from ne 6 (by omega)), if_neg (show ¬ Int32.ofNat t = 7 from ne 7 (by omega)), if_neg (show ¬ Int32.ofNat t = 8 from ne 8 (by omega)), if_neg (show ¬ Int32.ofNat t = 9 from ne 9 (by omega)), if_neg (show ¬ Int32.ofNat t = 10 from ne 10 (by omega)), if_neg (show ¬ Int32.ofNat t = 11 from ne 11 (by omega)), if_neg (show ¬ Int32.ofNat t = 12 from ne 12 (by omega)), if_neg (show ¬ Int32.ofNat t = 13 from ne 13 (by omega)), if_neg (show ¬ Int32.ofNat t = 14 from ne 14 (by omega)), hp_188_31, Option.bind_some]
theorem p_int2 (D : gD n0 f q m N pos u x) : gPr n0 f q m N u x (fun h => (cR_nextInt (some 187) (some 163) h).bind fun r11 => (gv_is r11.2 (some 187) 6).bind fun _ => cR_settle (some 187) 4 r11.1 r11.2) (fun h => (mM_lengthy (some 188) 32 h).bind fun r21 => (mM_plain r21.1).bind fun v22 => (gv_is r21.2 (some 188) 7).bind fun _ => mM_got (some 188) 4 (Int64.toInt32 v22) r21.2) := by
  rcases d_int D with ⟨a, b, r, s, pos', k1, k2, rfl, k4, k5, k6, k7⟩ | ⟨a, b, r, s, k1, k2, k3, k4, k5⟩
  · refine Or.inl ⟨pos', gup (gup r 2 4) 3 (Int64.toInt32 (gzz b)), gup (gup s 35 4) 36 (Int64.toInt32 (gzz b)), fun y o z => ?_, fun y o z => ?_, d_set k4, fun i hi => ?_, rfl, rfl, ⟨4, by omega, rfl, rfl, fun e => by omega⟩⟩
    · simp only [k1, Option.bind_some, ho_187, k_settle]
    · simp only [k2, Option.bind_some, m_plain, ho_188, r_got]
    · rw [gup_ne (by omega), gup_ne (by omega)]; exact k5 i hi
  · refine Or.inr ⟨gup (gup r 2 4) 3 a, gup (gup s 35 4) 36 (Int64.toInt32 (gzz b)), fun y o z => ?_, fun y o z => ?_, k3, k4, fun i hi => ?_⟩
    · simp only [k1, Option.bind_some, ho_187, k_settle]
    · simp only [k2, Option.bind_some, m_plain, ho_188, r_got]
    · rw [gup_ne (by omega), gup_ne (by omega)]; exact k5 i hi
theorem p_text2 (D : gD n0 f q m N pos u x) : gPr n0 f q m N u x (cR_readText (some 187) (some 163)) (fun h => (mM_text (some 188) h).bind fun r => (gv_is r.2 (some 188) 7).bind fun _ => mM_got (some 188) 5 r.1 r.2) := by
  rcases d_text D with ⟨v, pos', r, s, k0, k1, k2, r0, r1, r2, r3, r4, r5, r6, s1, s2, s3, ks⟩ | ⟨v, r, s, k1, k2, r1, s1, ks⟩
  · refine Or.inl ⟨pos', r, gup (gup s 35 5) 36 v, k1, fun y o z => ?_, gD_r D r1 r0 k0 r4 r5 r6 s1 s2 s3 (fun i hi => ?_), fun i hi => ?_, r2.symm, r3.symm, ⟨5, by omega, r2, by rw [r2]; rfl, fun e => by omega⟩⟩
    · simp only [k2, Option.bind_some, ho_188, r_got]
    · rw [gup_ne (by omega), gup_ne (by omega)]; exact ks i hi
    · rw [gup_ne (by omega), gup_ne (by omega)]; exact ks i hi
  · refine Or.inr ⟨r, gup (gup s 35 5) 36 v, k1, fun y o z => ?_, r1, s1, fun i hi => ?_⟩
    · simp only [k2, Option.bind_some, ho_188, r_got]
    · rw [gup_ne (by omega), gup_ne (by omega)]; exact ks i hi
theorem p_low {t : Nat} (ht : t < 4) (D : gD n0 f q m N pos u x) : gPr n0 f q m N u x (cR_settle (some 187) (Int32.ofNat t) 0) (mM_got (some 188) (Int32.ofNat t) 0) := by
  refine Or.inl ⟨pos, gup (gup u.2.2.2.2.2.2.2.2.2.2.2.2.1 2 (Int32.ofNat t)) 3 0, gup (gup x.2.1 35 (Int32.ofNat t)) 36 0, k_settle, r_got, d_set D, fun i hi => ?_, rfl, rfl, ⟨t, by omega, rfl, ?_, fun e => by omega⟩⟩
  · rw [gup_ne (by omega), gup_ne (by omega)]
  · obtain rfl | rfl | rfl | rfl : t = 0 ∨ t = 1 ∨ t = 2 ∨ t = 3 := by omega
    all_goals rfl
/-- a value that takes one turn -/
theorem gVal_ob2 {D : Nat} {u0 : gU} {x0 : gX} {A M F : gx_H → Option gx_H} (h : gOb2 n0 f q m D N u x A M) (hg0 : x0.2.1 31 = 1) (hx0 : gXf N D x0 x) (hu0 : gUf N u0 u) (tv : ∀ y o z, mM_takeValue (some 188) (gH y x0 o z) = (M (gH y x o z)).bind fun h => some (1, h)) (hF : ∀ y o z, F (gH u0 y o z) = A (gH u y o z)) : gVal n0 f q m D 2 N 1 u0 x0 F := by
  obtain ⟨u', k1, k2, k3⟩ := h
  refine ⟨u', fun y o z => (hF y o z).trans (k1 y o z), gUf_trans hu0 k2 (Nat.le_refl _), ?_⟩
  rcases k3 with ⟨x', l1, N', pos', l2, l3, l4, l5⟩ | ⟨l0, x', l1, l2, l3⟩
  · refine Or.inl ⟨x', gRT_mono (gRT_val hg0 (fun y o z => ?_)) (by omega), N', pos', l2, l3, gXf_trans hx0 l4 (Nat.le_refl _) (Nat.le_refl _), l5⟩
    rw [tv, l1, Option.bind_some]
  · refine Or.inr ⟨l0, x', gRF_val (t := 1) hg0 (fun y o z => ?_) l2, gXd_trans hx0.fd l3 (Nat.le_refl _)⟩
    rw [tv, l1, Option.bind_some]
end H
