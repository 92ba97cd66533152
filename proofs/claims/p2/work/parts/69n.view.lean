/-! read: views -/
/-- what the class does behind the viewed value -/
def cvr (un fr co : Int32) (h15 : gx_H) : Option gx_H :=
  (gv_gI h15 (some 187) 6 1).bind fun v16 =>
  if v16 = 0 then (
    (gv_gI h15 (some 187) 6 3).bind fun v18 =>
    (gv_is h15 (some 1) 1).bind fun _ =>
    (cS_thingAt (some 1) v18 h15).bind fun v20 =>
    (gv_gI h15 (some 187) 6 2).bind fun v21 =>
    if v21 = (6 : Int32) then (
      if v20 = none then (
        (gv_pV h15 (some 187) 6 1 (.int (1 : Int32))).bind fun h24 =>
        some h24) else
      (gv_is h15 v20 2).bind fun _ =>
      (cT_canBeViewed v20 un fr co h15).bind fun v26 =>
      if v26 = 0 then (
        (gv_pV h15 (some 187) 6 1 (.int (1 : Int32))).bind fun h28 =>
        some h28) else
      (gv_is h15 (some 187) 6).bind fun _ =>
      (cR_beginThing (some 187) (some 1) (5 : Int32) h15).bind fun r32 =>
      if r32.1 = none then (
        some r32.2) else
      (gv_is r32.2 r32.1 2).bind fun _ =>
      (cT_lookAt r32.1 v18 un fr co r32.2).bind fun h36 =>
      (gv_gI h36 (some 1) 1 1).bind fun v37 =>
      (gv_is h36 (some 187) 6).bind fun _ =>
      (cR_settle (some 187) (6 : Int32) (v37 - (1 : Int32)) h36).bind fun h40 =>
      some h40) else
    (gv_pV h15 (some 187) 6 1 (.int (1 : Int32))).bind fun h41 =>
    some h41) else
  some h15
/-- the state with a view's three bytes -/
def xv (x : gX) (D p : Nat) (a b c : Int32) : gX := ((x.1, gup x.2.1 32 (Int32.ofNat p), x.2.2.1, x.2.2.2.1, x.2.2.2.2.1, x.2.2.2.2.2.1, x.2.2.2.2.2.2.1, x.2.2.2.2.2.2.2.1, x.2.2.2.2.2.2.2.2.1, x.2.2.2.2.2.2.2.2.2.1, gup x.2.2.2.2.2.2.2.2.2.2.1 D a, gup x.2.2.2.2.2.2.2.2.2.2.2.1 D b, gup x.2.2.2.2.2.2.2.2.2.2.2.2.1 D c, x.2.2.2.2.2.2.2.2.2.2.2.2.2.1, x.2.2.2.2.2.2.2.2.2.2.2.2.2.2.1, x.2.2.2.2.2.2.2.2.2.2.2.2.2.2.2) : gX)
section H
variable {n0 f q m N pos : Nat} {u : gU} {x : gX} {W : gWr}
theorem k_view3 {D : Nat} (G : gD n0 f q m N pos u x) (c : pos + 3 ≤ m) : ∀ y o z, cR_readView W (some 187) (some 1) (some 163) (Int32.ofNat (D + 1)) (gH u y o z) = (W (some 187) (some 1) (some 163) (Int32.ofNat (D + 2)) (gH (su u (pos + 3)) y o z)).bind (cvr (u.2.2.2.2.1 pos) (u.2.2.2.2.1 (pos + 1)) (u.2.2.2.2.1 (pos + 2))) := by
  intro y o z
  have G1 : gD n0 f q m N (pos + 1) (su u (pos + 1)) (sx x (pos + 1)) := gD_s G (by omega)
  have G2 : gD n0 f q m N (pos + 2) (su u (pos + 2)) (sx x (pos + 2)) := gD_s G (by omega)
  have e1 : su (su u (pos + 1)) (pos + 1 + 1) = su u (pos + 2) := by
    show (((u.1, u.2.1, u.2.2.1, u.2.2.2.1, u.2.2.2.2.1, u.2.2.2.2.2.1, u.2.2.2.2.2.2.1, u.2.2.2.2.2.2.2.1, u.2.2.2.2.2.2.2.2.1, u.2.2.2.2.2.2.2.2.2.1, u.2.2.2.2.2.2.2.2.2.2.1, u.2.2.2.2.2.2.2.2.2.2.2.1, gup (gup u.2.2.2.2.2.2.2.2.2.2.2.2.1 0 (Int32.ofNat (pos + 1))) 0 (Int32.ofNat (pos + 2)), u.2.2.2.2.2.2.2.2.2.2.2.2.2.1, u.2.2.2.2.2.2.2.2.2.2.2.2.2.2) : gU) : gU) = _
    rw [gup_gup]; rfl
  have e2 : su (su u (pos + 2)) (pos + 2 + 1) = su u (pos + 3) := by
    show (((u.1, u.2.1, u.2.2.1, u.2.2.2.1, u.2.2.2.2.1, u.2.2.2.2.2.1, u.2.2.2.2.2.2.1, u.2.2.2.2.2.2.2.1, u.2.2.2.2.2.2.2.2.1, u.2.2.2.2.2.2.2.2.2.1, u.2.2.2.2.2.2.2.2.2.2.1, u.2.2.2.2.2.2.2.2.2.2.2.1, gup (gup u.2.2.2.2.2.2.2.2.2.2.2.2.1 0 (Int32.ofNat (pos + 2))) 0 (Int32.ofNat (pos + 3)), u.2.2.2.2.2.2.2.2.2.2.2.2.2.1, u.2.2.2.2.2.2.2.2.2.2.2.2.2.2) : gU) : gU) = _
    rw [gup_gup]; rfl
  rw [cR_readView, ho_187, Option.bind_some, k_nx G (by omega), Option.bind_some, ho_187, Option.bind_some, k_nx G1 (by omega), e1, Option.bind_some, ho_187, Option.bind_some, k_nx G2 (by omega), e2, Option.bind_some, ho_187, Option.bind_some, n_succ]
  rfl
theorem k_view0 {D : Nat} (dead : gDe W) (G : gD n0 f q m N pos u x) (c : ¬ pos + 3 ≤ m) : ∃ r, r 1 = 1 ∧ ∀ y o z, cR_readView W (some 187) (some 1) (some 163) (Int32.ofNat (D + 1)) (gH u y o z) = some (gH ((u.1, u.2.1, u.2.2.1, u.2.2.2.1, u.2.2.2.2.1, u.2.2.2.2.2.1, u.2.2.2.2.2.2.1, u.2.2.2.2.2.2.2.1, u.2.2.2.2.2.2.2.2.1, u.2.2.2.2.2.2.2.2.2.1, u.2.2.2.2.2.2.2.2.2.2.1, u.2.2.2.2.2.2.2.2.2.2.2.1, r, u.2.2.2.2.2.2.2.2.2.2.2.2.2.1, u.2.2.2.2.2.2.2.2.2.2.2.2.2.2) : gU) y o z) := by
  have tl : ∀ (r : Nat → Int32) (y : gX) (o : Nat → Int64) (z : gx_H) (a b c d : Int32), r 1 = 1 → (W (some 187) (some 1) (some 163) d (gH ((u.1, u.2.1, u.2.2.1, u.2.2.2.1, u.2.2.2.2.1, u.2.2.2.2.2.1, u.2.2.2.2.2.2.1, u.2.2.2.2.2.2.2.1, u.2.2.2.2.2.2.2.2.1, u.2.2.2.2.2.2.2.2.2.1, u.2.2.2.2.2.2.2.2.2.2.1, u.2.2.2.2.2.2.2.2.2.2.2.1, r, u.2.2.2.2.2.2.2.2.2.2.2.2.2.1, u.2.2.2.2.2.2.2.2.2.2.2.2.2.2) : gU) y o z)).bind (cvr a b c) = some (gH ((u.1, u.2.1, u.2.2.1, u.2.2.2.1, u.2.2.2.2.1, u.2.2.2.2.2.1, u.2.2.2.2.2.2.1, u.2.2.2.2.2.2.2.1, u.2.2.2.2.2.2.2.2.1, u.2.2.2.2.2.2.2.2.2.1, u.2.2.2.2.2.2.2.2.2.2.1, u.2.2.2.2.2.2.2.2.2.2.2.1, r, u.2.2.2.2.2.2.2.2.2.2.2.2.2.1, u.2.2.2.2.2.2.2.2.2.2.2.2.2.2) : gU) y o z) := by
    intro r y o z a b c d h
    rw [dead ((u.1, u.2.1, u.2.2.1, u.2.2.2.1, u.2.2.2.2.1, u.2.2.2.2.2.1, u.2.2.2.2.2.2.1, u.2.2.2.2.2.2.2.1, u.2.2.2.2.2.2.2.2.1, u.2.2.2.2.2.2.2.2.2.1, u.2.2.2.2.2.2.2.2.2.2.1, u.2.2.2.2.2.2.2.2.2.2.2.1, r, u.2.2.2.2.2.2.2.2.2.2.2.2.2.1, u.2.2.2.2.2.2.2.2.2.2.2.2.2.2) : gU) y o z d h, Option.bind_some, cvr, hi_187_1, Option.bind_some]
    exact if_neg (show ¬ r 1 = 0 by rw [h]; exact i_10)
  by_cases p1 : pos < m
  · have G1 : gD n0 f q m N (pos + 1) (su u (pos + 1)) (sx x (pos + 1)) := gD_s G (by omega)
    by_cases p2 : pos + 1 < m
    · have G2 : gD n0 f q m N (pos + 2) (su u (pos + 2)) (sx x (pos + 2)) := gD_s G (by omega)
      have e1 : su (su u (pos + 1)) (pos + 1 + 1) = su u (pos + 2) := by
        show (((u.1, u.2.1, u.2.2.1, u.2.2.2.1, u.2.2.2.2.1, u.2.2.2.2.2.1, u.2.2.2.2.2.2.1, u.2.2.2.2.2.2.2.1, u.2.2.2.2.2.2.2.2.1, u.2.2.2.2.2.2.2.2.2.1, u.2.2.2.2.2.2.2.2.2.2.1, u.2.2.2.2.2.2.2.2.2.2.2.1, gup (gup u.2.2.2.2.2.2.2.2.2.2.2.2.1 0 (Int32.ofNat (pos + 1))) 0 (Int32.ofNat (pos + 2)), u.2.2.2.2.2.2.2.2.2.2.2.2.2.1, u.2.2.2.2.2.2.2.2.2.2.2.2.2.2) : gU) : gU) = _
        rw [gup_gup]; rfl
      refine ⟨gup (gup u.2.2.2.2.2.2.2.2.2.2.2.2.1 0 (Int32.ofNat (pos + 2))) 1 1, rfl, fun y o z => ?_⟩
      rw [cR_readView, ho_187, Option.bind_some, k_nx G (by omega), Option.bind_some, ho_187, Option.bind_some, k_nx G1 (by omega), e1, Option.bind_some, ho_187, Option.bind_some, k_nx0 G2 (by omega), Option.bind_some, ho_187, Option.bind_some]
      exact tl _ y o z _ _ _ _ rfl
    · refine ⟨gup (gup u.2.2.2.2.2.2.2.2.2.2.2.2.1 0 (Int32.ofNat (pos + 1))) 1 1, rfl, fun y o z => ?_⟩
      rw [cR_readView, ho_187, Option.bind_some, k_nx G (by omega), Option.bind_some, ho_187, Option.bind_some, k_nx0 G1 (by omega), Option.bind_some, ho_187, Option.bind_some, k_byteDead (u := (((su u (pos + 1)).1, (su u (pos + 1)).2.1, (su u (pos + 1)).2.2.1, (su u (pos + 1)).2.2.2.1, (su u (pos + 1)).2.2.2.2.1, (su u (pos + 1)).2.2.2.2.2.1, (su u (pos + 1)).2.2.2.2.2.2.1, (su u (pos + 1)).2.2.2.2.2.2.2.1, (su u (pos + 1)).2.2.2.2.2.2.2.2.1, (su u (pos + 1)).2.2.2.2.2.2.2.2.2.1, (su u (pos + 1)).2.2.2.2.2.2.2.2.2.2.1, (su u (pos + 1)).2.2.2.2.2.2.2.2.2.2.2.1, gup (su u (pos + 1)).2.2.2.2.2.2.2.2.2.2.2.2.1 1 1, (su u (pos + 1)).2.2.2.2.2.2.2.2.2.2.2.2.2.1, (su u (pos + 1)).2.2.2.2.2.2.2.2.2.2.2.2.2.2) : gU)) rfl, Option.bind_some, ho_187, Option.bind_some]
      exact tl _ y o z _ _ _ _ rfl
  · refine ⟨gup u.2.2.2.2.2.2.2.2.2.2.2.2.1 1 1, rfl, fun y o z => ?_⟩
    rw [cR_readView, ho_187, Option.bind_some, k_nx0 G (by omega), Option.bind_some, ho_187, Option.bind_some, k_byteDead (u := ((u.1, u.2.1, u.2.2.1, u.2.2.2.1, u.2.2.2.2.1, u.2.2.2.2.2.1, u.2.2.2.2.2.2.1, u.2.2.2.2.2.2.2.1, u.2.2.2.2.2.2.2.2.1, u.2.2.2.2.2.2.2.2.2.1, u.2.2.2.2.2.2.2.2.2.2.1, u.2.2.2.2.2.2.2.2.2.2.2.1, gup u.2.2.2.2.2.2.2.2.2.2.2.2.1 1 1, u.2.2.2.2.2.2.2.2.2.2.2.2.2.1, u.2.2.2.2.2.2.2.2.2.2.2.2.2.2) : gU)) rfl, Option.bind_some, ho_187, Option.bind_some, k_byteDead (u := ((u.1, u.2.1, u.2.2.1, u.2.2.2.1, u.2.2.2.2.1, u.2.2.2.2.2.1, u.2.2.2.2.2.2.1, u.2.2.2.2.2.2.2.1, u.2.2.2.2.2.2.2.2.1, u.2.2.2.2.2.2.2.2.2.1, u.2.2.2.2.2.2.2.2.2.2.1, u.2.2.2.2.2.2.2.2.2.2.2.1, gup u.2.2.2.2.2.2.2.2.2.2.2.2.1 1 1, u.2.2.2.2.2.2.2.2.2.2.2.2.2.1, u.2.2.2.2.2.2.2.2.2.2.2.2.2.2) : gU)) rfl, Option.bind_some, ho_187, Option.bind_some]
    exact tl _ y o z _ _ _ _ rfl
/-- the reference's three bytes, whatever they are -/
theorem r_v3 {D : Nat} {v1 v2 v3 : Int32} {s1 s2 s3 : Nat → Int32} (hD : D < 14) (h18 : x.2.1 18 = Int32.ofNat D) (d1 : s1 18 = Int32.ofNat D) (d2 : s2 18 = Int32.ofNat D) (d3 : s3 18 = Int32.ofNat D) (h1 : ∀ y o z, mM_next (some 188) (gH y x o z) = some (v1, gH y ((x.1, s1, x.2.2.1, x.2.2.2.1, x.2.2.2.2.1, x.2.2.2.2.2.1, x.2.2.2.2.2.2.1, x.2.2.2.2.2.2.2.1, x.2.2.2.2.2.2.2.2.1, x.2.2.2.2.2.2.2.2.2.1, x.2.2.2.2.2.2.2.2.2.2.1, x.2.2.2.2.2.2.2.2.2.2.2.1, x.2.2.2.2.2.2.2.2.2.2.2.2.1, x.2.2.2.2.2.2.2.2.2.2.2.2.2.1, x.2.2.2.2.2.2.2.2.2.2.2.2.2.2.1, x.2.2.2.2.2.2.2.2.2.2.2.2.2.2.2) : gX) o z)) (h2 : ∀ y o z, mM_next (some 188) (gH y ((x.1, s1, x.2.2.1, x.2.2.2.1, x.2.2.2.2.1, x.2.2.2.2.2.1, x.2.2.2.2.2.2.1, x.2.2.2.2.2.2.2.1, x.2.2.2.2.2.2.2.2.1, x.2.2.2.2.2.2.2.2.2.1, gup x.2.2.2.2.2.2.2.2.2.2.1 D v1, x.2.2.2.2.2.2.2.2.2.2.2.1, x.2.2.2.2.2.2.2.2.2.2.2.2.1, x.2.2.2.2.2.2.2.2.2.2.2.2.2.1, x.2.2.2.2.2.2.2.2.2.2.2.2.2.2.1, x.2.2.2.2.2.2.2.2.2.2.2.2.2.2.2) : gX) o z) = some (v2, gH y ((x.1, s2, x.2.2.1, x.2.2.2.1, x.2.2.2.2.1, x.2.2.2.2.2.1, x.2.2.2.2.2.2.1, x.2.2.2.2.2.2.2.1, x.2.2.2.2.2.2.2.2.1, x.2.2.2.2.2.2.2.2.2.1, gup x.2.2.2.2.2.2.2.2.2.2.1 D v1, x.2.2.2.2.2.2.2.2.2.2.2.1, x.2.2.2.2.2.2.2.2.2.2.2.2.1, x.2.2.2.2.2.2.2.2.2.2.2.2.2.1, x.2.2.2.2.2.2.2.2.2.2.2.2.2.2.1, x.2.2.2.2.2.2.2.2.2.2.2.2.2.2.2) : gX) o z)) (h3 : ∀ y o z, mM_next (some 188) (gH y ((x.1, s2, x.2.2.1, x.2.2.2.1, x.2.2.2.2.1, x.2.2.2.2.2.1, x.2.2.2.2.2.2.1, x.2.2.2.2.2.2.2.1, x.2.2.2.2.2.2.2.2.1, x.2.2.2.2.2.2.2.2.2.1, gup x.2.2.2.2.2.2.2.2.2.2.1 D v1, gup x.2.2.2.2.2.2.2.2.2.2.2.1 D v2, x.2.2.2.2.2.2.2.2.2.2.2.2.1, x.2.2.2.2.2.2.2.2.2.2.2.2.2.1, x.2.2.2.2.2.2.2.2.2.2.2.2.2.2.1, x.2.2.2.2.2.2.2.2.2.2.2.2.2.2.2) : gX) o z) = some (v3, gH y ((x.1, s3, x.2.2.1, x.2.2.2.1, x.2.2.2.2.1, x.2.2.2.2.2.1, x.2.2.2.2.2.2.1, x.2.2.2.2.2.2.2.1, x.2.2.2.2.2.2.2.2.1, x.2.2.2.2.2.2.2.2.2.1, gup x.2.2.2.2.2.2.2.2.2.2.1 D v1, gup x.2.2.2.2.2.2.2.2.2.2.2.1 D v2, x.2.2.2.2.2.2.2.2.2.2.2.2.1, x.2.2.2.2.2.2.2.2.2.2.2.2.2.1, x.2.2.2.2.2.2.2.2.2.2.2.2.2.2.1, x.2.2.2.2.2.2.2.2.2.2.2.2.2.2.2) : gX) o z)) (t : Int32) : ∀ y o z, mM_takeValue_44 (some 188) t 13 (gH y x o z) = mM_takeValue_261 (some 188) (some 188) (if s3 31 = 0 then 0 else if v1 = 1 ∨ v1 = 2 ∨ v1 = 4 then 1 else 0) (gH y ((x.1, s3, x.2.2.1, x.2.2.2.1, x.2.2.2.2.1, x.2.2.2.2.2.1, x.2.2.2.2.2.2.1, x.2.2.2.2.2.2.2.1, x.2.2.2.2.2.2.2.2.1, x.2.2.2.2.2.2.2.2.2.1, gup x.2.2.2.2.2.2.2.2.2.2.1 D v1, gup x.2.2.2.2.2.2.2.2.2.2.2.1 D v2, gup x.2.2.2.2.2.2.2.2.2.2.2.2.1 D v3, x.2.2.2.2.2.2.2.2.2.2.2.2.2.1, x.2.2.2.2.2.2.2.2.2.2.2.2.2.2.1, x.2.2.2.2.2.2.2.2.2.2.2.2.2.2.2) : gX) o z) := by
  intro y o z
  have iu : mM_isUnit v1 = some (if v1 = 1 ∨ v1 = 2 ∨ v1 = 4 then 1 else 0) := by
    unfold mM_isUnit
    by_cases a : v1 = 1
    · rw [if_pos a, if_pos (Or.inl a)]
    · by_cases b : v1 = 2
      · rw [if_neg a, if_pos b, if_pos (Or.inr (Or.inl b))]
      · by_cases c : v1 = 4
        · rw [if_neg a, if_neg b, if_pos c, if_pos (Or.inr (Or.inr c))]
        · rw [if_neg a, if_neg b, if_neg c, if_neg (fun k => by rcases k with k | k | k; exact a k; exact b k; exact c k)]
  rw [mM_takeValue_44, if_neg (by decide), if_neg (by decide), if_neg (by decide), if_neg (by decide), if_neg (by decide), if_neg (by decide), if_neg (by decide), if_neg (by decide), if_neg (by decide), if_neg (by decide), if_neg (by decide), if_neg (by decide), if_neg (by decide), if_pos rfl]
  simp only [hr_188_23, Option.bind_some, hi_188_18, h18, ho_188, h1, hb_205 hD, hr_188_24, d1, h2, hb_206 hD, hr_188_25, d2, h3, hb_207 hD, hi_188_31, d3, ha_205 hD, gup_eq, iu, mM_takeValue_260]
  by_cases c : s3 31 = 0
  · rw [if_pos c, if_pos c]
  · rw [if_neg c, if_neg c]
    by_cases e : v1 = 1 ∨ v1 = 2 ∨ v1 = 4
    · rw [if_pos e, if_neg i_10]
    · rw [if_neg e, if_pos rfl]
theorem r_261 {D : Nat} {s : Int32} (hs : s = 0 ∨ s = 1) (hD : D < 14) (h18 : x.2.1 18 = Int32.ofNat D) : ∀ y o z, mM_takeValue_261 (some 188) (some 188) s (gH y x o z) = some (0, gH y (xp ((x.1, gup x.2.1 31 s, x.2.2.1, x.2.2.2.1, x.2.2.2.2.1, x.2.2.2.2.2.1, x.2.2.2.2.2.2.1, x.2.2.2.2.2.2.2.1, x.2.2.2.2.2.2.2.2.1, x.2.2.2.2.2.2.2.2.2.1, x.2.2.2.2.2.2.2.2.2.2.1, x.2.2.2.2.2.2.2.2.2.2.2.1, x.2.2.2.2.2.2.2.2.2.2.2.2.1, x.2.2.2.2.2.2.2.2.2.2.2.2.2.1, x.2.2.2.2.2.2.2.2.2.2.2.2.2.2.1, x.2.2.2.2.2.2.2.2.2.2.2.2.2.2.2) : gX) D (-1) 1) o z) := by
  intro y o z
  rw [mM_takeValue_261, if_neg (fun k => k hs), hp_188_31, Option.bind_some, ho_188, Option.bind_some, r_pushR (x := ((x.1, gup x.2.1 31 s, x.2.2.1, x.2.2.2.1, x.2.2.2.2.1, x.2.2.2.2.2.1, x.2.2.2.2.2.2.1, x.2.2.2.2.2.2.2.1, x.2.2.2.2.2.2.2.2.1, x.2.2.2.2.2.2.2.2.2.1, x.2.2.2.2.2.2.2.2.2.2.1, x.2.2.2.2.2.2.2.2.2.2.2.1, x.2.2.2.2.2.2.2.2.2.2.2.2.1, x.2.2.2.2.2.2.2.2.2.2.2.2.2.1, x.2.2.2.2.2.2.2.2.2.2.2.2.2.2.1, x.2.2.2.2.2.2.2.2.2.2.2.2.2.2.2) : gX)) h18 hD, Option.bind_some]
  rfl
theorem r_vw3 {D : Nat} (G : gD n0 f q m N pos u x) (c : pos + 3 ≤ m) (hD : D < 14) (h18 : x.2.1 18 = Int32.ofNat D) (t : Int32) : ∀ y o z, mM_takeValue_44 (some 188) t 13 (gH y x o z) = mM_takeValue_261 (some 188) (some 188) (if u.2.2.2.2.1 pos = 1 ∨ u.2.2.2.2.1 pos = 2 ∨ u.2.2.2.2.1 pos = 4 then 1 else 0) (gH y (xv x D (pos + 3) (u.2.2.2.2.1 pos) (u.2.2.2.2.1 (pos + 1)) (u.2.2.2.2.1 (pos + 2))) o z) := by
  intro y o z
  have G1 : gD n0 f q m N (pos + 1) (su u (pos + 1)) (((sx x (pos + 1)).1, (sx x (pos + 1)).2.1, (sx x (pos + 1)).2.2.1, (sx x (pos + 1)).2.2.2.1, (sx x (pos + 1)).2.2.2.2.1, (sx x (pos + 1)).2.2.2.2.2.1, (sx x (pos + 1)).2.2.2.2.2.2.1, (sx x (pos + 1)).2.2.2.2.2.2.2.1, (sx x (pos + 1)).2.2.2.2.2.2.2.2.1, (sx x (pos + 1)).2.2.2.2.2.2.2.2.2.1, gup x.2.2.2.2.2.2.2.2.2.2.1 D (u.2.2.2.2.1 pos), (sx x (pos + 1)).2.2.2.2.2.2.2.2.2.2.2.1, (sx x (pos + 1)).2.2.2.2.2.2.2.2.2.2.2.2.1, (sx x (pos + 1)).2.2.2.2.2.2.2.2.2.2.2.2.2.1, (sx x (pos + 1)).2.2.2.2.2.2.2.2.2.2.2.2.2.2.1, (sx x (pos + 1)).2.2.2.2.2.2.2.2.2.2.2.2.2.2.2) : gX) := gD_x (gD_s (p := pos + 1) G (by omega)) rfl rfl rfl rfl (fun _ _ _ => rfl) rfl (fun _ _ _ _ => rfl) rfl rfl
  have G2 : gD n0 f q m N (pos + 2) (su u (pos + 2)) (((sx x (pos + 2)).1, (sx x (pos + 2)).2.1, (sx x (pos + 2)).2.2.1, (sx x (pos + 2)).2.2.2.1, (sx x (pos + 2)).2.2.2.2.1, (sx x (pos + 2)).2.2.2.2.2.1, (sx x (pos + 2)).2.2.2.2.2.2.1, (sx x (pos + 2)).2.2.2.2.2.2.2.1, (sx x (pos + 2)).2.2.2.2.2.2.2.2.1, (sx x (pos + 2)).2.2.2.2.2.2.2.2.2.1, gup x.2.2.2.2.2.2.2.2.2.2.1 D (u.2.2.2.2.1 pos), gup x.2.2.2.2.2.2.2.2.2.2.2.1 D (u.2.2.2.2.1 (pos + 1)), (sx x (pos + 2)).2.2.2.2.2.2.2.2.2.2.2.2.1, (sx x (pos + 2)).2.2.2.2.2.2.2.2.2.2.2.2.2.1, (sx x (pos + 2)).2.2.2.2.2.2.2.2.2.2.2.2.2.2.1, (sx x (pos + 2)).2.2.2.2.2.2.2.2.2.2.2.2.2.2.2) : gX) := gD_x (gD_s (p := pos + 2) G (by omega)) rfl rfl rfl rfl (fun _ _ _ => rfl) rfl (fun _ _ _ _ => rfl) rfl rfl
  have h2 : ∀ y o z, mM_next (some 188) (gH y ((x.1, gup x.2.1 32 (Int32.ofNat (pos + 1)), x.2.2.1, x.2.2.2.1, x.2.2.2.2.1, x.2.2.2.2.2.1, x.2.2.2.2.2.2.1, x.2.2.2.2.2.2.2.1, x.2.2.2.2.2.2.2.2.1, x.2.2.2.2.2.2.2.2.2.1, gup x.2.2.2.2.2.2.2.2.2.2.1 D (u.2.2.2.2.1 pos), x.2.2.2.2.2.2.2.2.2.2.2.1, x.2.2.2.2.2.2.2.2.2.2.2.2.1, x.2.2.2.2.2.2.2.2.2.2.2.2.2.1, x.2.2.2.2.2.2.2.2.2.2.2.2.2.2.1, x.2.2.2.2.2.2.2.2.2.2.2.2.2.2.2) : gX) o z) = some (u.2.2.2.2.1 (pos + 1), gH y ((x.1, gup x.2.1 32 (Int32.ofNat (pos + 2)), x.2.2.1, x.2.2.2.1, x.2.2.2.2.1, x.2.2.2.2.2.1, x.2.2.2.2.2.2.1, x.2.2.2.2.2.2.2.1, x.2.2.2.2.2.2.2.2.1, x.2.2.2.2.2.2.2.2.2.1, gup x.2.2.2.2.2.2.2.2.2.2.1 D (u.2.2.2.2.1 pos), x.2.2.2.2.2.2.2.2.2.2.2.1, x.2.2.2.2.2.2.2.2.2.2.2.2.1, x.2.2.2.2.2.2.2.2.2.2.2.2.2.1, x.2.2.2.2.2.2.2.2.2.2.2.2.2.2.1, x.2.2.2.2.2.2.2.2.2.2.2.2.2.2.2) : gX) o z) := by
    intro y o z
    refine (r_nx G1 (by omega) y o z).trans ?_
    show some (u.2.2.2.2.1 (pos + 1), gH y ((x.1, gup (gup x.2.1 32 (Int32.ofNat (pos + 1))) 32 (Int32.ofNat (pos + 2)), x.2.2.1, x.2.2.2.1, x.2.2.2.2.1, x.2.2.2.2.2.1, x.2.2.2.2.2.2.1, x.2.2.2.2.2.2.2.1, x.2.2.2.2.2.2.2.2.1, x.2.2.2.2.2.2.2.2.2.1, gup x.2.2.2.2.2.2.2.2.2.2.1 D (u.2.2.2.2.1 pos), x.2.2.2.2.2.2.2.2.2.2.2.1, x.2.2.2.2.2.2.2.2.2.2.2.2.1, x.2.2.2.2.2.2.2.2.2.2.2.2.2.1, x.2.2.2.2.2.2.2.2.2.2.2.2.2.2.1, x.2.2.2.2.2.2.2.2.2.2.2.2.2.2.2) : gX) o z) = _
    rw [gup_gup]
  have h3 : ∀ y o z, mM_next (some 188) (gH y ((x.1, gup x.2.1 32 (Int32.ofNat (pos + 2)), x.2.2.1, x.2.2.2.1, x.2.2.2.2.1, x.2.2.2.2.2.1, x.2.2.2.2.2.2.1, x.2.2.2.2.2.2.2.1, x.2.2.2.2.2.2.2.2.1, x.2.2.2.2.2.2.2.2.2.1, gup x.2.2.2.2.2.2.2.2.2.2.1 D (u.2.2.2.2.1 pos), gup x.2.2.2.2.2.2.2.2.2.2.2.1 D (u.2.2.2.2.1 (pos + 1)), x.2.2.2.2.2.2.2.2.2.2.2.2.1, x.2.2.2.2.2.2.2.2.2.2.2.2.2.1, x.2.2.2.2.2.2.2.2.2.2.2.2.2.2.1, x.2.2.2.2.2.2.2.2.2.2.2.2.2.2.2) : gX) o z) = some (u.2.2.2.2.1 (pos + 2), gH y ((x.1, gup x.2.1 32 (Int32.ofNat (pos + 3)), x.2.2.1, x.2.2.2.1, x.2.2.2.2.1, x.2.2.2.2.2.1, x.2.2.2.2.2.2.1, x.2.2.2.2.2.2.2.1, x.2.2.2.2.2.2.2.2.1, x.2.2.2.2.2.2.2.2.2.1, gup x.2.2.2.2.2.2.2.2.2.2.1 D (u.2.2.2.2.1 pos), gup x.2.2.2.2.2.2.2.2.2.2.2.1 D (u.2.2.2.2.1 (pos + 1)), x.2.2.2.2.2.2.2.2.2.2.2.2.1, x.2.2.2.2.2.2.2.2.2.2.2.2.2.1, x.2.2.2.2.2.2.2.2.2.2.2.2.2.2.1, x.2.2.2.2.2.2.2.2.2.2.2.2.2.2.2) : gX) o z) := by
    intro y o z
    refine (r_nx G2 (by omega) y o z).trans ?_
    show some (u.2.2.2.2.1 (pos + 2), gH y ((x.1, gup (gup x.2.1 32 (Int32.ofNat (pos + 2))) 32 (Int32.ofNat (pos + 3)), x.2.2.1, x.2.2.2.1, x.2.2.2.2.1, x.2.2.2.2.2.1, x.2.2.2.2.2.2.1, x.2.2.2.2.2.2.2.1, x.2.2.2.2.2.2.2.2.1, x.2.2.2.2.2.2.2.2.2.1, gup x.2.2.2.2.2.2.2.2.2.2.1 D (u.2.2.2.2.1 pos), gup x.2.2.2.2.2.2.2.2.2.2.2.1 D (u.2.2.2.2.1 (pos + 1)), x.2.2.2.2.2.2.2.2.2.2.2.2.1, x.2.2.2.2.2.2.2.2.2.2.2.2.2.1, x.2.2.2.2.2.2.2.2.2.2.2.2.2.2.1, x.2.2.2.2.2.2.2.2.2.2.2.2.2.2.2) : gX) o z) = _
    rw [gup_gup]
  have g31 : ¬ gup x.2.1 32 (Int32.ofNat (pos + 3)) 31 = 0 := by rw [gup_ne (by omega), G.gg]; exact i_10
  refine (r_v3 hD h18 ((gup_ne (by omega)).trans h18) ((gup_ne (by omega)).trans h18) ((gup_ne (by omega)).trans h18) (r_nx G (by omega)) h2 h3 t y o z).trans ?_
  rw [if_neg g31]
  rfl
theorem r_vw0 {D : Nat} (G : gD n0 f q m N pos u x) (c : ¬ pos + 3 ≤ m) (hD : D < 14) (h18 : x.2.1 18 = Int32.ofNat D) (t : Int32) : ∃ x', x'.2.1 31 = 0 ∧ gXd N x x' ∧ ∀ y o z, mM_takeValue_44 (some 188) t 13 (gH y x o z) = some (0, gH y x' o z) := by
  have key : ∃ (v1 v2 v3 : Int32) (s1 s2 s3 : Nat → Int32), s3 31 = 0 ∧ gKs x.2.1 s1 ∧ gKs x.2.1 s2 ∧ gKs x.2.1 s3 ∧ (∀ y o z, mM_next (some 188) (gH y x o z) = some (v1, gH y ((x.1, s1, x.2.2.1, x.2.2.2.1, x.2.2.2.2.1, x.2.2.2.2.2.1, x.2.2.2.2.2.2.1, x.2.2.2.2.2.2.2.1, x.2.2.2.2.2.2.2.2.1, x.2.2.2.2.2.2.2.2.2.1, x.2.2.2.2.2.2.2.2.2.2.1, x.2.2.2.2.2.2.2.2.2.2.2.1, x.2.2.2.2.2.2.2.2.2.2.2.2.1, x.2.2.2.2.2.2.2.2.2.2.2.2.2.1, x.2.2.2.2.2.2.2.2.2.2.2.2.2.2.1, x.2.2.2.2.2.2.2.2.2.2.2.2.2.2.2) : gX) o z)) ∧ (∀ y o z, mM_next (some 188) (gH y ((x.1, s1, x.2.2.1, x.2.2.2.1, x.2.2.2.2.1, x.2.2.2.2.2.1, x.2.2.2.2.2.2.1, x.2.2.2.2.2.2.2.1, x.2.2.2.2.2.2.2.2.1, x.2.2.2.2.2.2.2.2.2.1, gup x.2.2.2.2.2.2.2.2.2.2.1 D v1, x.2.2.2.2.2.2.2.2.2.2.2.1, x.2.2.2.2.2.2.2.2.2.2.2.2.1, x.2.2.2.2.2.2.2.2.2.2.2.2.2.1, x.2.2.2.2.2.2.2.2.2.2.2.2.2.2.1, x.2.2.2.2.2.2.2.2.2.2.2.2.2.2.2) : gX) o z) = some (v2, gH y ((x.1, s2, x.2.2.1, x.2.2.2.1, x.2.2.2.2.1, x.2.2.2.2.2.1, x.2.2.2.2.2.2.1, x.2.2.2.2.2.2.2.1, x.2.2.2.2.2.2.2.2.1, x.2.2.2.2.2.2.2.2.2.1, gup x.2.2.2.2.2.2.2.2.2.2.1 D v1, x.2.2.2.2.2.2.2.2.2.2.2.1, x.2.2.2.2.2.2.2.2.2.2.2.2.1, x.2.2.2.2.2.2.2.2.2.2.2.2.2.1, x.2.2.2.2.2.2.2.2.2.2.2.2.2.2.1, x.2.2.2.2.2.2.2.2.2.2.2.2.2.2.2) : gX) o z)) ∧ (∀ y o z, mM_next (some 188) (gH y ((x.1, s2, x.2.2.1, x.2.2.2.1, x.2.2.2.2.1, x.2.2.2.2.2.1, x.2.2.2.2.2.2.1, x.2.2.2.2.2.2.2.1, x.2.2.2.2.2.2.2.2.1, x.2.2.2.2.2.2.2.2.2.1, gup x.2.2.2.2.2.2.2.2.2.2.1 D v1, gup x.2.2.2.2.2.2.2.2.2.2.2.1 D v2, x.2.2.2.2.2.2.2.2.2.2.2.2.1, x.2.2.2.2.2.2.2.2.2.2.2.2.2.1, x.2.2.2.2.2.2.2.2.2.2.2.2.2.2.1, x.2.2.2.2.2.2.2.2.2.2.2.2.2.2.2) : gX) o z) = some (v3, gH y ((x.1, s3, x.2.2.1, x.2.2.2.1, x.2.2.2.2.1, x.2.2.2.2.2.1, x.2.2.2.2.2.2.1, x.2.2.2.2.2.2.2.1, x.2.2.2.2.2.2.2.2.1, x.2.2.2.2.2.2.2.2.2.1, gup x.2.2.2.2.2.2.2.2.2.2.1 D v1, gup x.2.2.2.2.2.2.2.2.2.2.2.1 D v2, x.2.2.2.2.2.2.2.2.2.2.2.2.1, x.2.2.2.2.2.2.2.2.2.2.2.2.2.1, x.2.2.2.2.2.2.2.2.2.2.2.2.2.2.1, x.2.2.2.2.2.2.2.2.2.2.2.2.2.2.2) : gX) o z)) := by
    by_cases p1 : pos < m
    · have G1 : gD n0 f q m N (pos + 1) (su u (pos + 1)) (((sx x (pos + 1)).1, (sx x (pos + 1)).2.1, (sx x (pos + 1)).2.2.1, (sx x (pos + 1)).2.2.2.1, (sx x (pos + 1)).2.2.2.2.1, (sx x (pos + 1)).2.2.2.2.2.1, (sx x (pos + 1)).2.2.2.2.2.2.1, (sx x (pos + 1)).2.2.2.2.2.2.2.1, (sx x (pos + 1)).2.2.2.2.2.2.2.2.1, (sx x (pos + 1)).2.2.2.2.2.2.2.2.2.1, gup x.2.2.2.2.2.2.2.2.2.2.1 D (u.2.2.2.2.1 pos), (sx x (pos + 1)).2.2.2.2.2.2.2.2.2.2.2.1, (sx x (pos + 1)).2.2.2.2.2.2.2.2.2.2.2.2.1, (sx x (pos + 1)).2.2.2.2.2.2.2.2.2.2.2.2.2.1, (sx x (pos + 1)).2.2.2.2.2.2.2.2.2.2.2.2.2.2.1, (sx x (pos + 1)).2.2.2.2.2.2.2.2.2.2.2.2.2.2.2) : gX) := gD_x (gD_s (p := pos + 1) G (by omega)) rfl rfl rfl rfl (fun _ _ _ => rfl) rfl (fun _ _ _ _ => rfl) rfl rfl
      have ks1 : gKs x.2.1 (gup x.2.1 32 (Int32.ofNat (pos + 1))) := fun i hi => gup_ne (by omega)
      by_cases p2 : pos + 1 < m
      · have G2 : gD n0 f q m N (pos + 2) (su u (pos + 2)) (((sx x (pos + 2)).1, (sx x (pos + 2)).2.1, (sx x (pos + 2)).2.2.1, (sx x (pos + 2)).2.2.2.1, (sx x (pos + 2)).2.2.2.2.1, (sx x (pos + 2)).2.2.2.2.2.1, (sx x (pos + 2)).2.2.2.2.2.2.1, (sx x (pos + 2)).2.2.2.2.2.2.2.1, (sx x (pos + 2)).2.2.2.2.2.2.2.2.1, (sx x (pos + 2)).2.2.2.2.2.2.2.2.2.1, gup x.2.2.2.2.2.2.2.2.2.2.1 D (u.2.2.2.2.1 pos), gup x.2.2.2.2.2.2.2.2.2.2.2.1 D (u.2.2.2.2.1 (pos + 1)), (sx x (pos + 2)).2.2.2.2.2.2.2.2.2.2.2.2.1, (sx x (pos + 2)).2.2.2.2.2.2.2.2.2.2.2.2.2.1, (sx x (pos + 2)).2.2.2.2.2.2.2.2.2.2.2.2.2.2.1, (sx x (pos + 2)).2.2.2.2.2.2.2.2.2.2.2.2.2.2.2) : gX) := gD_x (gD_s (p := pos + 2) G (by omega)) rfl rfl rfl rfl (fun _ _ _ => rfl) rfl (fun _ _ _ _ => rfl) rfl rfl
        refine ⟨_, u.2.2.2.2.1 (pos + 1), _, _, gup x.2.1 32 (Int32.ofNat (pos + 2)), _, ?_, ks1, fun i hi => gup_ne (by omega), ?_, r_nx G p1, fun y o z => ?_, r_nx0 G2 (by omega)⟩
        · rfl
        · intro i hi
          show gup (gup (gup x.2.1 32 (Int32.ofNat (pos + 2))) 31 0) 32 (Int32.ofNat (pos + 2 + 1)) i = _
          rw [gup_ne (by omega), gup_ne (by omega), gup_ne (by omega)]
        · refine (r_nx G1 p2 y o z).trans ?_
          show some (u.2.2.2.2.1 (pos + 1), gH y ((x.1, gup (gup x.2.1 32 (Int32.ofNat (pos + 1))) 32 (Int32.ofNat (pos + 2)), x.2.2.1, x.2.2.2.1, x.2.2.2.2.1, x.2.2.2.2.2.1, x.2.2.2.2.2.2.1, x.2.2.2.2.2.2.2.1, x.2.2.2.2.2.2.2.2.1, x.2.2.2.2.2.2.2.2.2.1, gup x.2.2.2.2.2.2.2.2.2.2.1 D (u.2.2.2.2.1 pos), x.2.2.2.2.2.2.2.2.2.2.2.1, x.2.2.2.2.2.2.2.2.2.2.2.2.1, x.2.2.2.2.2.2.2.2.2.2.2.2.2.1, x.2.2.2.2.2.2.2.2.2.2.2.2.2.2.1, x.2.2.2.2.2.2.2.2.2.2.2.2.2.2.2) : gX) o z) = _
          rw [gup_gup]
      · have e2 := r_nx0 G1 p2
        have dd : (((x.1, gup (gup (gup x.2.1 32 (Int32.ofNat (pos + 1))) 31 0) 32 (Int32.ofNat (pos + 1 + 1)), x.2.2.1, x.2.2.2.1, x.2.2.2.2.1, x.2.2.2.2.2.1, x.2.2.2.2.2.2.1, x.2.2.2.2.2.2.2.1, x.2.2.2.2.2.2.2.2.1, x.2.2.2.2.2.2.2.2.2.1, gup x.2.2.2.2.2.2.2.2.2.2.1 D (u.2.2.2.2.1 pos), gup x.2.2.2.2.2.2.2.2.2.2.2.1 D 0, x.2.2.2.2.2.2.2.2.2.2.2.2.1, x.2.2.2.2.2.2.2.2.2.2.2.2.2.1, x.2.2.2.2.2.2.2.2.2.2.2.2.2.2.1, x.2.2.2.2.2.2.2.2.2.2.2.2.2.2.2) : gX) : gX).2.1 31 = 0 := rfl
        obtain ⟨s3, a1, a2, a3⟩ := r_nxDead dd
        have ks2 : gKs x.2.1 (gup (gup (gup x.2.1 32 (Int32.ofNat (pos + 1))) 31 0) 32 (Int32.ofNat (pos + 1 + 1))) := fun i hi => by rw [gup_ne (by omega), gup_ne (by omega), gup_ne (by omega)]
        exact ⟨_, _, _, _, _, s3, a1, ks1, ks2, gKs_trans ks2 a2, r_nx G p1, e2, a3⟩
    · have ks1 : gKs x.2.1 (gup (gup x.2.1 31 0) 32 (Int32.ofNat (pos + 1))) := fun i hi => by rw [gup_ne (by omega), gup_ne (by omega)]
      have dd : (((x.1, gup (gup x.2.1 31 0) 32 (Int32.ofNat (pos + 1)), x.2.2.1, x.2.2.2.1, x.2.2.2.2.1, x.2.2.2.2.2.1, x.2.2.2.2.2.2.1, x.2.2.2.2.2.2.2.1, x.2.2.2.2.2.2.2.2.1, x.2.2.2.2.2.2.2.2.2.1, gup x.2.2.2.2.2.2.2.2.2.2.1 D 0, x.2.2.2.2.2.2.2.2.2.2.2.1, x.2.2.2.2.2.2.2.2.2.2.2.2.1, x.2.2.2.2.2.2.2.2.2.2.2.2.2.1, x.2.2.2.2.2.2.2.2.2.2.2.2.2.2.1, x.2.2.2.2.2.2.2.2.2.2.2.2.2.2.2) : gX) : gX).2.1 31 = 0 := rfl
      obtain ⟨s2, a1, a2, a3⟩ := r_nxDead dd
      have dd2 : (((x.1, s2, x.2.2.1, x.2.2.2.1, x.2.2.2.2.1, x.2.2.2.2.2.1, x.2.2.2.2.2.2.1, x.2.2.2.2.2.2.2.1, x.2.2.2.2.2.2.2.2.1, x.2.2.2.2.2.2.2.2.2.1, gup x.2.2.2.2.2.2.2.2.2.2.1 D 0, gup x.2.2.2.2.2.2.2.2.2.2.2.1 D 0, x.2.2.2.2.2.2.2.2.2.2.2.2.1, x.2.2.2.2.2.2.2.2.2.2.2.2.2.1, x.2.2.2.2.2.2.2.2.2.2.2.2.2.2.1, x.2.2.2.2.2.2.2.2.2.2.2.2.2.2.2) : gX) : gX).2.1 31 = 0 := a1
      obtain ⟨s3, b1, b2, b3⟩ := r_nxDead dd2
      exact ⟨_, _, _, _, s2, s3, b1, ks1, gKs_trans ks1 a2, gKs_trans (gKs_trans ks1 a2) b2, r_nx0 G p1, a3, b3⟩
  obtain ⟨v1, v2, v3, s1, s2, s3, c0, c1, c2, c3, c4, c5, c6⟩ := key
  have h3 : s3 18 = Int32.ofNat D := (c3 18 (by omega)).trans h18
  refine ⟨xp ((x.1, gup s3 31 0, x.2.2.1, x.2.2.2.1, x.2.2.2.2.1, x.2.2.2.2.2.1, x.2.2.2.2.2.2.1, x.2.2.2.2.2.2.2.1, x.2.2.2.2.2.2.2.2.1, x.2.2.2.2.2.2.2.2.2.1, gup x.2.2.2.2.2.2.2.2.2.2.1 D v1, gup x.2.2.2.2.2.2.2.2.2.2.2.1 D v2, gup x.2.2.2.2.2.2.2.2.2.2.2.2.1 D v3, x.2.2.2.2.2.2.2.2.2.2.2.2.2.1, x.2.2.2.2.2.2.2.2.2.2.2.2.2.2.1, x.2.2.2.2.2.2.2.2.2.2.2.2.2.2.2) : gX) D (-1) 1, rfl, ⟨fun _ _ => rfl, fun i hi => ?_, rfl, rfl, rfl, rfl⟩, fun y o z => ?_⟩
  · show gup (gup s3 31 0) 18 (Int32.ofNat (D + 1)) i = _
    rw [gup_ne (by omega), gup_ne (by omega)]
    exact c3 i (by omega)
  · rw [r_v3 hD h18 ((c1 18 (by omega)).trans h18) ((c2 18 (by omega)).trans h18) h3 c4 c5 c6 t, if_pos c0]
    exact r_261 (x := ((x.1, s3, x.2.2.1, x.2.2.2.1, x.2.2.2.2.1, x.2.2.2.2.2.1, x.2.2.2.2.2.2.1, x.2.2.2.2.2.2.2.1, x.2.2.2.2.2.2.2.2.1, x.2.2.2.2.2.2.2.2.2.1, gup x.2.2.2.2.2.2.2.2.2.2.1 D v1, gup x.2.2.2.2.2.2.2.2.2.2.2.1 D v2, gup x.2.2.2.2.2.2.2.2.2.2.2.2.1 D v3, x.2.2.2.2.2.2.2.2.2.2.2.2.2.1, x.2.2.2.2.2.2.2.2.2.2.2.2.2.2.1, x.2.2.2.2.2.2.2.2.2.2.2.2.2.2.2) : gX)) (Or.inl rfl) hD h3 y o z
/-- the pile's top is a view's -/
def gPv (D : Nat) (i : Int32) (x : gX) : Prop := x.2.1 18 = Int32.ofNat (D + 1) ∧ x.2.2.2.2.2.2.1 D = -1 ∧ x.2.2.2.2.2.2.2.1 D = i ∧ x.2.2.2.2.2.2.2.2.1 D = 1
theorem r_goV1 {D : Nat} (P : gPv D 0 x) (hD : D < 14) : ∀ y o z, mM_goesOn (some 188) (gH y x o z) = some (1, gH y x o z) := by
  intro y o z
  obtain ⟨p1, p2, p3, p4⟩ := P
  rw [mM_goesOn, hi_188_18, Option.bind_some, p1, n_pred, hr_188_19, Option.bind_some, ha_201 hD, Option.bind_some, p2, if_pos (by decide), mM_goesOn_28, if_neg (by decide), hr_188_20, Option.bind_some, ha_202 hD, Option.bind_some, hr_188_21, Option.bind_some, ha_203 hD, Option.bind_some, p3, p4, if_neg (by decide), if_neg (by decide)]
theorem r_goV2 {D : Nat} (P : gPv D 1 x) (hD : D < 14) : ∀ y o z, mM_goesOn (some 188) (gH y x o z) = (mM_finish (some 188) (-1) (gH y x o z)).bind fun h => some (2, h) := by
  intro y o z
  obtain ⟨p1, p2, p3, p4⟩ := P
  rw [mM_goesOn, hi_188_18, Option.bind_some, p1, n_pred, hr_188_19, Option.bind_some, ha_201 hD, Option.bind_some, p2, if_pos (by decide), mM_goesOn_28, if_neg (by decide), hr_188_20, Option.bind_some, ha_202 hD, Option.bind_some, hr_188_21, Option.bind_some, ha_203 hD, Option.bind_some, p3, p4, if_pos rfl, ho_188, Option.bind_some]
theorem r_dlV {D : Nat} (P : gPv D 0 x) (hD : D < 14) : ∀ y o z, mM_deliver (some 188) (gH y x o z) = some (gH y ((x.1, x.2.1, x.2.2.1, x.2.2.2.1, x.2.2.2.2.1, x.2.2.2.2.2.1, x.2.2.2.2.2.2.1, gup x.2.2.2.2.2.2.2.1 D 1, x.2.2.2.2.2.2.2.2.1, x.2.2.2.2.2.2.2.2.2.1, x.2.2.2.2.2.2.2.2.2.2.1, x.2.2.2.2.2.2.2.2.2.2.2.1, x.2.2.2.2.2.2.2.2.2.2.2.2.1, x.2.2.2.2.2.2.2.2.2.2.2.2.2.1, x.2.2.2.2.2.2.2.2.2.2.2.2.2.2.1, x.2.2.2.2.2.2.2.2.2.2.2.2.2.2.2) : gX) o z) := by
  intro y o z
  obtain ⟨p1, p2, p3, p4⟩ := P
  rw [mM_deliver, hi_188_18, Option.bind_some, p1, n_pred, hr_188_19, Option.bind_some, ha_201 hD, Option.bind_some, p2, if_pos (by decide), mM_deliver_28, hr_188_20, Option.bind_some, ha_202 hD, Option.bind_some, Option.bind_some, ha_202 hD, Option.bind_some, hb_202 hD, Option.bind_some, if_neg (by decide), if_neg (by decide), if_neg (by decide), if_neg (by decide), mM_deliver_273, if_neg (by decide), p3]
  rfl
theorem r_97 {v : Int32} : ∃ x', x'.2.1 31 = 0 ∧ gXd N x x' ∧ ∀ y o z, mM_finish_97 (some 188) v (some 188) (gH y x o z) = some (gH y x' o z) := by
  have e31 : (((x.1, gup x.2.1 31 0, x.2.2.1, x.2.2.2.1, x.2.2.2.2.1, x.2.2.2.2.2.1, x.2.2.2.2.2.2.1, x.2.2.2.2.2.2.2.1, x.2.2.2.2.2.2.2.2.1, x.2.2.2.2.2.2.2.2.2.1, x.2.2.2.2.2.2.2.2.2.2.1, x.2.2.2.2.2.2.2.2.2.2.2.1, x.2.2.2.2.2.2.2.2.2.2.2.2.1, x.2.2.2.2.2.2.2.2.2.2.2.2.2.1, x.2.2.2.2.2.2.2.2.2.2.2.2.2.2.1, x.2.2.2.2.2.2.2.2.2.2.2.2.2.2.2) : gX) : gX).2.1 31 = 0 := rfl
  have f31 : (((x.1, gup (gup x.2.1 31 0) 31 0, x.2.2.1, x.2.2.2.1, x.2.2.2.2.1, x.2.2.2.2.2.1, x.2.2.2.2.2.2.1, x.2.2.2.2.2.2.2.1, x.2.2.2.2.2.2.2.2.1, x.2.2.2.2.2.2.2.2.2.1, x.2.2.2.2.2.2.2.2.2.2.1, x.2.2.2.2.2.2.2.2.2.2.2.1, x.2.2.2.2.2.2.2.2.2.2.2.2.1, x.2.2.2.2.2.2.2.2.2.2.2.2.2.1, x.2.2.2.2.2.2.2.2.2.2.2.2.2.2.1, x.2.2.2.2.2.2.2.2.2.2.2.2.2.2.2) : gX) : gX).2.1 31 = 0 := rfl
  refine ⟨((x.1, gup (gup (gup (gup x.2.1 31 0) 31 0) 35 6) 36 31, x.2.2.1, x.2.2.2.1, x.2.2.2.2.1, x.2.2.2.2.2.1, x.2.2.2.2.2.2.1, x.2.2.2.2.2.2.2.1, x.2.2.2.2.2.2.2.2.1, x.2.2.2.2.2.2.2.2.2.1, x.2.2.2.2.2.2.2.2.2.2.1, x.2.2.2.2.2.2.2.2.2.2.2.1, x.2.2.2.2.2.2.2.2.2.2.2.2.1, x.2.2.2.2.2.2.2.2.2.2.2.2.2.1, x.2.2.2.2.2.2.2.2.2.2.2.2.2.2.1, x.2.2.2.2.2.2.2.2.2.2.2.2.2.2.2) : gX), rfl, ⟨fun _ _ => rfl, fun i hi => ?_, rfl, rfl, rfl, rfl⟩, fun y o z => ?_⟩
  · show gup (gup (gup (gup x.2.1 31 0) 31 0) 35 6) 36 31 i = _
    rw [gup_ne (by omega), gup_ne (by omega), gup_ne (by omega), gup_ne (by omega)]
  · rw [mM_finish_97, mM_finish_98, if_neg (fun k => k (Or.inl rfl)), hp_188_31, Option.bind_some, ho_188, Option.bind_some, r_noD (x := ((x.1, gup x.2.1 31 0, x.2.2.1, x.2.2.2.1, x.2.2.2.2.1, x.2.2.2.2.2.1, x.2.2.2.2.2.2.1, x.2.2.2.2.2.2.2.1, x.2.2.2.2.2.2.2.2.1, x.2.2.2.2.2.2.2.2.2.1, x.2.2.2.2.2.2.2.2.2.2.1, x.2.2.2.2.2.2.2.2.2.2.2.1, x.2.2.2.2.2.2.2.2.2.2.2.2.1, x.2.2.2.2.2.2.2.2.2.2.2.2.2.1, x.2.2.2.2.2.2.2.2.2.2.2.2.2.2.1, x.2.2.2.2.2.2.2.2.2.2.2.2.2.2.2) : gX)) e31, Option.bind_some, hi_188_31, Option.bind_some, if_pos f31, mM_finish_147, ho_188, Option.bind_some, r_en0 (x := ((x.1, gup (gup x.2.1 31 0) 31 0, x.2.2.1, x.2.2.2.1, x.2.2.2.2.1, x.2.2.2.2.2.1, x.2.2.2.2.2.2.1, x.2.2.2.2.2.2.2.1, x.2.2.2.2.2.2.2.2.1, x.2.2.2.2.2.2.2.2.2.1, x.2.2.2.2.2.2.2.2.2.2.1, x.2.2.2.2.2.2.2.2.2.2.2.1, x.2.2.2.2.2.2.2.2.2.2.2.2.1, x.2.2.2.2.2.2.2.2.2.2.2.2.2.1, x.2.2.2.2.2.2.2.2.2.2.2.2.2.2.1, x.2.2.2.2.2.2.2.2.2.2.2.2.2.2.2) : gX)) f31, Option.bind_some, ho_188, Option.bind_some, r_got, Option.bind_some]
/-- what the reference holds against a view -/
def gNo (x : gX) (un fr co : Int32) : Prop := ¬ x.2.1 35 = 6 ∨ (x.2.1 35 = 6 ∧ ∃ k, k < 32 ∧ x.2.1 36 = Int32.ofNat k ∧ (¬ (x.1 k).2.2.2.2.1 = 4 ∨ ((x.1 k).2.2.2.2.1 = 4 ∧ mM_lies un fr co (x.1 k).2.2.2.2.2.1 = some 0)))
def gYes (x : gX) (un fr co : Int32) (k : Nat) : Prop := x.2.1 35 = 6 ∧ k < 32 ∧ x.2.1 36 = Int32.ofNat k ∧ (x.1 k).2.2.2.2.1 = 4 ∧ mM_lies un fr co (x.1 k).2.2.2.2.2.1 = some 1
theorem r_finTop {D : Nat} (h18 : x.2.1 18 = Int32.ofNat (D + 1)) (hg : x.2.1 31 = 1) : ∀ y o z, mM_finish (some 188) (-1) (gH y x o z) = (fun h2 => if x.2.1 35 = 6 then ((gv_gR h2 (some 188) 7 2).bind fun v9 => (gv_lI h2 v9 (x.2.1 36)).bind fun v10 => if v10 = (4 : Int32) then ((gv_gR h2 (some 188) 7 23).bind fun v12 => (gv_gI h2 (some 188) 7 18).bind fun v13 => (gv_lI h2 v12 v13).bind fun v14 => (gv_gR h2 (some 188) 7 24).bind fun v15 => (gv_gI h2 (some 188) 7 18).bind fun v16 => (gv_lI h2 v15 v16).bind fun v17 => (gv_gR h2 (some 188) 7 25).bind fun v18 => (gv_gI h2 (some 188) 7 18).bind fun v19 => (gv_lI h2 v18 v19).bind fun v20 => (gv_gR h2 (some 188) 7 3).bind fun v21 => (gv_lI h2 v21 (x.2.1 36)).bind fun v22 => (mM_lies v14 v17 v20 v22).bind fun v23 => if v23 = 0 then mM_finish_97 (some 188) (x.2.1 36) (some 188) h2 else mM_finish_98 (some 188) (x.2.1 36) (some 188) (1 : Int32) h2) else mM_finish_97 (some 188) (x.2.1 36) (some 188) h2) else mM_finish_97 (some 188) (x.2.1 36) (some 188) h2) (gH y ((x.1, gup x.2.1 18 (Int32.ofNat D), x.2.2.1, x.2.2.2.1, x.2.2.2.2.1, x.2.2.2.2.2.1, x.2.2.2.2.2.2.1, x.2.2.2.2.2.2.2.1, x.2.2.2.2.2.2.2.2.1, x.2.2.2.2.2.2.2.2.2.1, x.2.2.2.2.2.2.2.2.2.2.1, x.2.2.2.2.2.2.2.2.2.2.2.1, x.2.2.2.2.2.2.2.2.2.2.2.2.1, x.2.2.2.2.2.2.2.2.2.2.2.2.2.1, x.2.2.2.2.2.2.2.2.2.2.2.2.2.2.1, x.2.2.2.2.2.2.2.2.2.2.2.2.2.2.2) : gX) o z) := by
  intro y o z
  have g31 : ¬ gup x.2.1 18 (Int32.ofNat D) 31 = 0 := by rw [gup_ne (by omega), hg]; exact i_10
  have g35 : gup x.2.1 18 (Int32.ofNat D) 35 = x.2.1 35 := gup_ne (by omega)
  have g36 : gup x.2.1 18 (Int32.ofNat D) 36 = x.2.1 36 := gup_ne (by omega)
  rw [mM_finish, hi_188_18, Option.bind_some, h18, n_pred, hp_188_18, Option.bind_some, if_pos (by decide), hi_188_36, Option.bind_some, hi_188_31, Option.bind_some, if_neg g31, hi_188_35, Option.bind_some]
  show (if gup x.2.1 18 (Int32.ofNat D) 35 = 6 then _ else _) = _
  simp only [g35, g36]
theorem r_finC {D k : Nat} (h18 : x.2.1 18 = Int32.ofNat (D + 1)) (hg : x.2.1 31 = 1) (hD : D < 14) (h35 : x.2.1 35 = 6) (hk : k < 32) (h36 : x.2.1 36 = Int32.ofNat k) : ∀ y o z, mM_finish (some 188) (-1) (gH y x o z) = (fun h2 => if (x.1 k).2.2.2.2.1 = 4 then (mM_lies (x.2.2.2.2.2.2.2.2.2.2.1 D) (x.2.2.2.2.2.2.2.2.2.2.2.1 D) (x.2.2.2.2.2.2.2.2.2.2.2.2.1 D) (x.1 k).2.2.2.2.2.1).bind fun v23 => (if v23 = 0 then mM_finish_97 (some 188) (x.2.1 36) (some 188) h2 else mM_finish_98 (some 188) (x.2.1 36) (some 188) (1 : Int32) h2) else mM_finish_97 (some 188) (x.2.1 36) (some 188) h2) (gH y ((x.1, gup x.2.1 18 (Int32.ofNat D), x.2.2.1, x.2.2.2.1, x.2.2.2.2.1, x.2.2.2.2.2.1, x.2.2.2.2.2.2.1, x.2.2.2.2.2.2.2.1, x.2.2.2.2.2.2.2.2.1, x.2.2.2.2.2.2.2.2.2.1, x.2.2.2.2.2.2.2.2.2.2.1, x.2.2.2.2.2.2.2.2.2.2.2.1, x.2.2.2.2.2.2.2.2.2.2.2.2.1, x.2.2.2.2.2.2.2.2.2.2.2.2.2.1, x.2.2.2.2.2.2.2.2.2.2.2.2.2.2.1, x.2.2.2.2.2.2.2.2.2.2.2.2.2.2.2) : gX) o z) := by
  intro y o z
  have g18 : gup x.2.1 18 (Int32.ofNat D) 18 = Int32.ofNat D := gup_eq
  rw [r_finTop h18 hg]
  show (if x.2.1 35 = 6 then _ else _) = _
  rw [if_pos h35, h36]
  simp only [hr_188_2, Option.bind_some, ha_189 hk, hr_188_23, hr_188_24, hr_188_25, hi_188_18, g18, ha_205 hD, ha_206 hD, ha_207 hD, hr_188_3, ha_190 hk]
theorem r_finN {D : Nat} (h18 : x.2.1 18 = Int32.ofNat (D + 1)) (hg : x.2.1 31 = 1) (hD : D < 14) (no : gNo x (x.2.2.2.2.2.2.2.2.2.2.1 D) (x.2.2.2.2.2.2.2.2.2.2.2.1 D) (x.2.2.2.2.2.2.2.2.2.2.2.2.1 D)) : ∃ x', x'.2.1 31 = 0 ∧ gXd N x x' ∧ ∀ y o z, mM_finish (some 188) (-1) (gH y x o z) = some (gH y x' o z) := by
  obtain ⟨x', h1, h2, h3⟩ := r_97 (N := N) (x := ((x.1, gup x.2.1 18 (Int32.ofNat D), x.2.2.1, x.2.2.2.1, x.2.2.2.2.1, x.2.2.2.2.2.1, x.2.2.2.2.2.2.1, x.2.2.2.2.2.2.2.1, x.2.2.2.2.2.2.2.2.1, x.2.2.2.2.2.2.2.2.2.1, x.2.2.2.2.2.2.2.2.2.2.1, x.2.2.2.2.2.2.2.2.2.2.2.1, x.2.2.2.2.2.2.2.2.2.2.2.2.1, x.2.2.2.2.2.2.2.2.2.2.2.2.2.1, x.2.2.2.2.2.2.2.2.2.2.2.2.2.2.1, x.2.2.2.2.2.2.2.2.2.2.2.2.2.2.2) : gX)) (v := x.2.1 36)
  have h0 : gXd N x ((x.1, gup x.2.1 18 (Int32.ofNat D), x.2.2.1, x.2.2.2.1, x.2.2.2.2.1, x.2.2.2.2.2.1, x.2.2.2.2.2.2.1, x.2.2.2.2.2.2.2.1, x.2.2.2.2.2.2.2.2.1, x.2.2.2.2.2.2.2.2.2.1, x.2.2.2.2.2.2.2.2.2.2.1, x.2.2.2.2.2.2.2.2.2.2.2.1, x.2.2.2.2.2.2.2.2.2.2.2.2.1, x.2.2.2.2.2.2.2.2.2.2.2.2.2.1, x.2.2.2.2.2.2.2.2.2.2.2.2.2.2.1, x.2.2.2.2.2.2.2.2.2.2.2.2.2.2.2) : gX) := ⟨fun _ _ => rfl, fun i hi => gup_ne (by omega), rfl, rfl, rfl, rfl⟩
  refine ⟨x', h1, gXd_trans h0 h2 (Nat.le_refl _), fun y o z => ?_⟩
  rcases no with n1 | ⟨n1, k, n2, n3, n4⟩
  · rw [r_finTop h18 hg]
    exact (if_neg n1).trans (h3 y o z)
  · rw [r_finC h18 hg hD n1 n2 n3]
    show (if (x.1 k).2.2.2.2.1 = 4 then _ else _) = _
    rcases n4 with n4 | ⟨n4, n5⟩
    · rw [if_neg n4]
      exact h3 y o z
    · rw [if_pos n4, n5, Option.bind_some, if_pos rfl]
      exact h3 y o z
/-- the state with a view more -/
def xw (x : gX) (N f D k : Nat) : gX := ((gup x.1 N (gp_view (gp_new (x.1 N) 5) (Int32.ofNat k) (x.2.2.2.2.2.2.2.2.2.2.1 D) (x.2.2.2.2.2.2.2.2.2.2.2.1 D) (x.2.2.2.2.2.2.2.2.2.2.2.2.1 D)), gup (gup (gup (gup (gup x.2.1 18 (Int32.ofNat D)) 33 (Int32.ofNat (N + 1))) 29 (Int32.ofNat (N + 1 - f))) 35 6) 36 (Int32.ofNat N), x.2.2.1, x.2.2.2.1, x.2.2.2.2.1, x.2.2.2.2.2.1, x.2.2.2.2.2.2.1, x.2.2.2.2.2.2.2.1, x.2.2.2.2.2.2.2.2.1, x.2.2.2.2.2.2.2.2.2.1, x.2.2.2.2.2.2.2.2.2.2.1, x.2.2.2.2.2.2.2.2.2.2.2.1, x.2.2.2.2.2.2.2.2.2.2.2.2.1, x.2.2.2.2.2.2.2.2.2.2.2.2.2.1, x.2.2.2.2.2.2.2.2.2.2.2.2.2.2.1, gup x.2.2.2.2.2.2.2.2.2.2.2.2.2.2.2 (N - f) (Int32.ofNat N)) : gX)
def xq (x : gX) (N D k : Nat) : gX := ((gup x.1 N (gp_view (gp_new (x.1 N) 5) (Int32.ofNat k) (x.2.2.2.2.2.2.2.2.2.2.1 D) (x.2.2.2.2.2.2.2.2.2.2.2.1 D) (x.2.2.2.2.2.2.2.2.2.2.2.2.1 D)), gup x.2.1 33 (Int32.ofNat (N + 1)), x.2.2.1, x.2.2.2.1, x.2.2.2.2.1, x.2.2.2.2.2.1, x.2.2.2.2.2.2.1, x.2.2.2.2.2.2.2.1, x.2.2.2.2.2.2.2.2.1, x.2.2.2.2.2.2.2.2.2.1, x.2.2.2.2.2.2.2.2.2.2.1, x.2.2.2.2.2.2.2.2.2.2.2.1, x.2.2.2.2.2.2.2.2.2.2.2.2.1, x.2.2.2.2.2.2.2.2.2.2.2.2.2.1, x.2.2.2.2.2.2.2.2.2.2.2.2.2.2.1, x.2.2.2.2.2.2.2.2.2.2.2.2.2.2.2) : gX)
theorem r_147 (hg : x.2.1 31 = 1) (hb : x.2.1 29 = Int32.ofNat (N - f)) (hf : f ≤ N) (hN : N < 32) : ∀ y o z, mM_finish_147 (some 188) (Int32.ofNat N) (gH y x o z) = some (gH y ((x.1, gup (gup (gup x.2.1 29 (Int32.ofNat (N + 1 - f))) 35 6) 36 (Int32.ofNat N), x.2.2.1, x.2.2.2.1, x.2.2.2.2.1, x.2.2.2.2.2.1, x.2.2.2.2.2.2.1, x.2.2.2.2.2.2.2.1, x.2.2.2.2.2.2.2.2.1, x.2.2.2.2.2.2.2.2.2.1, x.2.2.2.2.2.2.2.2.2.2.1, x.2.2.2.2.2.2.2.2.2.2.2.1, x.2.2.2.2.2.2.2.2.2.2.2.2.1, x.2.2.2.2.2.2.2.2.2.2.2.2.2.1, x.2.2.2.2.2.2.2.2.2.2.2.2.2.2.1, gup x.2.2.2.2.2.2.2.2.2.2.2.2.2.2.2 (N - f) (Int32.ofNat N)) : gX) o z) := by
  intro y o z
  rw [mM_finish_147, ho_188, Option.bind_some, r_en hg hb hf hN, Option.bind_some, ho_188, Option.bind_some, r_got, Option.bind_some]
  rfl
theorem r_98a {D k : Nat} (h18 : x.2.1 18 = Int32.ofNat D) (hD : D < 14) (hN : N < 32) : ∀ y o z, ((gv_gR (gH y (xb x N 5) o z) (some 188) 7 23).bind fun v9 => (gv_gI (gH y (xb x N 5) o z) (some 188) 7 18).bind fun v10 => (gv_lI (gH y (xb x N 5) o z) v9 v10).bind fun v11 => (gv_gR (gH y (xb x N 5) o z) (some 188) 7 24).bind fun v12 => (gv_gI (gH y (xb x N 5) o z) (some 188) 7 18).bind fun v13 => (gv_lI (gH y (xb x N 5) o z) v12 v13).bind fun v14 => (gv_gR (gH y (xb x N 5) o z) (some 188) 7 25).bind fun v15 => (gv_gI (gH y (xb x N 5) o z) (some 188) 7 18).bind fun v16 => (gv_lI (gH y (xb x N 5) o z) v15 v16).bind fun v17 => (gv_is (gH y (xb x N 5) o z) (some 188) 7).bind fun _ => (mM_setView (some 188) (Int32.ofNat N) (Int32.ofNat k) v11 v14 v17 (gH y (xb x N 5) o z)).bind fun h20 => mM_finish_147 (some 188) (Int32.ofNat N) h20) = mM_finish_147 (some 188) (Int32.ofNat N) (gH y (xq x N D k) o z) := by
  intro y o z
  have g18 : (xb x N 5).2.1 18 = Int32.ofNat D := h18
  have eR : (xb x N 5).1 N = gp_new (x.1 N) 5 := gup_eq
  have eRR : ∀ v, gup (xb x N 5).1 N v = gup x.1 N v := fun v => gup_gup
  simp only [hr_188_23, Option.bind_some, hi_188_18, g18, ha_205 hD, hr_188_24, ha_206 hD, hr_188_25, ha_207 hD, ho_188, r_setView hN, eR, eRR]
  rfl
theorem r_98 {D k : Nat} (G : gD n0 f q m N pos u x) (hN : N < 32) (h18 : x.2.1 18 = Int32.ofNat D) (hD : D < 14) : ∀ y o z, mM_finish_98 (some 188) (Int32.ofNat k) (some 188) 1 (gH y x o z) = some (gH y ((gup x.1 N (gp_view (gp_new (x.1 N) 5) (Int32.ofNat k) (x.2.2.2.2.2.2.2.2.2.2.1 D) (x.2.2.2.2.2.2.2.2.2.2.2.1 D) (x.2.2.2.2.2.2.2.2.2.2.2.2.1 D)), gup (gup (gup (gup x.2.1 33 (Int32.ofNat (N + 1))) 29 (Int32.ofNat (N + 1 - f))) 35 6) 36 (Int32.ofNat N), x.2.2.1, x.2.2.2.1, x.2.2.2.2.1, x.2.2.2.2.2.1, x.2.2.2.2.2.2.1, x.2.2.2.2.2.2.2.1, x.2.2.2.2.2.2.2.2.1, x.2.2.2.2.2.2.2.2.2.1, x.2.2.2.2.2.2.2.2.2.2.1, x.2.2.2.2.2.2.2.2.2.2.2.1, x.2.2.2.2.2.2.2.2.2.2.2.2.1, x.2.2.2.2.2.2.2.2.2.2.2.2.2.1, x.2.2.2.2.2.2.2.2.2.2.2.2.2.2.1, gup x.2.2.2.2.2.2.2.2.2.2.2.2.2.2.2 (N - f) (Int32.ofNat N)) : gX) o z) := by
  intro y o z
  have g31 : ¬ (xb x N 5).2.1 31 = 0 := by
    show ¬ gup x.2.1 33 (Int32.ofNat (N + 1)) 31 = 0
    rw [gup_ne (by omega), G.gg]; exact i_10
  have s31 : (((x.1, gup x.2.1 31 1, x.2.2.1, x.2.2.2.1, x.2.2.2.2.1, x.2.2.2.2.2.1, x.2.2.2.2.2.2.1, x.2.2.2.2.2.2.2.1, x.2.2.2.2.2.2.2.2.1, x.2.2.2.2.2.2.2.2.2.1, x.2.2.2.2.2.2.2.2.2.2.1, x.2.2.2.2.2.2.2.2.2.2.2.1, x.2.2.2.2.2.2.2.2.2.2.2.2.1, x.2.2.2.2.2.2.2.2.2.2.2.2.2.1, x.2.2.2.2.2.2.2.2.2.2.2.2.2.2.1, x.2.2.2.2.2.2.2.2.2.2.2.2.2.2.2) : gX) : gX) = x := by rw [gup_same G.gg]
  have hx : gv_pV (gH y x o z) (some 188) 7 31 (.int 1) = some (gH y x o z) := by
    rw [hp_188_31]
    exact congrArg (fun w => some (gH y w o z)) s31
  have e1 : (xq x N D k).2.1 31 = 1 := by
    show gup x.2.1 33 (Int32.ofNat (N + 1)) 31 = 1
    rw [gup_ne (by omega), G.gg]
  have e2 : (xq x N D k).2.1 29 = Int32.ofNat (N - f) := by
    show gup x.2.1 33 (Int32.ofNat (N + 1)) 29 = _
    rw [gup_ne (by omega), G.be]
  rw [mM_finish_98, if_neg (fun k => k (Or.inr rfl)), hx, Option.bind_some, ho_188, Option.bind_some, r_no1 G hN, Option.bind_some, hi_188_31, Option.bind_some, if_neg g31]
  refine (r_98a h18 hD hN y o z).trans ?_
  exact r_147 e1 e2 G.fN hN y o z
theorem r_980 {k : Int32} (G : gD n0 f q m 32 pos u x) : ∃ x', x'.2.1 31 = 0 ∧ gXd 32 x x' ∧ ∀ y o z, mM_finish_98 (some 188) k (some 188) 1 (gH y x o z) = some (gH y x' o z) := by
  have e31 : (((x.1, gup x.2.1 31 0, x.2.2.1, x.2.2.2.1, x.2.2.2.2.1, x.2.2.2.2.2.1, x.2.2.2.2.2.2.1, x.2.2.2.2.2.2.2.1, x.2.2.2.2.2.2.2.2.1, x.2.2.2.2.2.2.2.2.2.1, x.2.2.2.2.2.2.2.2.2.2.1, x.2.2.2.2.2.2.2.2.2.2.2.1, x.2.2.2.2.2.2.2.2.2.2.2.2.1, x.2.2.2.2.2.2.2.2.2.2.2.2.2.1, x.2.2.2.2.2.2.2.2.2.2.2.2.2.2.1, x.2.2.2.2.2.2.2.2.2.2.2.2.2.2.2) : gX) : gX).2.1 31 = 0 := rfl
  have s31 : (((x.1, gup x.2.1 31 1, x.2.2.1, x.2.2.2.1, x.2.2.2.2.1, x.2.2.2.2.2.1, x.2.2.2.2.2.2.1, x.2.2.2.2.2.2.2.1, x.2.2.2.2.2.2.2.2.1, x.2.2.2.2.2.2.2.2.2.1, x.2.2.2.2.2.2.2.2.2.2.1, x.2.2.2.2.2.2.2.2.2.2.2.1, x.2.2.2.2.2.2.2.2.2.2.2.2.1, x.2.2.2.2.2.2.2.2.2.2.2.2.2.1, x.2.2.2.2.2.2.2.2.2.2.2.2.2.2.1, x.2.2.2.2.2.2.2.2.2.2.2.2.2.2.2) : gX) : gX) = x := by rw [gup_same G.gg]
  refine ⟨((x.1, gup (gup (gup x.2.1 31 0) 35 6) 36 31, x.2.2.1, x.2.2.2.1, x.2.2.2.2.1, x.2.2.2.2.2.1, x.2.2.2.2.2.2.1, x.2.2.2.2.2.2.2.1, x.2.2.2.2.2.2.2.2.1, x.2.2.2.2.2.2.2.2.2.1, x.2.2.2.2.2.2.2.2.2.2.1, x.2.2.2.2.2.2.2.2.2.2.2.1, x.2.2.2.2.2.2.2.2.2.2.2.2.1, x.2.2.2.2.2.2.2.2.2.2.2.2.2.1, x.2.2.2.2.2.2.2.2.2.2.2.2.2.2.1, x.2.2.2.2.2.2.2.2.2.2.2.2.2.2.2) : gX), rfl, ⟨fun _ _ => rfl, fun i hi => ?_, rfl, rfl, rfl, rfl⟩, fun y o z => ?_⟩
  · show gup (gup (gup x.2.1 31 0) 35 6) 36 31 i = _
    rw [gup_ne (by omega), gup_ne (by omega), gup_ne (by omega)]
  · have hx : gv_pV (gH y x o z) (some 188) 7 31 (.int 1) = some (gH y x o z) := by
      rw [hp_188_31]
      exact congrArg (fun w => some (gH y w o z)) s31
    rw [mM_finish_98, if_neg (fun k => k (Or.inr rfl)), hx, Option.bind_some, ho_188, Option.bind_some, r_no0 G, Option.bind_some, hi_188_31, Option.bind_some, if_pos e31, mM_finish_147, ho_188, Option.bind_some, r_en0 (x := ((x.1, gup x.2.1 31 0, x.2.2.1, x.2.2.2.1, x.2.2.2.2.1, x.2.2.2.2.2.1, x.2.2.2.2.2.2.1, x.2.2.2.2.2.2.2.1, x.2.2.2.2.2.2.2.2.1, x.2.2.2.2.2.2.2.2.2.1, x.2.2.2.2.2.2.2.2.2.2.1, x.2.2.2.2.2.2.2.2.2.2.2.1, x.2.2.2.2.2.2.2.2.2.2.2.2.1, x.2.2.2.2.2.2.2.2.2.2.2.2.2.1, x.2.2.2.2.2.2.2.2.2.2.2.2.2.2.1, x.2.2.2.2.2.2.2.2.2.2.2.2.2.2.2) : gX)) e31, Option.bind_some, ho_188, Option.bind_some, r_got, Option.bind_some]
theorem r_finY {D k : Nat} (G : gD n0 f q m N pos u x) (hN : N < 32) (h18 : x.2.1 18 = Int32.ofNat (D + 1)) (hD : D < 14) (yes : gYes x (x.2.2.2.2.2.2.2.2.2.2.1 D) (x.2.2.2.2.2.2.2.2.2.2.2.1 D) (x.2.2.2.2.2.2.2.2.2.2.2.2.1 D) k) : ∀ y o z, mM_finish (some 188) (-1) (gH y x o z) = some (gH y (xw x N f D k) o z) := by
  intro y o z
  obtain ⟨n1, n2, n3, n4, n5⟩ := yes
  have G5 : gD n0 f q m N pos u ((x.1, gup x.2.1 18 (Int32.ofNat D), x.2.2.1, x.2.2.2.1, x.2.2.2.2.1, x.2.2.2.2.2.1, x.2.2.2.2.2.2.1, x.2.2.2.2.2.2.2.1, x.2.2.2.2.2.2.2.2.1, x.2.2.2.2.2.2.2.2.2.1, x.2.2.2.2.2.2.2.2.2.2.1, x.2.2.2.2.2.2.2.2.2.2.2.1, x.2.2.2.2.2.2.2.2.2.2.2.2.1, x.2.2.2.2.2.2.2.2.2.2.2.2.2.1, x.2.2.2.2.2.2.2.2.2.2.2.2.2.2.1, x.2.2.2.2.2.2.2.2.2.2.2.2.2.2.2) : gX) := gD_x G rfl rfl rfl rfl (fun _ _ _ => rfl) rfl (fun i a _ _ => gup_ne a) rfl rfl
  rw [r_finC h18 G.gg hD n1 n2 n3]
  show (if (x.1 k).2.2.2.2.1 = 4 then _ else _) = _
  rw [if_pos n4, n5, Option.bind_some, if_neg i_10, n3]
  exact r_98 G5 hN rfl hD y o z
theorem r_finY0 {D k : Nat} (G : gD n0 f q m 32 pos u x) (h18 : x.2.1 18 = Int32.ofNat (D + 1)) (hD : D < 14) (yes : gYes x (x.2.2.2.2.2.2.2.2.2.2.1 D) (x.2.2.2.2.2.2.2.2.2.2.2.1 D) (x.2.2.2.2.2.2.2.2.2.2.2.2.1 D) k) : ∃ x', x'.2.1 31 = 0 ∧ gXd 32 x x' ∧ ∀ y o z, mM_finish (some 188) (-1) (gH y x o z) = some (gH y x' o z) := by
  obtain ⟨n1, n2, n3, n4, n5⟩ := yes
  have G5 : gD n0 f q m 32 pos u ((x.1, gup x.2.1 18 (Int32.ofNat D), x.2.2.1, x.2.2.2.1, x.2.2.2.2.1, x.2.2.2.2.2.1, x.2.2.2.2.2.2.1, x.2.2.2.2.2.2.2.1, x.2.2.2.2.2.2.2.2.1, x.2.2.2.2.2.2.2.2.2.1, x.2.2.2.2.2.2.2.2.2.2.1, x.2.2.2.2.2.2.2.2.2.2.2.1, x.2.2.2.2.2.2.2.2.2.2.2.2.1, x.2.2.2.2.2.2.2.2.2.2.2.2.2.1, x.2.2.2.2.2.2.2.2.2.2.2.2.2.2.1, x.2.2.2.2.2.2.2.2.2.2.2.2.2.2.2) : gX) := gD_x G rfl rfl rfl rfl (fun _ _ _ => rfl) rfl (fun i a _ _ => gup_ne a) rfl rfl
  obtain ⟨x', h1, h2, h3⟩ := r_980 (k := Int32.ofNat k) G5
  have h0 : gXd 32 x ((x.1, gup x.2.1 18 (Int32.ofNat D), x.2.2.1, x.2.2.2.1, x.2.2.2.2.1, x.2.2.2.2.2.1, x.2.2.2.2.2.2.1, x.2.2.2.2.2.2.2.1, x.2.2.2.2.2.2.2.2.1, x.2.2.2.2.2.2.2.2.2.1, x.2.2.2.2.2.2.2.2.2.2.1, x.2.2.2.2.2.2.2.2.2.2.2.1, x.2.2.2.2.2.2.2.2.2.2.2.2.1, x.2.2.2.2.2.2.2.2.2.2.2.2.2.1, x.2.2.2.2.2.2.2.2.2.2.2.2.2.2.1, x.2.2.2.2.2.2.2.2.2.2.2.2.2.2.2) : gX) := ⟨fun _ _ => rfl, fun i hi => gup_ne (by omega), rfl, rfl, rfl, rfl⟩
  refine ⟨x', h1, gXd_trans h0 h2 (Nat.le_refl _), fun y o z => ?_⟩
  rw [r_finC h18 G.gg hD n1 n2 n3]
  show (if (x.1 k).2.2.2.2.1 = 4 then _ else _) = _
  rw [if_pos n4, n5, Option.bind_some, if_neg i_10, n3]
  exact h3 y o z
/-- the class's side -/
theorem k_cvI {k : Nat} {un fr co : Int32} {y y' : gX} {o o' : Nat → Int64} {z z' : gx_H} (hk : k < 32) : cT_canBeViewed (some (3 + 5 * k)) un fr co (gH u y o z) = cT_canBeViewed (some (3 + 5 * k)) un fr co (gH u y' o' z') := by
  simp only [cT_canBeViewed, cT_canBeViewed_34, hiT_4 hk, hiT_5 hk, hiT_6 hk, Option.bind_some]
def uw (u : gU) (N k : Nat) (un fr co : Int32) : gU := ((gup u.1 N (gq_view (gq_new (u.1 N) 5) (Int32.ofNat k) un fr co), u.2.1, gup u.2.2.1 1 (Int32.ofNat (N + 1)), u.2.2.2.1, u.2.2.2.2.1, u.2.2.2.2.2.1, u.2.2.2.2.2.2.1, u.2.2.2.2.2.2.2.1, u.2.2.2.2.2.2.2.2.1, u.2.2.2.2.2.2.2.2.2.1, u.2.2.2.2.2.2.2.2.2.2.1, u.2.2.2.2.2.2.2.2.2.2.2.1, gup (gup u.2.2.2.2.2.2.2.2.2.2.2.2.1 2 6) 3 (Int32.ofNat N), u.2.2.2.2.2.2.2.2.2.2.2.2.2.1, u.2.2.2.2.2.2.2.2.2.2.2.2.2.2) : gU)
theorem k_cvr {un fr co : Int32} (G : gD n0 f q m N pos u x) (V : gV1 n0 N (u.2.2.2.2.2.2.2.2.2.2.2.2.1 2) (u.2.2.2.2.2.2.2.2.2.2.2.2.1 3)) (e35 : x.2.1 35 = u.2.2.2.2.2.2.2.2.2.2.2.2.1 2) (e36 : x.2.1 36 = u.2.2.2.2.2.2.2.2.2.2.2.2.1 3) : ((∀ y o z, cvr un fr co (gH u y o z) = some (gH ((u.1, u.2.1, u.2.2.1, u.2.2.2.1, u.2.2.2.2.1, u.2.2.2.2.2.1, u.2.2.2.2.2.2.1, u.2.2.2.2.2.2.2.1, u.2.2.2.2.2.2.2.2.1, u.2.2.2.2.2.2.2.2.2.1, u.2.2.2.2.2.2.2.2.2.2.1, u.2.2.2.2.2.2.2.2.2.2.2.1, gup u.2.2.2.2.2.2.2.2.2.2.2.2.1 1 1, u.2.2.2.2.2.2.2.2.2.2.2.2.2.1, u.2.2.2.2.2.2.2.2.2.2.2.2.2.2) : gU) y o z)) ∧ (gNo x un fr co ∨ (N = 32 ∧ ∃ k, gYes x un fr co k))) ∨ (N < 32 ∧ ∃ k a b, k < N ∧ gYes x un fr co k ∧ (un = 1 ∨ un = 2 ∨ un = 4) ∧ a ≤ 8 ∧ b ≤ 8 ∧ fr = Int32.ofNat a ∧ co = Int32.ofNat b ∧ ∀ y o z, cvr un fr co (gH u y o z) = some (gH (uw u N k un fr co) y o z)) := by
  have hN := G.hN
  obtain ⟨j, v1, v2, v3, v4⟩ := V
  by_cases c6 : u.2.2.2.2.2.2.2.2.2.2.2.2.1 2 = 6
  · have j6 : j = 6 := by
      rw [v2] at c6
      exact (n_eq (m := 6) (show j < 2 ^ 31 by omega) (by omega)).mp c6
    obtain ⟨k, b1, b2, b3⟩ := v4 j6
    obtain ⟨s, c, O⟩ := G.ob k b2
    have hk : k < 32 := by omega
    have f6 := G.nd k b1 b2
    obtain ⟨_, _, _, _, _, _, _, e4, _⟩ := n_s6 s O.s8
    obtain ⟨r, r1, r2, r3, r4, r5⟩ := cv_ob (u := u) (x := x) (o := fun _ => 0) (z := []) (un := un) (fr := fr) (co := co) hk O
    have r2' : ∀ y o z, cT_canBeViewed (some (3 + 5 * k)) un fr co (gH u y o z) = some r := fun y o z => (k_cvI hk).trans r2
    have top : ∀ y o z, cvr un fr co (gH u y o z) = if r = 0 then ((gv_pV (gH u y o z) (some 187) 6 1 (.int (1 : Int32))).bind fun h28 => some h28) else (cR_beginThing (some 187) (some 1) (5 : Int32) (gH u y o z)).bind fun r32 => if r32.1 = none then some r32.2 else (gv_is r32.2 r32.1 2).bind fun _ => (cT_lookAt r32.1 (Int32.ofNat k) un fr co r32.2).bind fun h36 => (gv_gI h36 (some 1) 1 1).bind fun v37 => (gv_is h36 (some 187) 6).bind fun _ => (cR_settle (some 187) (6 : Int32) (v37 - (1 : Int32)) h36).bind fun h40 => some h40 := by
      intro y o z
      rw [cvr, hi_187_1, Option.bind_some, if_pos (show u.2.2.2.2.2.2.2.2.2.2.2.2.1 1 = 0 from G.wr), hi_187_3, Option.bind_some, ho_1, Option.bind_some, b3, k_tin G.un hN b2, Option.bind_some, hi_187_2, Option.bind_some, if_pos (show u.2.2.2.2.2.2.2.2.2.2.2.2.1 2 = 6 from c6), if_neg (by simp), ho_T hk, Option.bind_some, r2', Option.bind_some, ho_187, Option.bind_some]
    rcases r1 with h0 | h1
    · refine Or.inl ⟨fun y o z => ?_, Or.inl (Or.inr ⟨e35.trans c6, k, hk, e36.trans b3, ?_⟩)⟩
      · rw [top, if_pos h0, hp_187_1, Option.bind_some]
      · by_cases c4 : s = 4
        · exact Or.inr ⟨by rw [O.et]; exact e4.mpr c4, by rw [r4 c4 f6, h0]⟩
        · exact Or.inl (by rw [O.et]; exact fun h => c4 (e4.mp h))
    · obtain ⟨c4, _, hun, a, b, ha, hb, efr, eco⟩ := r3 h1
      have yes : gYes x un fr co k := ⟨e35.trans c6, hk, e36.trans b3, by rw [O.et]; exact e4.mpr c4, by rw [r4 c4 f6, h1]⟩
      by_cases c32 : N < 32
      · refine Or.inr ⟨c32, k, a, b, b2, yes, hun, ha, hb, efr, eco, fun y o z => ?_⟩
        have eC : (ub u N 5).1 N = gq_new (u.1 N) 5 := gup_eq
        have eCC : ∀ v, gup (ub u N 5).1 N v = gup u.1 N v := fun v => gup_gup
        have e1 : (((gup u.1 N (gq_view (gq_new (u.1 N) 5) (Int32.ofNat k) un fr co), (ub u N 5).2.1, (ub u N 5).2.2.1, (ub u N 5).2.2.2.1, (ub u N 5).2.2.2.2.1, (ub u N 5).2.2.2.2.2.1, (ub u N 5).2.2.2.2.2.2.1, (ub u N 5).2.2.2.2.2.2.2.1, (ub u N 5).2.2.2.2.2.2.2.2.1, (ub u N 5).2.2.2.2.2.2.2.2.2.1, (ub u N 5).2.2.2.2.2.2.2.2.2.2.1, (ub u N 5).2.2.2.2.2.2.2.2.2.2.2.1, (ub u N 5).2.2.2.2.2.2.2.2.2.2.2.2.1, (ub u N 5).2.2.2.2.2.2.2.2.2.2.2.2.2.1, (ub u N 5).2.2.2.2.2.2.2.2.2.2.2.2.2.2) : gU) : gU).2.2.1 1 = Int32.ofNat (N + 1) := rfl
        rw [top, if_neg (by rw [h1]; exact i_10), k_bt G c32, Option.bind_some, if_neg (by simp), ho_T c32, Option.bind_some, k_lookAt c32, Option.bind_some, eC, eCC, hi_1_1, Option.bind_some, ho_187, Option.bind_some, e1, n_pred, k_settle, Option.bind_some]
        rfl
      · obtain rfl : N = 32 := by omega
        refine Or.inl ⟨fun y o z => ?_, Or.inr ⟨rfl, k, yes⟩⟩
        rw [top, if_neg (by rw [h1]; exact i_10), k_bt0 G, Option.bind_some, if_pos rfl]
  · refine Or.inl ⟨fun y o z => ?_, Or.inl (Or.inl (by rw [e35]; exact c6))⟩
    have th : ∃ w, cS_thingAt (some 1) (u.2.2.2.2.2.2.2.2.2.2.2.2.1 3) (gH u y o z) = some w := by
      rcases g_ob (u.2.2.2.2.2.2.2.2.2.2.2.2.1 3) N (by omega) with c | ⟨k, hk, e⟩
      · exact ⟨_, k_tout G.un c⟩
      · rw [e]; exact ⟨_, k_tin G.un hN hk⟩
    obtain ⟨w, hw⟩ := th
    rw [cvr, hi_187_1, Option.bind_some, if_pos (show u.2.2.2.2.2.2.2.2.2.2.2.2.1 1 = 0 from G.wr), hi_187_3, Option.bind_some, ho_1, Option.bind_some, hw, Option.bind_some, hi_187_2, Option.bind_some, if_neg (show ¬ u.2.2.2.2.2.2.2.2.2.2.2.2.1 2 = 6 from c6), hp_187_1, Option.bind_some]
end H
