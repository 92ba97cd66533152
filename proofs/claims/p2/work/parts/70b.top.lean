/-! read: from the first byte to the last -/
/-- what the class does behind the holders -/
def crt (l4 : Int32) (h6 : gx_H) : Option (Int32 × gx_H) :=
  (gv_is h6 (some 187) 6).bind fun _ =>
  (cR_nextByte (some 187) (some 163) h6).bind fun r10 =>
  if r10.1 = (15 : Int32) then (
    cR_run_37 (some 187) (some 1) (some 163) l4 r10.2) else
  (gv_pV r10.2 (some 187) 6 1 (.int (1 : Int32))).bind fun h12 =>
  cR_run_37 (some 187) (some 1) (some 163) l4 h12
/-- what the reference does behind the holders -/
def mrt (h3 : gx_H) : Option gx_H :=
  (gv_pV h3 (some 188) 7 32 (.int (0 : Int32))).bind fun h4 =>
  (gv_pV h4 (some 188) 7 29 (.int (0 : Int32))).bind fun h5 =>
  (gv_pV h5 (some 188) 7 18 (.int (0 : Int32))).bind fun h6 =>
  (gv_gI h6 (some 188) 7 31).bind fun v7 =>
  if v7 = 0 then (
    mM_takeAll_40 (some 188) (some 188) h6) else
  (gv_is h6 (some 188) 7).bind fun _ =>
  (mM_next (some 188) h6).bind fun r12 =>
  if r12.1 = (15 : Int32) then (
    mM_takeAll_41 (some 188) (some 188) (1 : Int32) r12.2) else
  mM_takeAll_40 (some 188) (some 188) r12.2
def gz3 (x : gX) : gX := ((x.1, gup (gup (gup x.2.1 32 0) 29 0) 18 0, x.2.2.1, x.2.2.2.1, x.2.2.2.2.1, x.2.2.2.2.2.1, x.2.2.2.2.2.2.1, x.2.2.2.2.2.2.2.1, x.2.2.2.2.2.2.2.2.1, x.2.2.2.2.2.2.2.2.2.1, x.2.2.2.2.2.2.2.2.2.2.1, x.2.2.2.2.2.2.2.2.2.2.2.1, x.2.2.2.2.2.2.2.2.2.2.2.2.1, x.2.2.2.2.2.2.2.2.2.2.2.2.2.1, x.2.2.2.2.2.2.2.2.2.2.2.2.2.2.1, x.2.2.2.2.2.2.2.2.2.2.2.2.2.2.2) : gX)
section H
variable {n0 f q m N pos : Nat} {u u' : gU} {x : gX}
theorem k_73 {l : Int32} (h : u.2.2.2.2.2.2.2.2.2.2.2.2.1 1 = 1) : ∀ y o z, cR_run_60 (some 187) (some 1) l (gH u y o z) = some (0, gH ((u.1, u.2.1, gup u.2.2.1 1 l, u.2.2.2.1, u.2.2.2.2.1, u.2.2.2.2.2.1, u.2.2.2.2.2.2.1, u.2.2.2.2.2.2.2.1, u.2.2.2.2.2.2.2.2.1, u.2.2.2.2.2.2.2.2.2.1, u.2.2.2.2.2.2.2.2.2.2.1, u.2.2.2.2.2.2.2.2.2.2.2.1, u.2.2.2.2.2.2.2.2.2.2.2.2.1, u.2.2.2.2.2.2.2.2.2.2.2.2.2.1, u.2.2.2.2.2.2.2.2.2.2.2.2.2.2) : gU) y o z) := by
  intro y o z
  have h' : (((u.1, u.2.1, gup u.2.2.1 1 l, u.2.2.2.1, u.2.2.2.2.1, u.2.2.2.2.2.1, u.2.2.2.2.2.2.1, u.2.2.2.2.2.2.2.1, u.2.2.2.2.2.2.2.2.1, u.2.2.2.2.2.2.2.2.2.1, u.2.2.2.2.2.2.2.2.2.2.1, u.2.2.2.2.2.2.2.2.2.2.2.1, u.2.2.2.2.2.2.2.2.2.2.2.2.1, u.2.2.2.2.2.2.2.2.2.2.2.2.2.1, u.2.2.2.2.2.2.2.2.2.2.2.2.2.2) : gU) : gU).2.2.2.2.2.2.2.2.2.2.2.2.1 1 = 1 := h
  rw [cR_run_60, hi_187_1, Option.bind_some, if_neg (show ¬ u.2.2.2.2.2.2.2.2.2.2.2.2.1 1 = 0 by rw [h]; exact i_10), hp_1_1, Option.bind_some, cR_run_73, hi_187_1, Option.bind_some, if_neg (by rw [h']; exact i_10)]
theorem k_37W {l : Int32} (rv : ∀ y o z, cR_readValue 20 (some 187) (some 1) (some 163) 1 (gH u y o z) = some (gH u' y o z)) (h : u'.2.2.2.2.2.2.2.2.2.2.2.2.1 1 = 1) : ∀ y o z, cR_run_37 (some 187) (some 1) (some 163) l (gH u y o z) = some (0, gH ((u'.1, u'.2.1, gup u'.2.2.1 1 l, u'.2.2.2.1, u'.2.2.2.2.1, u'.2.2.2.2.2.1, u'.2.2.2.2.2.2.1, u'.2.2.2.2.2.2.2.1, u'.2.2.2.2.2.2.2.2.1, u'.2.2.2.2.2.2.2.2.2.1, u'.2.2.2.2.2.2.2.2.2.2.1, u'.2.2.2.2.2.2.2.2.2.2.2.1, u'.2.2.2.2.2.2.2.2.2.2.2.2.1, u'.2.2.2.2.2.2.2.2.2.2.2.2.2.1, u'.2.2.2.2.2.2.2.2.2.2.2.2.2.2) : gU) y o z) := by
  intro y o z
  have e : (((u'.1, u'.2.1, u'.2.2.1, u'.2.2.2.1, u'.2.2.2.2.1, u'.2.2.2.2.2.1, u'.2.2.2.2.2.2.1, u'.2.2.2.2.2.2.2.1, u'.2.2.2.2.2.2.2.2.1, u'.2.2.2.2.2.2.2.2.2.1, u'.2.2.2.2.2.2.2.2.2.2.1, u'.2.2.2.2.2.2.2.2.2.2.2.1, gup u'.2.2.2.2.2.2.2.2.2.2.2.2.1 1 1, u'.2.2.2.2.2.2.2.2.2.2.2.2.2.1, u'.2.2.2.2.2.2.2.2.2.2.2.2.2.2) : gU) : gU) = u' := by rw [gup_same h]
  have hx : gv_pV (gH u' y o z) (some 187) 6 1 (.int 1) = some (gH u' y o z) := by
    rw [hp_187_1]
    exact congrArg (fun w => some (gH w y o z)) e
  rw [cR_run_37, ho_187, Option.bind_some, rv, Option.bind_some, hi_187_0, Option.bind_some, hi_163_1, Option.bind_some, hx, Option.bind_some, k_73 h, ite_self]
theorem k_37D {l : Int32} (h : u.2.2.2.2.2.2.2.2.2.2.2.2.1 1 = 1) : ∀ y o z, cR_run_37 (some 187) (some 1) (some 163) l (gH u y o z) = some (0, gH ((u.1, u.2.1, gup u.2.2.1 1 l, u.2.2.2.1, u.2.2.2.2.1, u.2.2.2.2.2.1, u.2.2.2.2.2.2.1, u.2.2.2.2.2.2.2.1, u.2.2.2.2.2.2.2.2.1, u.2.2.2.2.2.2.2.2.2.1, u.2.2.2.2.2.2.2.2.2.2.1, u.2.2.2.2.2.2.2.2.2.2.2.1, u.2.2.2.2.2.2.2.2.2.2.2.2.1, u.2.2.2.2.2.2.2.2.2.2.2.2.2.1, u.2.2.2.2.2.2.2.2.2.2.2.2.2.2) : gU) y o z) :=
  k_37W (fun y o z => gDe_rv (n := 19) u y o z 1 h) h
theorem k_37Y {l : Int32} (rv : ∀ y o z, cR_readValue 20 (some 187) (some 1) (some 163) 1 (gH u y o z) = some (gH u' y o z)) (h : u'.2.2.2.2.2.2.2.2.2.2.2.2.1 1 = 0) (p : u'.2.2.2.2.2.2.2.2.2.2.2.2.1 0 = u'.2.2.2.1 1) : ∀ y o z, cR_run_37 (some 187) (some 1) (some 163) l (gH u y o z) = some (1, gH u' y o z) := by
  intro y o z
  rw [cR_run_37, ho_187, Option.bind_some, rv, Option.bind_some, hi_187_0, Option.bind_some, hi_163_1, Option.bind_some, if_pos (show u'.2.2.2.2.2.2.2.2.2.2.2.2.1 0 = u'.2.2.2.1 1 from p), cR_run_60, hi_187_1, Option.bind_some, if_pos (show u'.2.2.2.2.2.2.2.2.2.2.2.2.1 1 = 0 from h), cR_run_73, hi_187_1, Option.bind_some, if_pos (show u'.2.2.2.2.2.2.2.2.2.2.2.2.1 1 = 0 from h)]
theorem k_37N {l : Int32} (rv : ∀ y o z, cR_readValue 20 (some 187) (some 1) (some 163) 1 (gH u y o z) = some (gH u' y o z)) (p : ¬ u'.2.2.2.2.2.2.2.2.2.2.2.2.1 0 = u'.2.2.2.1 1) : ∀ y o z, cR_run_37 (some 187) (some 1) (some 163) l (gH u y o z) = some (0, gH ((u'.1, u'.2.1, gup u'.2.2.1 1 l, u'.2.2.2.1, u'.2.2.2.2.1, u'.2.2.2.2.2.1, u'.2.2.2.2.2.2.1, u'.2.2.2.2.2.2.2.1, u'.2.2.2.2.2.2.2.2.1, u'.2.2.2.2.2.2.2.2.2.1, u'.2.2.2.2.2.2.2.2.2.2.1, u'.2.2.2.2.2.2.2.2.2.2.2.1, gup u'.2.2.2.2.2.2.2.2.2.2.2.2.1 1 1, u'.2.2.2.2.2.2.2.2.2.2.2.2.2.1, u'.2.2.2.2.2.2.2.2.2.2.2.2.2.2) : gU) y o z) := by
  intro y o z
  rw [cR_run_37, ho_187, Option.bind_some, rv, Option.bind_some, hi_187_0, Option.bind_some, hi_163_1, Option.bind_some, if_neg (show ¬ u'.2.2.2.2.2.2.2.2.2.2.2.2.1 0 = u'.2.2.2.1 1 from p), hp_187_1, Option.bind_some]
  exact k_73 (u := ((u'.1, u'.2.1, u'.2.2.1, u'.2.2.2.1, u'.2.2.2.2.1, u'.2.2.2.2.2.1, u'.2.2.2.2.2.2.1, u'.2.2.2.2.2.2.2.1, u'.2.2.2.2.2.2.2.2.1, u'.2.2.2.2.2.2.2.2.2.1, u'.2.2.2.2.2.2.2.2.2.2.1, u'.2.2.2.2.2.2.2.2.2.2.2.1, gup u'.2.2.2.2.2.2.2.2.2.2.2.2.1 1 1, u'.2.2.2.2.2.2.2.2.2.2.2.2.2.1, u'.2.2.2.2.2.2.2.2.2.2.2.2.2.2) : gU)) rfl y o z
theorem k_crtD {l : Int32} (h : u.2.2.2.2.2.2.2.2.2.2.2.2.1 1 = 1) : ∀ y o z, crt l (gH u y o z) = some (0, gH ((u.1, u.2.1, gup u.2.2.1 1 l, u.2.2.2.1, u.2.2.2.2.1, u.2.2.2.2.2.1, u.2.2.2.2.2.2.1, u.2.2.2.2.2.2.2.1, u.2.2.2.2.2.2.2.2.1, u.2.2.2.2.2.2.2.2.2.1, u.2.2.2.2.2.2.2.2.2.2.1, u.2.2.2.2.2.2.2.2.2.2.2.1, u.2.2.2.2.2.2.2.2.2.2.2.2.1, u.2.2.2.2.2.2.2.2.2.2.2.2.2.1, u.2.2.2.2.2.2.2.2.2.2.2.2.2.2) : gU) y o z) := by
  intro y o z
  have e : (((u.1, u.2.1, u.2.2.1, u.2.2.2.1, u.2.2.2.2.1, u.2.2.2.2.2.1, u.2.2.2.2.2.2.1, u.2.2.2.2.2.2.2.1, u.2.2.2.2.2.2.2.2.1, u.2.2.2.2.2.2.2.2.2.1, u.2.2.2.2.2.2.2.2.2.2.1, u.2.2.2.2.2.2.2.2.2.2.2.1, gup u.2.2.2.2.2.2.2.2.2.2.2.2.1 1 1, u.2.2.2.2.2.2.2.2.2.2.2.2.2.1, u.2.2.2.2.2.2.2.2.2.2.2.2.2.2) : gU) : gU) = u := by rw [gup_same h]
  have hx : gv_pV (gH u y o z) (some 187) 6 1 (.int 1) = some (gH u y o z) := by
    rw [hp_187_1]
    exact congrArg (fun w => some (gH w y o z)) e
  rw [crt, ho_187, Option.bind_some, k_byteDead h, Option.bind_some, if_neg (show ¬ (0 : Int32) = 15 by decide), hx, Option.bind_some, k_37D h]
theorem k_crtY {l : Int32} (G : gD n0 f q m N pos u x) (p : pos < m) (e : u.2.2.2.2.1 pos = 15) : ∀ y o z, crt l (gH u y o z) = cR_run_37 (some 187) (some 1) (some 163) l (gH (su u (pos + 1)) y o z) := by
  intro y o z
  rw [crt, ho_187, Option.bind_some, k_nx G p, Option.bind_some, if_pos e]
theorem k_crtN {l : Int32} (G : gD n0 f q m N pos u x) (c : ¬ (pos < m ∧ u.2.2.2.2.1 pos = 15)) : ∃ u', gUf N u u' ∧ u'.2.2.1 = gup u.2.2.1 1 l ∧ ∀ y o z, crt l (gH u y o z) = some (0, gH u' y o z) := by
  by_cases p : pos < m
  · have e : ¬ u.2.2.2.2.1 pos = 15 := fun h => c ⟨p, h⟩
    refine ⟨(((su u (pos + 1)).1, (su u (pos + 1)).2.1, gup u.2.2.1 1 l, (su u (pos + 1)).2.2.2.1, (su u (pos + 1)).2.2.2.2.1, (su u (pos + 1)).2.2.2.2.2.1, (su u (pos + 1)).2.2.2.2.2.2.1, (su u (pos + 1)).2.2.2.2.2.2.2.1, (su u (pos + 1)).2.2.2.2.2.2.2.2.1, (su u (pos + 1)).2.2.2.2.2.2.2.2.2.1, (su u (pos + 1)).2.2.2.2.2.2.2.2.2.2.1, (su u (pos + 1)).2.2.2.2.2.2.2.2.2.2.2.1, gup (su u (pos + 1)).2.2.2.2.2.2.2.2.2.2.2.2.1 1 1, (su u (pos + 1)).2.2.2.2.2.2.2.2.2.2.2.2.2.1, (su u (pos + 1)).2.2.2.2.2.2.2.2.2.2.2.2.2.2) : gU), ⟨fun _ _ => rfl, rfl, rfl, rfl, rfl, rfl, rfl, rfl⟩, rfl, fun y o z => ?_⟩
    rw [crt, ho_187, Option.bind_some, k_nx G p, Option.bind_some, if_neg e, hp_187_1, Option.bind_some]
    exact k_37D (u := (((su u (pos + 1)).1, (su u (pos + 1)).2.1, (su u (pos + 1)).2.2.1, (su u (pos + 1)).2.2.2.1, (su u (pos + 1)).2.2.2.2.1, (su u (pos + 1)).2.2.2.2.2.1, (su u (pos + 1)).2.2.2.2.2.2.1, (su u (pos + 1)).2.2.2.2.2.2.2.1, (su u (pos + 1)).2.2.2.2.2.2.2.2.1, (su u (pos + 1)).2.2.2.2.2.2.2.2.2.1, (su u (pos + 1)).2.2.2.2.2.2.2.2.2.2.1, (su u (pos + 1)).2.2.2.2.2.2.2.2.2.2.2.1, gup (su u (pos + 1)).2.2.2.2.2.2.2.2.2.2.2.2.1 1 1, (su u (pos + 1)).2.2.2.2.2.2.2.2.2.2.2.2.2.1, (su u (pos + 1)).2.2.2.2.2.2.2.2.2.2.2.2.2.2) : gU)) rfl y o z
  · refine ⟨((u.1, u.2.1, gup u.2.2.1 1 l, u.2.2.2.1, u.2.2.2.2.1, u.2.2.2.2.2.1, u.2.2.2.2.2.2.1, u.2.2.2.2.2.2.2.1, u.2.2.2.2.2.2.2.2.1, u.2.2.2.2.2.2.2.2.2.1, u.2.2.2.2.2.2.2.2.2.2.1, u.2.2.2.2.2.2.2.2.2.2.2.1, gup (gup u.2.2.2.2.2.2.2.2.2.2.2.2.1 1 1) 1 1, u.2.2.2.2.2.2.2.2.2.2.2.2.2.1, u.2.2.2.2.2.2.2.2.2.2.2.2.2.2) : gU), ⟨fun _ _ => rfl, rfl, rfl, rfl, rfl, rfl, rfl, rfl⟩, rfl, fun y o z => ?_⟩
    rw [crt, ho_187, Option.bind_some, k_nx0 G p, Option.bind_some, if_neg (show ¬ (0 : Int32) = 15 by decide), hp_187_1, Option.bind_some]
    exact k_37D (u := ((u.1, u.2.1, u.2.2.1, u.2.2.2.1, u.2.2.2.2.1, u.2.2.2.2.2.1, u.2.2.2.2.2.2.1, u.2.2.2.2.2.2.2.1, u.2.2.2.2.2.2.2.2.1, u.2.2.2.2.2.2.2.2.2.1, u.2.2.2.2.2.2.2.2.2.2.1, u.2.2.2.2.2.2.2.2.2.2.2.1, gup (gup u.2.2.2.2.2.2.2.2.2.2.2.2.1 1 1) 1 1, u.2.2.2.2.2.2.2.2.2.2.2.2.2.1, u.2.2.2.2.2.2.2.2.2.2.2.2.2.2) : gU)) rfl y o z
theorem r_40 : ∀ y o z, mM_takeAll_40 (some 188) (some 188) (gH y x o z) = some (gH y ((x.1, gup x.2.1 31 0, x.2.2.1, x.2.2.2.1, x.2.2.2.2.1, x.2.2.2.2.2.1, x.2.2.2.2.2.2.1, x.2.2.2.2.2.2.2.1, x.2.2.2.2.2.2.2.2.1, x.2.2.2.2.2.2.2.2.2.1, x.2.2.2.2.2.2.2.2.2.2.1, x.2.2.2.2.2.2.2.2.2.2.2.1, x.2.2.2.2.2.2.2.2.2.2.2.2.1, x.2.2.2.2.2.2.2.2.2.2.2.2.2.1, x.2.2.2.2.2.2.2.2.2.2.2.2.2.2.1, x.2.2.2.2.2.2.2.2.2.2.2.2.2.2.2) : gX) o z) := by
  intro y o z
  obtain ⟨g, hg⟩ : ∃ g, 1000000000000000 = g + 1 := ⟨999999999999999, rfl⟩
  rw [mM_takeAll_40, mM_takeAll_41, if_neg (fun k => k (Or.inl rfl)), hp_188_31, Option.bind_some, hg]
  exact r_48d (x := ((x.1, gup x.2.1 31 0, x.2.2.1, x.2.2.2.1, x.2.2.2.2.1, x.2.2.2.2.2.1, x.2.2.2.2.2.2.1, x.2.2.2.2.2.2.2.1, x.2.2.2.2.2.2.2.2.1, x.2.2.2.2.2.2.2.2.2.1, x.2.2.2.2.2.2.2.2.2.2.1, x.2.2.2.2.2.2.2.2.2.2.2.1, x.2.2.2.2.2.2.2.2.2.2.2.2.1, x.2.2.2.2.2.2.2.2.2.2.2.2.2.1, x.2.2.2.2.2.2.2.2.2.2.2.2.2.2.1, x.2.2.2.2.2.2.2.2.2.2.2.2.2.2.2) : gX)) rfl y o z
theorem gXd_31 {v : Int32} : gXd N x ((x.1, gup x.2.1 31 v, x.2.2.1, x.2.2.2.1, x.2.2.2.2.1, x.2.2.2.2.2.1, x.2.2.2.2.2.2.1, x.2.2.2.2.2.2.2.1, x.2.2.2.2.2.2.2.2.1, x.2.2.2.2.2.2.2.2.2.1, x.2.2.2.2.2.2.2.2.2.2.1, x.2.2.2.2.2.2.2.2.2.2.2.1, x.2.2.2.2.2.2.2.2.2.2.2.2.1, x.2.2.2.2.2.2.2.2.2.2.2.2.2.1, x.2.2.2.2.2.2.2.2.2.2.2.2.2.2.1, x.2.2.2.2.2.2.2.2.2.2.2.2.2.2.2) : gX) := ⟨fun _ _ => rfl, fun j hj => gup_ne (by omega), rfl, rfl, rfl, rfl⟩
theorem gXd_z3 : gXd N x (gz3 x) := by
  refine ⟨fun _ _ => rfl, fun j hj => ?_, rfl, rfl, rfl, rfl⟩
  show gup (gup (gup x.2.1 32 0) 29 0) 18 0 j = _
  rw [gup_ne (by omega), gup_ne (by omega), gup_ne (by omega)]
theorem r_mrtD (h : x.2.1 31 = 0) : ∀ y o z, mrt (gH y x o z) = some (gH y (((gz3 x).1, gup (gz3 x).2.1 31 0, (gz3 x).2.2.1, (gz3 x).2.2.2.1, (gz3 x).2.2.2.2.1, (gz3 x).2.2.2.2.2.1, (gz3 x).2.2.2.2.2.2.1, (gz3 x).2.2.2.2.2.2.2.1, (gz3 x).2.2.2.2.2.2.2.2.1, (gz3 x).2.2.2.2.2.2.2.2.2.1, (gz3 x).2.2.2.2.2.2.2.2.2.2.1, (gz3 x).2.2.2.2.2.2.2.2.2.2.2.1, (gz3 x).2.2.2.2.2.2.2.2.2.2.2.2.1, (gz3 x).2.2.2.2.2.2.2.2.2.2.2.2.2.1, (gz3 x).2.2.2.2.2.2.2.2.2.2.2.2.2.2.1, (gz3 x).2.2.2.2.2.2.2.2.2.2.2.2.2.2.2) : gX) o z) := by
  intro y o z
  rw [mrt, hp_188_32, Option.bind_some, hp_188_29, Option.bind_some, hp_188_18, Option.bind_some]
  show ((gv_gI (gH y (gz3 x) o z) (some 188) 7 31).bind _) = _
  rw [hi_188_31, Option.bind_some, if_pos (show (gz3 x).2.1 31 = 0 from h)]
  exact r_40 y o z
theorem r_mrt (h : x.2.1 31 = 1) : ∀ y o z, mrt (gH y x o z) = (mM_next (some 188) (gH y (gz3 x) o z)).bind fun r12 => if r12.1 = (15 : Int32) then mM_takeAll_41 (some 188) (some 188) (1 : Int32) r12.2 else mM_takeAll_40 (some 188) (some 188) r12.2 := by
  intro y o z
  have g31 : ¬ (gz3 x).2.1 31 = 0 := by
    show ¬ x.2.1 31 = 0
    rw [h]; exact i_10
  rw [mrt, hp_188_32, Option.bind_some, hp_188_29, Option.bind_some, hp_188_18, Option.bind_some]
  show ((gv_gI (gH y (gz3 x) o z) (some 188) 7 31).bind _) = _
  rw [hi_188_31, Option.bind_some, if_neg g31, ho_188, Option.bind_some]
  rfl
theorem r_mrtN (h : x.2.1 31 = 1) (G : gD n0 f q m N pos u (gz3 x)) (c : ¬ (pos < m ∧ u.2.2.2.2.1 pos = 15)) : ∃ x', x'.2.1 31 = 0 ∧ gXd N x x' ∧ ∀ y o z, mrt (gH y x o z) = some (gH y x' o z) := by
  have z3 : gXd N x (gz3 x) := gXd_z3
  by_cases p : pos < m
  · have e : ¬ u.2.2.2.2.1 pos = 15 := fun h => c ⟨p, h⟩
    have d1 : gXd N (gz3 x) (sx (gz3 x) (pos + 1)) := gXd_s (fun i hi => gup_ne (by omega))
    have d2 : gXd N (sx (gz3 x) (pos + 1)) (((sx (gz3 x) (pos + 1)).1, gup (sx (gz3 x) (pos + 1)).2.1 31 0, (sx (gz3 x) (pos + 1)).2.2.1, (sx (gz3 x) (pos + 1)).2.2.2.1, (sx (gz3 x) (pos + 1)).2.2.2.2.1, (sx (gz3 x) (pos + 1)).2.2.2.2.2.1, (sx (gz3 x) (pos + 1)).2.2.2.2.2.2.1, (sx (gz3 x) (pos + 1)).2.2.2.2.2.2.2.1, (sx (gz3 x) (pos + 1)).2.2.2.2.2.2.2.2.1, (sx (gz3 x) (pos + 1)).2.2.2.2.2.2.2.2.2.1, (sx (gz3 x) (pos + 1)).2.2.2.2.2.2.2.2.2.2.1, (sx (gz3 x) (pos + 1)).2.2.2.2.2.2.2.2.2.2.2.1, (sx (gz3 x) (pos + 1)).2.2.2.2.2.2.2.2.2.2.2.2.1, (sx (gz3 x) (pos + 1)).2.2.2.2.2.2.2.2.2.2.2.2.2.1, (sx (gz3 x) (pos + 1)).2.2.2.2.2.2.2.2.2.2.2.2.2.2.1, (sx (gz3 x) (pos + 1)).2.2.2.2.2.2.2.2.2.2.2.2.2.2.2) : gX) := gXd_31
    refine ⟨(((sx (gz3 x) (pos + 1)).1, gup (sx (gz3 x) (pos + 1)).2.1 31 0, (sx (gz3 x) (pos + 1)).2.2.1, (sx (gz3 x) (pos + 1)).2.2.2.1, (sx (gz3 x) (pos + 1)).2.2.2.2.1, (sx (gz3 x) (pos + 1)).2.2.2.2.2.1, (sx (gz3 x) (pos + 1)).2.2.2.2.2.2.1, (sx (gz3 x) (pos + 1)).2.2.2.2.2.2.2.1, (sx (gz3 x) (pos + 1)).2.2.2.2.2.2.2.2.1, (sx (gz3 x) (pos + 1)).2.2.2.2.2.2.2.2.2.1, (sx (gz3 x) (pos + 1)).2.2.2.2.2.2.2.2.2.2.1, (sx (gz3 x) (pos + 1)).2.2.2.2.2.2.2.2.2.2.2.1, (sx (gz3 x) (pos + 1)).2.2.2.2.2.2.2.2.2.2.2.2.1, (sx (gz3 x) (pos + 1)).2.2.2.2.2.2.2.2.2.2.2.2.2.1, (sx (gz3 x) (pos + 1)).2.2.2.2.2.2.2.2.2.2.2.2.2.2.1, (sx (gz3 x) (pos + 1)).2.2.2.2.2.2.2.2.2.2.2.2.2.2.2) : gX), rfl, gXd_trans (gXd_trans z3 d1 (Nat.le_refl _)) d2 (Nat.le_refl _), fun y o z => ?_⟩
    rw [r_mrt h, r_nx G p, Option.bind_some, if_neg e, r_40]
  · have d1 : gXd N (gz3 x) (((gz3 x).1, gup (gup (gz3 x).2.1 31 0) 32 (Int32.ofNat (pos + 1)), (gz3 x).2.2.1, (gz3 x).2.2.2.1, (gz3 x).2.2.2.2.1, (gz3 x).2.2.2.2.2.1, (gz3 x).2.2.2.2.2.2.1, (gz3 x).2.2.2.2.2.2.2.1, (gz3 x).2.2.2.2.2.2.2.2.1, (gz3 x).2.2.2.2.2.2.2.2.2.1, (gz3 x).2.2.2.2.2.2.2.2.2.2.1, (gz3 x).2.2.2.2.2.2.2.2.2.2.2.1, (gz3 x).2.2.2.2.2.2.2.2.2.2.2.2.1, (gz3 x).2.2.2.2.2.2.2.2.2.2.2.2.2.1, (gz3 x).2.2.2.2.2.2.2.2.2.2.2.2.2.2.1, (gz3 x).2.2.2.2.2.2.2.2.2.2.2.2.2.2.2) : gX) := gXd_s (fun i hi => by rw [gup_ne (by omega), gup_ne (by omega)])
    have d2 : gXd N (((gz3 x).1, gup (gup (gz3 x).2.1 31 0) 32 (Int32.ofNat (pos + 1)), (gz3 x).2.2.1, (gz3 x).2.2.2.1, (gz3 x).2.2.2.2.1, (gz3 x).2.2.2.2.2.1, (gz3 x).2.2.2.2.2.2.1, (gz3 x).2.2.2.2.2.2.2.1, (gz3 x).2.2.2.2.2.2.2.2.1, (gz3 x).2.2.2.2.2.2.2.2.2.1, (gz3 x).2.2.2.2.2.2.2.2.2.2.1, (gz3 x).2.2.2.2.2.2.2.2.2.2.2.1, (gz3 x).2.2.2.2.2.2.2.2.2.2.2.2.1, (gz3 x).2.2.2.2.2.2.2.2.2.2.2.2.2.1, (gz3 x).2.2.2.2.2.2.2.2.2.2.2.2.2.2.1, (gz3 x).2.2.2.2.2.2.2.2.2.2.2.2.2.2.2) : gX) (((gz3 x).1, gup (gup (gup (gz3 x).2.1 31 0) 32 (Int32.ofNat (pos + 1))) 31 0, (gz3 x).2.2.1, (gz3 x).2.2.2.1, (gz3 x).2.2.2.2.1, (gz3 x).2.2.2.2.2.1, (gz3 x).2.2.2.2.2.2.1, (gz3 x).2.2.2.2.2.2.2.1, (gz3 x).2.2.2.2.2.2.2.2.1, (gz3 x).2.2.2.2.2.2.2.2.2.1, (gz3 x).2.2.2.2.2.2.2.2.2.2.1, (gz3 x).2.2.2.2.2.2.2.2.2.2.2.1, (gz3 x).2.2.2.2.2.2.2.2.2.2.2.2.1, (gz3 x).2.2.2.2.2.2.2.2.2.2.2.2.2.1, (gz3 x).2.2.2.2.2.2.2.2.2.2.2.2.2.2.1, (gz3 x).2.2.2.2.2.2.2.2.2.2.2.2.2.2.2) : gX) := gXd_31
    refine ⟨(((gz3 x).1, gup (gup (gup (gz3 x).2.1 31 0) 32 (Int32.ofNat (pos + 1))) 31 0, (gz3 x).2.2.1, (gz3 x).2.2.2.1, (gz3 x).2.2.2.2.1, (gz3 x).2.2.2.2.2.1, (gz3 x).2.2.2.2.2.2.1, (gz3 x).2.2.2.2.2.2.2.1, (gz3 x).2.2.2.2.2.2.2.2.1, (gz3 x).2.2.2.2.2.2.2.2.2.1, (gz3 x).2.2.2.2.2.2.2.2.2.2.1, (gz3 x).2.2.2.2.2.2.2.2.2.2.2.1, (gz3 x).2.2.2.2.2.2.2.2.2.2.2.2.1, (gz3 x).2.2.2.2.2.2.2.2.2.2.2.2.2.1, (gz3 x).2.2.2.2.2.2.2.2.2.2.2.2.2.2.1, (gz3 x).2.2.2.2.2.2.2.2.2.2.2.2.2.2.2) : gX), rfl, gXd_trans (gXd_trans z3 d1 (Nat.le_refl _)) d2 (Nat.le_refl _), fun y o z => ?_⟩
    rw [r_mrt h, r_nx0 G p, Option.bind_some, if_neg (show ¬ (0 : Int32) = 15 by decide), r_40]
theorem r_mrtY (h : x.2.1 31 = 1) (G : gD n0 f q m N pos u (gz3 x)) (p : pos < m) (e : u.2.2.2.2.1 pos = 15) : ∀ y o z, mrt (gH y x o z) = mM_takeAll_48 1000000000000000 (some 188) 1 0 (gH y (sx (gz3 x) (pos + 1)) o z) := by
  intro y o z
  have g31 : (sx (gz3 x) (pos + 1)).2.1 31 = 1 := h
  have s31 : ((((sx (gz3 x) (pos + 1)).1, gup (sx (gz3 x) (pos + 1)).2.1 31 1, (sx (gz3 x) (pos + 1)).2.2.1, (sx (gz3 x) (pos + 1)).2.2.2.1, (sx (gz3 x) (pos + 1)).2.2.2.2.1, (sx (gz3 x) (pos + 1)).2.2.2.2.2.1, (sx (gz3 x) (pos + 1)).2.2.2.2.2.2.1, (sx (gz3 x) (pos + 1)).2.2.2.2.2.2.2.1, (sx (gz3 x) (pos + 1)).2.2.2.2.2.2.2.2.1, (sx (gz3 x) (pos + 1)).2.2.2.2.2.2.2.2.2.1, (sx (gz3 x) (pos + 1)).2.2.2.2.2.2.2.2.2.2.1, (sx (gz3 x) (pos + 1)).2.2.2.2.2.2.2.2.2.2.2.1, (sx (gz3 x) (pos + 1)).2.2.2.2.2.2.2.2.2.2.2.2.1, (sx (gz3 x) (pos + 1)).2.2.2.2.2.2.2.2.2.2.2.2.2.1, (sx (gz3 x) (pos + 1)).2.2.2.2.2.2.2.2.2.2.2.2.2.2.1, (sx (gz3 x) (pos + 1)).2.2.2.2.2.2.2.2.2.2.2.2.2.2.2) : gX) : gX) = sx (gz3 x) (pos + 1) := by rw [gup_same g31]
  have hx : gv_pV (gH y (sx (gz3 x) (pos + 1)) o z) (some 188) 7 31 (.int 1) = some (gH y (sx (gz3 x) (pos + 1)) o z) := by
    rw [hp_188_31]
    exact congrArg (fun w => some (gH y w o z)) s31
  rw [r_mrt h, r_nx G p, Option.bind_some, if_pos e, mM_takeAll_41, if_neg (fun k => k (Or.inr rfl)), hx, Option.bind_some]
theorem r_last {G : Nat} (h18 : x.2.1 18 = 0) (hg : x.2.1 31 = 1) : ∀ y o z, mM_takeAll_103 (mM_takeAll_48 (G + 1)) (some 188) 0 1 (gH y x o z) = mM_takeAll_145 (some 188) (gH y x o z) := by
  intro y o z
  have g31 : ¬ x.2.1 31 = 0 := by rw [hg]; exact i_10
  rw [mM_takeAll_103, if_neg i_10, hi_188_18, Option.bind_some, if_pos h18, mM_takeAll_119, hi_188_31, Option.bind_some, if_neg g31, if_neg i_10, hi_188_18, Option.bind_some, h18, if_neg (by decide), mM_takeAll_142, mM_takeAll_48, hi_188_31, Option.bind_some, if_neg g31, if_neg i_10]
theorem r_145Y (hg : x.2.1 31 = 1) (e : x.2.1 32 = x.2.1 15) : ∀ y o z, mM_takeAll_145 (some 188) (gH y x o z) = some (gH y x o z) := by
  intro y o z
  have g31 : ¬ x.2.1 31 = 0 := by rw [hg]; exact i_10
  have s31 : (((x.1, gup x.2.1 31 1, x.2.2.1, x.2.2.2.1, x.2.2.2.2.1, x.2.2.2.2.2.1, x.2.2.2.2.2.2.1, x.2.2.2.2.2.2.2.1, x.2.2.2.2.2.2.2.2.1, x.2.2.2.2.2.2.2.2.2.1, x.2.2.2.2.2.2.2.2.2.2.1, x.2.2.2.2.2.2.2.2.2.2.2.1, x.2.2.2.2.2.2.2.2.2.2.2.2.1, x.2.2.2.2.2.2.2.2.2.2.2.2.2.1, x.2.2.2.2.2.2.2.2.2.2.2.2.2.2.1, x.2.2.2.2.2.2.2.2.2.2.2.2.2.2.2) : gX) : gX) = x := by rw [gup_same hg]
  have hx : gv_pV (gH y x o z) (some 188) 7 31 (.int 1) = some (gH y x o z) := by
    rw [hp_188_31]
    exact congrArg (fun w => some (gH y w o z)) s31
  rw [mM_takeAll_145, hi_188_31, Option.bind_some, if_neg g31, hi_188_32, Option.bind_some, hi_188_15, Option.bind_some, if_pos e, hx, Option.bind_some]
theorem r_145N (hg : x.2.1 31 = 1) (e : ¬ x.2.1 32 = x.2.1 15) : ∀ y o z, mM_takeAll_145 (some 188) (gH y x o z) = some (gH y ((x.1, gup x.2.1 31 0, x.2.2.1, x.2.2.2.1, x.2.2.2.2.1, x.2.2.2.2.2.1, x.2.2.2.2.2.2.1, x.2.2.2.2.2.2.2.1, x.2.2.2.2.2.2.2.2.1, x.2.2.2.2.2.2.2.2.2.1, x.2.2.2.2.2.2.2.2.2.2.1, x.2.2.2.2.2.2.2.2.2.2.2.1, x.2.2.2.2.2.2.2.2.2.2.2.2.1, x.2.2.2.2.2.2.2.2.2.2.2.2.2.1, x.2.2.2.2.2.2.2.2.2.2.2.2.2.2.1, x.2.2.2.2.2.2.2.2.2.2.2.2.2.2.2) : gX) o z) := by
  intro y o z
  have g31 : ¬ x.2.1 31 = 0 := by rw [hg]; exact i_10
  rw [mM_takeAll_145, hi_188_31, Option.bind_some, if_neg g31, hi_188_32, Option.bind_some, hi_188_15, Option.bind_some, if_neg e, hp_188_31, Option.bind_some]
theorem r_endT {x' : gX} {B : Nat} (hB : B < 1000000000000) (rt : gRT B 1 x x') (h18 : x'.2.1 18 = 0) (hg : x'.2.1 31 = 1) : ∀ y o z, mM_takeAll_48 1000000000000000 (some 188) 1 0 (gH y x o z) = mM_takeAll_145 (some 188) (gH y x' o z) := by
  obtain ⟨K, k1, k2⟩ := rt
  obtain ⟨g, hG⟩ : ∃ g, 1000000000000000 = g + 1 + K := ⟨1000000000000000 - 1 - K, by omega⟩
  intro y o z
  rw [hG, k2, r_last h18 hg]
theorem r_endF {x' : gX} {B : Nat} (hB : B < 1000000000000) (rf : gRF B 1 x x') : ∀ y o z, mM_takeAll_48 1000000000000000 (some 188) 1 0 (gH y x o z) = some (gH y x' o z) := by
  obtain ⟨k0, K, k1, k2⟩ := rf
  obtain ⟨g, hG⟩ : ∃ g, 1000000000000000 = g + K := ⟨1000000000000000 - K, by omega⟩
  intro y o z
  rw [hG, k2]
end H
