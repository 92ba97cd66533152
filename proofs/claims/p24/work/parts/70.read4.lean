section
/-! read: what was handed over comes first -/
abbrev gHd  (n0 i : Nat) (u0 : gU) (x0 : gX) (u : gU) (x : gX) : Prop := (u.2.2.1 1 = Int32.ofNat (n0 + i)) ∧ (x.2.1 33 = Int32.ofNat (n0 + i)) ∧ (∀ k, k < n0 + i → ∃ s c, gO (n0 + i) s c (u.1 k) (x.1 k)) ∧ (∀ k, n0 ≤ k → k < n0 + i → (u.1 k).2.2.2.2.1 6 = 0) ∧ (u.2.2.2.2.2.2.2.2.2.2.2.2.1 = u0.2.2.2.2.2.2.2.2.2.2.2.2.1) ∧ (∀ t, ¬ t = 33 → x.2.1 t = x0.2.1 t) ∧ (gUf n0 u0 u) ∧ (gXd n0 x0 x)
theorem gHd.un {n0 i : Nat} {u0 : gU} {x0 : gX} {u : gU} {x : gX} (h : gHd n0 i u0 x0 u x) : u.2.2.1 1 = Int32.ofNat (n0 + i) := h.1
theorem gHd.xn {n0 i : Nat} {u0 : gU} {x0 : gX} {u : gU} {x : gX} (h : gHd n0 i u0 x0 u x) : x.2.1 33 = Int32.ofNat (n0 + i) := h.2.1
theorem gHd.ob {n0 i : Nat} {u0 : gU} {x0 : gX} {u : gU} {x : gX} (h : gHd n0 i u0 x0 u x) : ∀ k, k < n0 + i → ∃ s c, gO (n0 + i) s c (u.1 k) (x.1 k) := h.2.2.1
theorem gHd.nd {n0 i : Nat} {u0 : gU} {x0 : gX} {u : gU} {x : gX} (h : gHd n0 i u0 x0 u x) : ∀ k, n0 ≤ k → k < n0 + i → (u.1 k).2.2.2.2.1 6 = 0 := h.2.2.2.1
theorem gHd.uk {n0 i : Nat} {u0 : gU} {x0 : gX} {u : gU} {x : gX} (h : gHd n0 i u0 x0 u x) : u.2.2.2.2.2.2.2.2.2.2.2.2.1 = u0.2.2.2.2.2.2.2.2.2.2.2.2.1 := h.2.2.2.2.1
theorem gHd.xk {n0 i : Nat} {u0 : gU} {x0 : gX} {u : gU} {x : gX} (h : gHd n0 i u0 x0 u x) : ∀ t, ¬ t = 33 → x.2.1 t = x0.2.1 t := h.2.2.2.2.2.1
theorem gHd.uf {n0 i : Nat} {u0 : gU} {x0 : gX} {u : gU} {x : gX} (h : gHd n0 i u0 x0 u x) : gUf n0 u0 u := h.2.2.2.2.2.2.1
theorem gHd.xd {n0 i : Nat} {u0 : gU} {x0 : gX} {u : gU} {x : gX} (h : gHd n0 i u0 x0 u x) : gXd n0 x0 x := h.2.2.2.2.2.2.2
section H
variable {n0 q N : Nat} {u u0 : gU} {x x0 : gX}
theorem k_btU {s : Int32} (hu : u.2.2.1 1 = Int32.ofNat N) (hN : N < 32) : ∀ y o z, cR_beginThing (some 187) (some 1) s (gH u y o z) = some (some (3 + 5 * N), gH (ub u N s) y o z) := by
  intro y o z
  have e : (ub u N s).2.2.1 1 = Int32.ofNat (N + 1) := rfl
  unfold cR_beginThing
  rw [ho_1, Option.bind_some, k_begin hu hN, Option.bind_some, if_neg (n_ne1 (by omega)), cR_beginThing_16, ho_1, Option.bind_some]
  show ((cS_thingAt (some 1) (Int32.ofNat N) (gH (ub u N s) y o z)).bind _) = _
  rw [k_tin e (by omega) (by omega), Option.bind_some]
  rfl
theorem k_btU0 {s : Int32} (hu : u.2.2.1 1 = Int32.ofNat 32) : ∀ y o z, cR_beginThing (some 187) (some 1) s (gH u y o z) = some (none, gH ((u.1, u.2.1, u.2.2.1, u.2.2.2.1, u.2.2.2.2.1, u.2.2.2.2.2.1, u.2.2.2.2.2.2.1, u.2.2.2.2.2.2.2.1, u.2.2.2.2.2.2.2.2.1, u.2.2.2.2.2.2.2.2.2.1, u.2.2.2.2.2.2.2.2.2.2.1, u.2.2.2.2.2.2.2.2.2.2.2.1, gup u.2.2.2.2.2.2.2.2.2.2.2.2.1 1 1, u.2.2.2.2.2.2.2.2.2.2.2.2.2.1, u.2.2.2.2.2.2.2.2.2.2.2.2.2.2) : gU) y o z) := by
  intro y o z
  unfold cR_beginThing
  rw [ho_1, Option.bind_some, k_beginF hu, Option.bind_some, if_pos rfl, hp_187_1, Option.bind_some, cR_beginThing_16, ho_1, Option.bind_some, k_tout (u := ((u.1, u.2.1, u.2.2.1, u.2.2.2.1, u.2.2.2.2.1, u.2.2.2.2.2.1, u.2.2.2.2.2.2.1, u.2.2.2.2.2.2.2.1, u.2.2.2.2.2.2.2.2.1, u.2.2.2.2.2.2.2.2.2.1, u.2.2.2.2.2.2.2.2.2.2.1, u.2.2.2.2.2.2.2.2.2.2.2.1, gup u.2.2.2.2.2.2.2.2.2.2.2.2.1 1 1, u.2.2.2.2.2.2.2.2.2.2.2.2.2.1, u.2.2.2.2.2.2.2.2.2.2.2.2.2.2) : gU)) (n := 32) hu (Or.inl (show (-1 : Int32) < 0 by decide)), Option.bind_some]
theorem r_noU {s : Int32} (hg : x.2.1 31 = 1) (hx : x.2.1 33 = Int32.ofNat N) (hN : N < 32) : ∀ y o z, mM_nextObject (some 188) s (gH y x o z) = some (Int32.ofNat N, gH y (xb x N s) o z) := by
  intro y o z
  have es : (((x.1, gup x.2.1 31 1, x.2.2.1, x.2.2.2.1, x.2.2.2.2.1, x.2.2.2.2.2.1, x.2.2.2.2.2.2.1, x.2.2.2.2.2.2.2.1, x.2.2.2.2.2.2.2.2.1, x.2.2.2.2.2.2.2.2.2.1, x.2.2.2.2.2.2.2.2.2.2.1, x.2.2.2.2.2.2.2.2.2.2.2.1, x.2.2.2.2.2.2.2.2.2.2.2.2.1, x.2.2.2.2.2.2.2.2.2.2.2.2.2.1, x.2.2.2.2.2.2.2.2.2.2.2.2.2.2.1, x.2.2.2.2.2.2.2.2.2.2.2.2.2.2.2) : gX) : gX) = x := by rw [gup_same hg]
  have h1 : gv_pV (gH y x o z) (some 188) 7 31 (.int 1) = some (gH y x o z) := by
    rw [hp_188_31]
    exact congrArg (fun w => some (gH y w o z)) es
  have g1 : ¬ x.2.1 31 = 0 := by rw [hg]; exact i_10
  have l32 : Int32.ofNat N < 32 := n_ltl (m := 32) (by omega) (by omega) hN
  rw [mM_nextObject, hi_188_31, Option.bind_some, if_neg g1, hi_188_33, Option.bind_some, hx, if_pos l32, mM_nextObject_22, if_neg (by decide), h1, Option.bind_some, hi_188_31, Option.bind_some, if_neg g1, hi_188_33, Option.bind_some, hx, mM_nextObject_41, hi_188_31, Option.bind_some, if_neg g1, ho_188, Option.bind_some]
  simp only [mM_begin, hr_188_2, Option.bind_some, hb_189 hN, hr_188_3, hb_190 hN, hr_188_4, hb_191 hN, hr_188_5, hb_192 hN, gup_eq, gup_gup, hi_188_33, hx, n_succ, hp_188_33, show (0 : Int32) &&& 1 = 0 from rfl]
  rfl
/-- one holder made anew by the class -/
def uh (u : gU) (N i : Nat) : gU := ((gup u.1 N (((gq_new (u.1 N) 4).1, (gq_new (u.1 N) 4).2.1, (gq_new (u.1 N) 4).2.2.1, (gq_new (u.1 N) 4).2.2.2.1, gup (gq_new (u.1 N) 4).2.2.2.2.1 5 (u.2.2.2.2.2.2.2.1 i), gup (gq_new (u.1 N) 4).2.2.2.2.2 10 (u.2.2.2.2.2.2.2.2.2.2.2.2.2.2 i)) : gQ), u.2.1, gup u.2.2.1 1 (Int32.ofNat (N + 1)), u.2.2.2.1, u.2.2.2.2.1, u.2.2.2.2.2.1, u.2.2.2.2.2.2.1, u.2.2.2.2.2.2.2.1, u.2.2.2.2.2.2.2.2.1, u.2.2.2.2.2.2.2.2.2.1, u.2.2.2.2.2.2.2.2.2.2.1, u.2.2.2.2.2.2.2.2.2.2.2.1, u.2.2.2.2.2.2.2.2.2.2.2.2.1, u.2.2.2.2.2.2.2.2.2.2.2.2.2.1, u.2.2.2.2.2.2.2.2.2.2.2.2.2.2) : gU)
theorem k_mhStep {i g : Nat} (hu : u.2.2.1 1 = Int32.ofNat N) (hN : N < 32) (h5 : u.2.2.2.2.2.2.2.2.2.2.2.2.1 5 = Int32.ofNat q) (hq : q ≤ 4) (hi : i < q) : ∀ y o z, cR_makeHanded_18 (g + 1) (some 187) (some 1) (some 165) (Int32.ofNat i) (gH u y o z) = cR_makeHanded_18 g (some 187) (some 1) (some 165) (Int32.ofNat (i + 1)) (gH (uh u N i) y o z) := by
  intro y o z
  have i4 : i < 4 := by omega
  have eC : (ub u N 4).1 N = gq_new (u.1 N) 4 := gup_eq
  have eCC : ∀ v, gup (ub u N 4).1 N v = gup u.1 N v := fun v => gup_gup
  rw [cR_makeHanded_18, hi_187_5, Option.bind_some, h5, if_pos (n_ltl (by omega) (by omega) hi), ho_187, Option.bind_some, k_btU hu hN, Option.bind_some, if_neg (by simp), hr_165_2, Option.bind_some, ha_167 i4, Option.bind_some, hr_165_3, Option.bind_some, ha_168 i4, Option.bind_some, ho_T hN, Option.bind_some, k_hold (u := ub u N 4) hN, Option.bind_some, cR_makeHanded_56, n_succ, eC, eCC]
  rfl
theorem k_mhFull {i g : Nat} (hu : u.2.2.1 1 = Int32.ofNat 32) (h5 : u.2.2.2.2.2.2.2.2.2.2.2.2.1 5 = Int32.ofNat q) (hq : q ≤ 4) (hi : i < q) : ∀ y o z, cR_makeHanded_18 (g + 1) (some 187) (some 1) (some 165) (Int32.ofNat i) (gH u y o z) = cR_makeHanded_18 g (some 187) (some 1) (some 165) (Int32.ofNat (i + 1)) (gH ((u.1, u.2.1, u.2.2.1, u.2.2.2.1, u.2.2.2.2.1, u.2.2.2.2.2.1, u.2.2.2.2.2.2.1, u.2.2.2.2.2.2.2.1, u.2.2.2.2.2.2.2.2.1, u.2.2.2.2.2.2.2.2.2.1, u.2.2.2.2.2.2.2.2.2.2.1, u.2.2.2.2.2.2.2.2.2.2.2.1, gup u.2.2.2.2.2.2.2.2.2.2.2.2.1 1 1, u.2.2.2.2.2.2.2.2.2.2.2.2.2.1, u.2.2.2.2.2.2.2.2.2.2.2.2.2.2) : gU) y o z) := by
  intro y o z
  rw [cR_makeHanded_18, hi_187_5, Option.bind_some, h5, if_pos (n_ltl (by omega) (by omega) hi), ho_187, Option.bind_some, k_btU0 hu, Option.bind_some, if_pos rfl, cR_makeHanded_56, n_succ]
theorem k_mhEnd {g : Nat} (h5 : u.2.2.2.2.2.2.2.2.2.2.2.2.1 5 = Int32.ofNat q) (hq : q ≤ 4) : ∀ y o z, cR_makeHanded_18 (g + 1) (some 187) (some 1) (some 165) (Int32.ofNat q) (gH u y o z) = some (gH ((u.1, u.2.1, u.2.2.1, u.2.2.2.1, u.2.2.2.2.1, u.2.2.2.2.2.1, u.2.2.2.2.2.2.1, u.2.2.2.2.2.2.2.1, u.2.2.2.2.2.2.2.2.1, u.2.2.2.2.2.2.2.2.2.1, u.2.2.2.2.2.2.2.2.2.2.1, u.2.2.2.2.2.2.2.2.2.2.2.1, gup u.2.2.2.2.2.2.2.2.2.2.2.2.1 6 (u.2.2.1 1), u.2.2.2.2.2.2.2.2.2.2.2.2.2.1, u.2.2.2.2.2.2.2.2.2.2.2.2.2.2) : gU) y o z) := by
  intro y o z
  rw [cR_makeHanded_18, hi_187_5, Option.bind_some, h5, if_neg (n_nltl (by omega) (by omega) (by omega)), hi_1_1, Option.bind_some, hp_187_6, Option.bind_some]
/-- too many: the class refuses -/
theorem k_mhL (hq : q ≤ 4) : ∀ (r i g N : Nat) (u : gU), i + r = q → n0 ≤ N → N ≤ 32 → u.2.2.1 1 = Int32.ofNat N → u.2.2.2.2.2.2.2.2.2.2.2.2.1 5 = Int32.ofNat q → (32 < N + r ∨ u.2.2.2.2.2.2.2.2.2.2.2.2.1 1 = 1) → ∃ u', (∀ y o z, cR_makeHanded_18 (g + r + 1) (some 187) (some 1) (some 165) (Int32.ofNat i) (gH u y o z) = some (gH u' y o z)) ∧ u'.2.2.2.2.2.2.2.2.2.2.2.2.1 1 = 1 ∧ gUf n0 u u' := by
  intro r
  induction r with
  | zero =>
    intro i g N u e n1 n2 h1 h5 w
    obtain rfl : i = q := by omega
    refine ⟨_, k_mhEnd h5 hq, ?_, gUf_r⟩
    rcases w with w | w
    · omega
    · exact w
  | succ r ih =>
    intro i g N u e n1 n2 h1 h5 w
    by_cases c : N < 32
    · obtain ⟨u', a1, a2, a3⟩ := ih (i + 1) g (N + 1) (uh u N i) (by omega) (by omega) (by omega) rfl h5 (by
        rcases w with w | w
        · exact Or.inl (by omega)
        · exact Or.inr w)
      have f0 : gUf n0 u (uh u N i) := ⟨fun j hj => gup_ne (by omega), rfl, rfl, rfl, rfl, rfl, rfl, rfl⟩
      refine ⟨u', fun y o z => ?_, a2, gUf_trans f0 a3 (Nat.le_refl _)⟩
      rw [show g + (r + 1) + 1 = (g + r + 1) + 1 by omega, k_mhStep h1 c h5 hq (by omega)]
      exact a1 y o z
    · obtain rfl : N = 32 := by omega
      obtain ⟨u', a1, a2, a3⟩ := ih (i + 1) g 32 ((u.1, u.2.1, u.2.2.1, u.2.2.2.1, u.2.2.2.2.1, u.2.2.2.2.2.1, u.2.2.2.2.2.2.1, u.2.2.2.2.2.2.2.1, u.2.2.2.2.2.2.2.2.1, u.2.2.2.2.2.2.2.2.2.1, u.2.2.2.2.2.2.2.2.2.2.1, u.2.2.2.2.2.2.2.2.2.2.2.1, gup u.2.2.2.2.2.2.2.2.2.2.2.2.1 1 1, u.2.2.2.2.2.2.2.2.2.2.2.2.2.1, u.2.2.2.2.2.2.2.2.2.2.2.2.2.2) : gU) (by omega) n1 n2 h1 h5 (Or.inr rfl)
      have f0 : gUf n0 u ((u.1, u.2.1, u.2.2.1, u.2.2.2.1, u.2.2.2.2.1, u.2.2.2.2.2.1, u.2.2.2.2.2.2.1, u.2.2.2.2.2.2.2.1, u.2.2.2.2.2.2.2.2.1, u.2.2.2.2.2.2.2.2.2.1, u.2.2.2.2.2.2.2.2.2.2.1, u.2.2.2.2.2.2.2.2.2.2.2.1, gup u.2.2.2.2.2.2.2.2.2.2.2.2.1 1 1, u.2.2.2.2.2.2.2.2.2.2.2.2.2.1, u.2.2.2.2.2.2.2.2.2.2.2.2.2.2) : gU) := gUf_r
      refine ⟨u', fun y o z => ?_, a2, gUf_trans f0 a3 (Nat.le_refl _)⟩
      rw [show g + (r + 1) + 1 = (g + r + 1) + 1 by omega, k_mhFull h1 h5 hq (by omega)]
      exact a1 y o z
/-- a holder's bytes, on the reference's side -/
theorem r_th68 {rec : Option Nat → Int32 → gx_H → Option gx_H} {i : Nat} (hN : N < 32) (hi : i < 4) : ∀ (r j g : Nat) (x : gX), j + r = 8 → ∃ v, (∀ y o z, mM_takeHolders_68 rec (g + r + 1) (some 188) (Int32.ofNat i) (Int32.ofNat N) (Int32.ofNat j) (gH y x o z) = rec (some 188) (Int32.ofNat (i + 1)) (gH y ((gup x.1 N (((x.1 N).1, (x.1 N).2.1, (x.1 N).2.2.1, v, (x.1 N).2.2.2.2.1, (x.1 N).2.2.2.2.2.1, (x.1 N).2.2.2.2.2.2.1, (x.1 N).2.2.2.2.2.2.2) : gP), x.2.1, x.2.2.1, x.2.2.2.1, x.2.2.2.2.1, x.2.2.2.2.2.1, x.2.2.2.2.2.2.1, x.2.2.2.2.2.2.2.1, x.2.2.2.2.2.2.2.2.1, x.2.2.2.2.2.2.2.2.2.1, x.2.2.2.2.2.2.2.2.2.2.1, x.2.2.2.2.2.2.2.2.2.2.2.1, x.2.2.2.2.2.2.2.2.2.2.2.2.1, x.2.2.2.2.2.2.2.2.2.2.2.2.2.1, x.2.2.2.2.2.2.2.2.2.2.2.2.2.2.1, x.2.2.2.2.2.2.2.2.2.2.2.2.2.2.2) : gX) o z)) ∧ (∀ t, t < j → v t = (x.1 N).2.2.2.1 t) ∧ ∀ t, j ≤ t → t < 8 → v t = x.2.2.2.2.1 (8 * i + t) := by
  intro r
  induction r with
  | zero =>
    intro j g x e
    obtain rfl : j = 8 := by omega
    refine ⟨(x.1 N).2.2.2.1, fun y o z => ?_, fun _ _ => rfl, fun t a b => by omega⟩
    rw [mM_takeHolders_68, if_neg (show ¬ Int32.ofNat 8 < 8 by decide), n_succ]
    have eR : gup x.1 N (((x.1 N).1, (x.1 N).2.1, (x.1 N).2.2.1, (x.1 N).2.2.2.1, (x.1 N).2.2.2.2.1, (x.1 N).2.2.2.2.2.1, (x.1 N).2.2.2.2.2.2.1, (x.1 N).2.2.2.2.2.2.2) : gP) = x.1 := gup_self
    rw [eR]
  | succ r ih =>
    intro j g x e
    have ek : (((gup x.1 N (((x.1 N).1, (x.1 N).2.1, (x.1 N).2.2.1, gup (x.1 N).2.2.2.1 j (x.2.2.2.2.1 (8 * i + j)), (x.1 N).2.2.2.2.1, (x.1 N).2.2.2.2.2.1, (x.1 N).2.2.2.2.2.2.1, (x.1 N).2.2.2.2.2.2.2) : gP), x.2.1, x.2.2.1, x.2.2.2.1, x.2.2.2.2.1, x.2.2.2.2.2.1, x.2.2.2.2.2.2.1, x.2.2.2.2.2.2.2.1, x.2.2.2.2.2.2.2.2.1, x.2.2.2.2.2.2.2.2.2.1, x.2.2.2.2.2.2.2.2.2.2.1, x.2.2.2.2.2.2.2.2.2.2.2.1, x.2.2.2.2.2.2.2.2.2.2.2.2.1, x.2.2.2.2.2.2.2.2.2.2.2.2.2.1, x.2.2.2.2.2.2.2.2.2.2.2.2.2.2.1, x.2.2.2.2.2.2.2.2.2.2.2.2.2.2.2) : gX) : gX).1 N = (((x.1 N).1, (x.1 N).2.1, (x.1 N).2.2.1, gup (x.1 N).2.2.2.1 j (x.2.2.2.2.1 (8 * i + j)), (x.1 N).2.2.2.2.1, (x.1 N).2.2.2.2.2.1, (x.1 N).2.2.2.2.2.2.1, (x.1 N).2.2.2.2.2.2.2) : gP) := gup_eq
    obtain ⟨v, h1, h2, h3⟩ := ih (j + 1) g ((gup x.1 N (((x.1 N).1, (x.1 N).2.1, (x.1 N).2.2.1, gup (x.1 N).2.2.2.1 j (x.2.2.2.2.1 (8 * i + j)), (x.1 N).2.2.2.2.1, (x.1 N).2.2.2.2.2.1, (x.1 N).2.2.2.2.2.2.1, (x.1 N).2.2.2.2.2.2.2) : gP), x.2.1, x.2.2.1, x.2.2.2.1, x.2.2.2.2.1, x.2.2.2.2.2.1, x.2.2.2.2.2.2.1, x.2.2.2.2.2.2.2.1, x.2.2.2.2.2.2.2.2.1, x.2.2.2.2.2.2.2.2.2.1, x.2.2.2.2.2.2.2.2.2.2.1, x.2.2.2.2.2.2.2.2.2.2.2.1, x.2.2.2.2.2.2.2.2.2.2.2.2.1, x.2.2.2.2.2.2.2.2.2.2.2.2.2.1, x.2.2.2.2.2.2.2.2.2.2.2.2.2.2.1, x.2.2.2.2.2.2.2.2.2.2.2.2.2.2.2) : gX) (by omega)
    refine ⟨v, fun y o z => ?_, fun t ht => ?_, fun t a b => ?_⟩
    · rw [show g + (r + 1) + 1 = (g + r + 1) + 1 by omega, mM_takeHolders_68, if_pos (show Int32.ofNat j < 8 from n_ltl (m := 8) (by omega) (by omega) (by omega)), hr_188_9, Option.bind_some, hr_188_14, Option.bind_some, n_8, ha_199 (show 8 * i + j < 32 by omega), Option.bind_some, n_8, hb_196 hN (show j < 8 by omega), Option.bind_some, n_succ]
      refine (h1 y o z).trans ?_
      rw [ek]
      show rec (some 188) (Int32.ofNat (i + 1)) (gH y ((gup (gup x.1 N (((x.1 N).1, (x.1 N).2.1, (x.1 N).2.2.1, gup (x.1 N).2.2.2.1 j (x.2.2.2.2.1 (8 * i + j)), (x.1 N).2.2.2.2.1, (x.1 N).2.2.2.2.2.1, (x.1 N).2.2.2.2.2.2.1, (x.1 N).2.2.2.2.2.2.2) : gP)) N (((x.1 N).1, (x.1 N).2.1, (x.1 N).2.2.1, v, (x.1 N).2.2.2.2.1, (x.1 N).2.2.2.2.2.1, (x.1 N).2.2.2.2.2.2.1, (x.1 N).2.2.2.2.2.2.2) : gP), x.2.1, x.2.2.1, x.2.2.2.1, x.2.2.2.2.1, x.2.2.2.2.2.1, x.2.2.2.2.2.2.1, x.2.2.2.2.2.2.2.1, x.2.2.2.2.2.2.2.2.1, x.2.2.2.2.2.2.2.2.2.1, x.2.2.2.2.2.2.2.2.2.2.1, x.2.2.2.2.2.2.2.2.2.2.2.1, x.2.2.2.2.2.2.2.2.2.2.2.2.1, x.2.2.2.2.2.2.2.2.2.2.2.2.2.1, x.2.2.2.2.2.2.2.2.2.2.2.2.2.2.1, x.2.2.2.2.2.2.2.2.2.2.2.2.2.2.2) : gX) o z) = _
      rw [gup_gup]
    · rw [h2 t (by omega), ek]
      exact gup_ne (by omega)
    · by_cases c : t = j
      · subst c
        rw [h2 t (by omega), ek]
        exact gup_eq
      · exact h3 t (by omega) b
theorem r_thStep {i g l : Nat} (hg : x.2.1 31 = 1) (hx : x.2.1 33 = Int32.ofNat N) (hN : N < 32) (h12 : x.2.1 12 = Int32.ofNat q) (hq : q ≤ 4) (hi : i < q) (hl : x.2.2.2.1 i = Int32.ofNat l) : ∃ v, (∀ y o z, mM_takeHolders_33 (g + 1) (some 188) (Int32.ofNat i) (gH y x o z) = mM_takeHolders_33 g (some 188) (Int32.ofNat (i + 1)) (gH y ((gup x.1 N (((gp_new (x.1 N) 4).1, (gp_new (x.1 N) 4).2.1, (gp_new (x.1 N) 4).2.2.1, v, (gp_new (x.1 N) 4).2.2.2.2.1, Int32.ofNat l, (gp_new (x.1 N) 4).2.2.2.2.2.2.1, (gp_new (x.1 N) 4).2.2.2.2.2.2.2) : gP), (xb x N 4).2.1, (xb x N 4).2.2.1, (xb x N 4).2.2.2.1, (xb x N 4).2.2.2.2.1, (xb x N 4).2.2.2.2.2.1, (xb x N 4).2.2.2.2.2.2.1, (xb x N 4).2.2.2.2.2.2.2.1, (xb x N 4).2.2.2.2.2.2.2.2.1, (xb x N 4).2.2.2.2.2.2.2.2.2.1, (xb x N 4).2.2.2.2.2.2.2.2.2.2.1, (xb x N 4).2.2.2.2.2.2.2.2.2.2.2.1, (xb x N 4).2.2.2.2.2.2.2.2.2.2.2.2.1, (xb x N 4).2.2.2.2.2.2.2.2.2.2.2.2.2.1, (xb x N 4).2.2.2.2.2.2.2.2.2.2.2.2.2.2.1, (xb x N 4).2.2.2.2.2.2.2.2.2.2.2.2.2.2.2) : gX) o z)) ∧ ∀ t, t < 8 → v t = x.2.2.2.2.1 (8 * i + t) := by
  have i4 : i < 4 := by omega
  have g31 : ¬ x.2.1 31 = 0 := by rw [hg]; exact i_10
  have eR : (xb x N 4).1 N = gp_new (x.1 N) 4 := gup_eq
  have eRR : ∀ v, gup (xb x N 4).1 N v = gup x.1 N v := fun v => gup_gup
  have hl' : (xb x N 4).2.2.2.1 i = Int32.ofNat l := hl
  obtain ⟨G, hG⟩ : ∃ G, 1000000000000000 = G + 8 + 1 := ⟨999999999999991, rfl⟩
  obtain ⟨v, h1, h2, h3⟩ := r_th68 (rec := mM_takeHolders_33 g) (i := i) hN i4 8 0 G ((gup x.1 N (((gp_new (x.1 N) 4).1, (gp_new (x.1 N) 4).2.1, (gp_new (x.1 N) 4).2.2.1, (gp_new (x.1 N) 4).2.2.2.1, (gp_new (x.1 N) 4).2.2.2.2.1, Int32.ofNat l, (gp_new (x.1 N) 4).2.2.2.2.2.2.1, (gp_new (x.1 N) 4).2.2.2.2.2.2.2) : gP), (xb x N 4).2.1, (xb x N 4).2.2.1, (xb x N 4).2.2.2.1, (xb x N 4).2.2.2.2.1, (xb x N 4).2.2.2.2.2.1, (xb x N 4).2.2.2.2.2.2.1, (xb x N 4).2.2.2.2.2.2.2.1, (xb x N 4).2.2.2.2.2.2.2.2.1, (xb x N 4).2.2.2.2.2.2.2.2.2.1, (xb x N 4).2.2.2.2.2.2.2.2.2.2.1, (xb x N 4).2.2.2.2.2.2.2.2.2.2.2.1, (xb x N 4).2.2.2.2.2.2.2.2.2.2.2.2.1, (xb x N 4).2.2.2.2.2.2.2.2.2.2.2.2.2.1, (xb x N 4).2.2.2.2.2.2.2.2.2.2.2.2.2.2.1, (xb x N 4).2.2.2.2.2.2.2.2.2.2.2.2.2.2.2) : gX) (by omega)
  have ek : (((gup x.1 N (((gp_new (x.1 N) 4).1, (gp_new (x.1 N) 4).2.1, (gp_new (x.1 N) 4).2.2.1, (gp_new (x.1 N) 4).2.2.2.1, (gp_new (x.1 N) 4).2.2.2.2.1, Int32.ofNat l, (gp_new (x.1 N) 4).2.2.2.2.2.2.1, (gp_new (x.1 N) 4).2.2.2.2.2.2.2) : gP), (xb x N 4).2.1, (xb x N 4).2.2.1, (xb x N 4).2.2.2.1, (xb x N 4).2.2.2.2.1, (xb x N 4).2.2.2.2.2.1, (xb x N 4).2.2.2.2.2.2.1, (xb x N 4).2.2.2.2.2.2.2.1, (xb x N 4).2.2.2.2.2.2.2.2.1, (xb x N 4).2.2.2.2.2.2.2.2.2.1, (xb x N 4).2.2.2.2.2.2.2.2.2.2.1, (xb x N 4).2.2.2.2.2.2.2.2.2.2.2.1, (xb x N 4).2.2.2.2.2.2.2.2.2.2.2.2.1, (xb x N 4).2.2.2.2.2.2.2.2.2.2.2.2.2.1, (xb x N 4).2.2.2.2.2.2.2.2.2.2.2.2.2.2.1, (xb x N 4).2.2.2.2.2.2.2.2.2.2.2.2.2.2.2) : gX) : gX).1 N = (((gp_new (x.1 N) 4).1, (gp_new (x.1 N) 4).2.1, (gp_new (x.1 N) 4).2.2.1, (gp_new (x.1 N) 4).2.2.2.1, (gp_new (x.1 N) 4).2.2.2.2.1, Int32.ofNat l, (gp_new (x.1 N) 4).2.2.2.2.2.2.1, (gp_new (x.1 N) 4).2.2.2.2.2.2.2) : gP) := gup_eq
  refine ⟨v, fun y o z => ?_, fun t ht => h3 t (by omega) ht⟩
  have h1' := h1 y o z
  rw [← hG, ek] at h1'
  rw [mM_takeHolders_33, hi_188_12, Option.bind_some, h12, if_pos (n_ltl (by omega) (by omega) hi), hi_188_31, Option.bind_some, if_neg g31, ho_188, Option.bind_some, r_noU hg hx hN, Option.bind_some, hr_188_3, Option.bind_some, hr_188_13, Option.bind_some, ha_198 i4, Option.bind_some, hl', hb_190 hN, Option.bind_some, eR, eRR]
  refine Eq.trans h1' ?_
  show mM_takeHolders_33 g (some 188) (Int32.ofNat (i + 1)) (gH y ((gup (gup x.1 N (((gp_new (x.1 N) 4).1, (gp_new (x.1 N) 4).2.1, (gp_new (x.1 N) 4).2.2.1, (gp_new (x.1 N) 4).2.2.2.1, (gp_new (x.1 N) 4).2.2.2.2.1, Int32.ofNat l, (gp_new (x.1 N) 4).2.2.2.2.2.2.1, (gp_new (x.1 N) 4).2.2.2.2.2.2.2) : gP)) N (((gp_new (x.1 N) 4).1, (gp_new (x.1 N) 4).2.1, (gp_new (x.1 N) 4).2.2.1, v, (gp_new (x.1 N) 4).2.2.2.2.1, Int32.ofNat l, (gp_new (x.1 N) 4).2.2.2.2.2.2.1, (gp_new (x.1 N) 4).2.2.2.2.2.2.2) : gP), (xb x N 4).2.1, (xb x N 4).2.2.1, (xb x N 4).2.2.2.1, (xb x N 4).2.2.2.2.1, (xb x N 4).2.2.2.2.2.1, (xb x N 4).2.2.2.2.2.2.1, (xb x N 4).2.2.2.2.2.2.2.1, (xb x N 4).2.2.2.2.2.2.2.2.1, (xb x N 4).2.2.2.2.2.2.2.2.2.1, (xb x N 4).2.2.2.2.2.2.2.2.2.2.1, (xb x N 4).2.2.2.2.2.2.2.2.2.2.2.1, (xb x N 4).2.2.2.2.2.2.2.2.2.2.2.2.1, (xb x N 4).2.2.2.2.2.2.2.2.2.2.2.2.2.1, (xb x N 4).2.2.2.2.2.2.2.2.2.2.2.2.2.2.1, (xb x N 4).2.2.2.2.2.2.2.2.2.2.2.2.2.2.2) : gX) o z) = _
  rw [gup_gup]
theorem r_thEnd {g : Nat} (h12 : x.2.1 12 = Int32.ofNat q) (hq : q ≤ 4) : ∀ y o z, mM_takeHolders_33 (g + 1) (some 188) (Int32.ofNat q) (gH y x o z) = some (gH y x o z) := by
  intro y o z
  rw [mM_takeHolders_33, hi_188_12, Option.bind_some, h12, if_neg (n_nltl (by omega) (by omega) (by omega))]
/-- all holders, both sides -/
theorem rd_handL (hq : q ≤ 4) (h32 : n0 + q ≤ 32) (h5 : u0.2.2.2.2.2.2.2.2.2.2.2.2.1 5 = Int32.ofNat q) (h12 : x0.2.1 12 = Int32.ofNat q) (h31 : x0.2.1 31 = 1) (ho : ∀ i, i < q → ∃ l, l ≤ 8 ∧ u0.2.2.2.2.2.2.2.1 i = Int32.ofNat l ∧ x0.2.2.2.1 i = Int32.ofNat l ∧ ∀ j, j < l → x0.2.2.2.2.1 (8 * i + j) = gt_w (u0.2.2.2.2.2.2.2.2.2.2.2.2.2.2 i) j) : ∀ (r i g g2 : Nat) (u : gU) (x : gX), i + r = q → gHd n0 i u0 x0 u x → ∃ u' x', (∀ y o z, cR_makeHanded_18 (g + r + 1) (some 187) (some 1) (some 165) (Int32.ofNat i) (gH u y o z) = some (gH ((u'.1, u'.2.1, u'.2.2.1, u'.2.2.2.1, u'.2.2.2.2.1, u'.2.2.2.2.2.1, u'.2.2.2.2.2.2.1, u'.2.2.2.2.2.2.2.1, u'.2.2.2.2.2.2.2.2.1, u'.2.2.2.2.2.2.2.2.2.1, u'.2.2.2.2.2.2.2.2.2.2.1, u'.2.2.2.2.2.2.2.2.2.2.2.1, gup u'.2.2.2.2.2.2.2.2.2.2.2.2.1 6 (Int32.ofNat (n0 + q)), u'.2.2.2.2.2.2.2.2.2.2.2.2.2.1, u'.2.2.2.2.2.2.2.2.2.2.2.2.2.2) : gU) y o z)) ∧ (∀ y o z, mM_takeHolders_33 (g2 + r + 1) (some 188) (Int32.ofNat i) (gH y x o z) = some (gH y x' o z)) ∧ gHd n0 q u0 x0 u' x' := by
  intro r
  induction r with
  | zero =>
    intro i g g2 u x e K
    obtain rfl : i = q := by omega
    refine ⟨u, x, fun y o z => ?_, r_thEnd ((K.xk 12 (by omega)).trans h12) hq, K⟩
    rw [k_mhEnd ((congrFun K.uk 5).trans h5) hq, K.un]
  | succ r ih =>
    intro i g g2 u x e K
    have hi : i < q := by omega
    have hN : n0 + i < 32 := by omega
    obtain ⟨l, l8, l1, l2, l3⟩ := ho i hi
    have l1' : u.2.2.2.2.2.2.2.1 i = Int32.ofNat l := (congrFun K.uf.u8 i).trans l1
    have l2' : x.2.2.2.1 i = Int32.ofNat l := (congrFun K.xd.d8 i).trans l2
    obtain ⟨v, r1, r2⟩ := r_thStep (g := g2 + r + 1) ((K.xk 31 (by omega)).trans h31) K.xn hN ((K.xk 12 (by omega)).trans h12) hq hi l2'
    have k1 := k_mhStep (i := i) (g := g + r + 1) K.un hN ((congrFun K.uk 5).trans h5) hq hi
    have O : gO (n0 + i + 1) 4 l (((gq_new (u.1 (n0 + i)) 4).1, (gq_new (u.1 (n0 + i)) 4).2.1, (gq_new (u.1 (n0 + i)) 4).2.2.1, (gq_new (u.1 (n0 + i)) 4).2.2.2.1, gup (gq_new (u.1 (n0 + i)) 4).2.2.2.2.1 5 (Int32.ofNat l), gup (gq_new (u.1 (n0 + i)) 4).2.2.2.2.2 10 (u.2.2.2.2.2.2.2.2.2.2.2.2.2.2 i)) : gQ) (((gp_new (x.1 (n0 + i)) 4).1, (gp_new (x.1 (n0 + i)) 4).2.1, (gp_new (x.1 (n0 + i)) 4).2.2.1, v, (gp_new (x.1 (n0 + i)) 4).2.2.2.2.1, Int32.ofNat l, (gp_new (x.1 (n0 + i)) 4).2.2.2.2.2.2.1, (gp_new (x.1 (n0 + i)) 4).2.2.2.2.2.2.2) : gP) := by
      refine gO_buf (gO_new (s := 4) (by omega) (by omega)) rfl l8 (fun t ht => ?_)
      rw [r2 t (by omega), congrFun K.xd.d9, l3 t ht, congrFun K.uf.uh]
    have K1 : gHd n0 (i + 1) u0 x0 (uh u (n0 + i) i) ((gup x.1 (n0 + i) (((gp_new (x.1 (n0 + i)) 4).1, (gp_new (x.1 (n0 + i)) 4).2.1, (gp_new (x.1 (n0 + i)) 4).2.2.1, v, (gp_new (x.1 (n0 + i)) 4).2.2.2.2.1, Int32.ofNat l, (gp_new (x.1 (n0 + i)) 4).2.2.2.2.2.2.1, (gp_new (x.1 (n0 + i)) 4).2.2.2.2.2.2.2) : gP), (xb x (n0 + i) 4).2.1, (xb x (n0 + i) 4).2.2.1, (xb x (n0 + i) 4).2.2.2.1, (xb x (n0 + i) 4).2.2.2.2.1, (xb x (n0 + i) 4).2.2.2.2.2.1, (xb x (n0 + i) 4).2.2.2.2.2.2.1, (xb x (n0 + i) 4).2.2.2.2.2.2.2.1, (xb x (n0 + i) 4).2.2.2.2.2.2.2.2.1, (xb x (n0 + i) 4).2.2.2.2.2.2.2.2.2.1, (xb x (n0 + i) 4).2.2.2.2.2.2.2.2.2.2.1, (xb x (n0 + i) 4).2.2.2.2.2.2.2.2.2.2.2.1, (xb x (n0 + i) 4).2.2.2.2.2.2.2.2.2.2.2.2.1, (xb x (n0 + i) 4).2.2.2.2.2.2.2.2.2.2.2.2.2.1, (xb x (n0 + i) 4).2.2.2.2.2.2.2.2.2.2.2.2.2.2.1, (xb x (n0 + i) 4).2.2.2.2.2.2.2.2.2.2.2.2.2.2.2) : gX) := by
      have f0 : gUf n0 u (uh u (n0 + i) i) := ⟨fun j hj => gup_ne (by omega), rfl, rfl, rfl, rfl, rfl, rfl, rfl⟩
      have f1 : gXd n0 x ((gup x.1 (n0 + i) (((gp_new (x.1 (n0 + i)) 4).1, (gp_new (x.1 (n0 + i)) 4).2.1, (gp_new (x.1 (n0 + i)) 4).2.2.1, v, (gp_new (x.1 (n0 + i)) 4).2.2.2.2.1, Int32.ofNat l, (gp_new (x.1 (n0 + i)) 4).2.2.2.2.2.2.1, (gp_new (x.1 (n0 + i)) 4).2.2.2.2.2.2.2) : gP), (xb x (n0 + i) 4).2.1, (xb x (n0 + i) 4).2.2.1, (xb x (n0 + i) 4).2.2.2.1, (xb x (n0 + i) 4).2.2.2.2.1, (xb x (n0 + i) 4).2.2.2.2.2.1, (xb x (n0 + i) 4).2.2.2.2.2.2.1, (xb x (n0 + i) 4).2.2.2.2.2.2.2.1, (xb x (n0 + i) 4).2.2.2.2.2.2.2.2.1, (xb x (n0 + i) 4).2.2.2.2.2.2.2.2.2.1, (xb x (n0 + i) 4).2.2.2.2.2.2.2.2.2.2.1, (xb x (n0 + i) 4).2.2.2.2.2.2.2.2.2.2.2.1, (xb x (n0 + i) 4).2.2.2.2.2.2.2.2.2.2.2.2.1, (xb x (n0 + i) 4).2.2.2.2.2.2.2.2.2.2.2.2.2.1, (xb x (n0 + i) 4).2.2.2.2.2.2.2.2.2.2.2.2.2.2.1, (xb x (n0 + i) 4).2.2.2.2.2.2.2.2.2.2.2.2.2.2.2) : gX) := ⟨fun j hj => gup_ne (by omega), fun j hj => gup_ne (by omega), rfl, rfl, rfl, rfl⟩
      refine ⟨rfl, rfl, ?_, fun k a b => ?_, K.uk, fun t ht => (gup_ne ht).trans (K.xk t ht), gUf_trans K.uf f0 (Nat.le_refl _), gXd_trans K.xd f1 (Nat.le_refl _)⟩
      · show ∀ k, k < n0 + i + 1 → ∃ s c, gO (n0 + i + 1) s c (gup u.1 (n0 + i) (((gq_new (u.1 (n0 + i)) 4).1, (gq_new (u.1 (n0 + i)) 4).2.1, (gq_new (u.1 (n0 + i)) 4).2.2.1, (gq_new (u.1 (n0 + i)) 4).2.2.2.1, gup (gq_new (u.1 (n0 + i)) 4).2.2.2.2.1 5 (u.2.2.2.2.2.2.2.1 i), gup (gq_new (u.1 (n0 + i)) 4).2.2.2.2.2 10 (u.2.2.2.2.2.2.2.2.2.2.2.2.2.2 i)) : gQ) k) (gup x.1 (n0 + i) (((gp_new (x.1 (n0 + i)) 4).1, (gp_new (x.1 (n0 + i)) 4).2.1, (gp_new (x.1 (n0 + i)) 4).2.2.1, v, (gp_new (x.1 (n0 + i)) 4).2.2.2.2.1, Int32.ofNat l, (gp_new (x.1 (n0 + i)) 4).2.2.2.2.2.2.1, (gp_new (x.1 (n0 + i)) 4).2.2.2.2.2.2.2) : gP) k)
        rw [l1']
        exact gob_new K.ob ⟨4, l, O⟩
      · show (gup u.1 (n0 + i) (((gq_new (u.1 (n0 + i)) 4).1, (gq_new (u.1 (n0 + i)) 4).2.1, (gq_new (u.1 (n0 + i)) 4).2.2.1, (gq_new (u.1 (n0 + i)) 4).2.2.2.1, gup (gq_new (u.1 (n0 + i)) 4).2.2.2.2.1 5 (u.2.2.2.2.2.2.2.1 i), gup (gq_new (u.1 (n0 + i)) 4).2.2.2.2.2 10 (u.2.2.2.2.2.2.2.2.2.2.2.2.2.2 i)) : gQ) k).2.2.2.2.1 6 = 0
        by_cases c : k = n0 + i
        · subst c; rw [gup_eq]; rfl
        · rw [gup_ne c]; exact K.nd k a (by omega)
    obtain ⟨u', x', a1, a2, a3⟩ := ih (i + 1) g g2 _ _ (by omega) K1
    refine ⟨u', x', fun y o z => ?_, fun y o z => ?_, a3⟩
    · rw [show g + (r + 1) + 1 = (g + r + 1) + 1 by omega, k1]
      exact a1 y o z
    · rw [show g2 + (r + 1) + 1 = (g2 + r + 1) + 1 by omega, r1]
      exact a2 y o z
end H
end
section
/-! read: from the first byte to the last -/
/-- what the class does behind the holders -/
def crt (l4 : Int32) (h6 : gx_H) : Option (Int32 × gx_H) :=
  (gv_is h6 (some 187) 6).bind fun _ =>
  (cR_nextByte (some 187) (some 163) h6).bind fun r10 =>
  if r10.1 = (15 : Int32) then (
    cR_run_37 (some 187) (some 1) (some 163) l4 r10.2) else
  (gv_pV r10.2 (some 187) 6 1 (.int (1 : Int32))).bind fun h12 =>
  cR_run_37 (some 187) (some 1) (some 163) l4 h12
/-- what the reference does behind the holders -/
def mrt (h3 : gx_H) : Option gx_H :=
  (gv_pV h3 (some 188) 7 32 (.int (0 : Int32))).bind fun h4 =>
  (gv_pV h4 (some 188) 7 29 (.int (0 : Int32))).bind fun h5 =>
  (gv_pV h5 (some 188) 7 18 (.int (0 : Int32))).bind fun h6 =>
  (gv_gI h6 (some 188) 7 31).bind fun v7 =>
  if v7 = 0 then (
    mM_takeAll_40 (some 188) (some 188) h6) else
  (gv_is h6 (some 188) 7).bind fun _ =>
  (mM_next (some 188) h6).bind fun r12 =>
  if r12.1 = (15 : Int32) then (
    mM_takeAll_41 (some 188) (some 188) (1 : Int32) r12.2) else
  mM_takeAll_40 (some 188) (some 188) r12.2
def gz3 (x : gX) : gX := ((x.1, gup (gup (gup x.2.1 32 0) 29 0) 18 0, x.2.2.1, x.2.2.2.1, x.2.2.2.2.1, x.2.2.2.2.2.1, x.2.2.2.2.2.2.1, x.2.2.2.2.2.2.2.1, x.2.2.2.2.2.2.2.2.1, x.2.2.2.2.2.2.2.2.2.1, x.2.2.2.2.2.2.2.2.2.2.1, x.2.2.2.2.2.2.2.2.2.2.2.1, x.2.2.2.2.2.2.2.2.2.2.2.2.1, x.2.2.2.2.2.2.2.2.2.2.2.2.2.1, x.2.2.2.2.2.2.2.2.2.2.2.2.2.2.1, x.2.2.2.2.2.2.2.2.2.2.2.2.2.2.2) : gX)
section H
variable {n0 f q m N pos : Nat} {u u' : gU} {x : gX}
theorem k_73 {l : Int32} (h : u.2.2.2.2.2.2.2.2.2.2.2.2.1 1 = 1) : ∀ y o z, cR_run_60 (some 187) (some 1) l (gH u y o z) = some (0, gH ((u.1, u.2.1, gup u.2.2.1 1 l, u.2.2.2.1, u.2.2.2.2.1, u.2.2.2.2.2.1, u.2.2.2.2.2.2.1, u.2.2.2.2.2.2.2.1, u.2.2.2.2.2.2.2.2.1, u.2.2.2.2.2.2.2.2.2.1, u.2.2.2.2.2.2.2.2.2.2.1, u.2.2.2.2.2.2.2.2.2.2.2.1, u.2.2.2.2.2.2.2.2.2.2.2.2.1, u.2.2.2.2.2.2.2.2.2.2.2.2.2.1, u.2.2.2.2.2.2.2.2.2.2.2.2.2.2) : gU) y o z) := by
  intro y o z
  have h' : (((u.1, u.2.1, gup u.2.2.1 1 l, u.2.2.2.1, u.2.2.2.2.1, u.2.2.2.2.2.1, u.2.2.2.2.2.2.1, u.2.2.2.2.2.2.2.1, u.2.2.2.2.2.2.2.2.1, u.2.2.2.2.2.2.2.2.2.1, u.2.2.2.2.2.2.2.2.2.2.1, u.2.2.2.2.2.2.2.2.2.2.2.1, u.2.2.2.2.2.2.2.2.2.2.2.2.1, u.2.2.2.2.2.2.2.2.2.2.2.2.2.1, u.2.2.2.2.2.2.2.2.2.2.2.2.2.2) : gU) : gU).2.2.2.2.2.2.2.2.2.2.2.2.1 1 = 1 := h
  rw [cR_run_60, hi_187_1, Option.bind_some, if_neg (show ¬ u.2.2.2.2.2.2.2.2.2.2.2.2.1 1 = 0 by rw [h]; exact i_10), hp_1_1, Option.bind_some, cR_run_73, hi_187_1, Option.bind_some, if_neg (by rw [h']; exact i_10)]
theorem k_37W {l : Int32} (rv : ∀ y o z, cR_readValue 20 (some 187) (some 1) (some 163) 1 (gH u y o z) = some (gH u' y o z)) (h : u'.2.2.2.2.2.2.2.2.2.2.2.2.1 1 = 1) : ∀ y o z, cR_run_37 (some 187) (some 1) (some 163) l (gH u y o z) = some (0, gH ((u'.1, u'.2.1, gup u'.2.2.1 1 l, u'.2.2.2.1, u'.2.2.2.2.1, u'.2.2.2.2.2.1, u'.2.2.2.2.2.2.1, u'.2.2.2.2.2.2.2.1, u'.2.2.2.2.2.2.2.2.1, u'.2.2.2.2.2.2.2.2.2.1, u'.2.2.2.2.2.2.2.2.2.2.1, u'.2.2.2.2.2.2.2.2.2.2.2.1, u'.2.2.2.2.2.2.2.2.2.2.2.2.1, u'.2.2.2.2.2.2.2.2.2.2.2.2.2.1, u'.2.2.2.2.2.2.2.2.2.2.2.2.2.2) : gU) y o z) := by
  intro y o z
  have e : (((u'.1, u'.2.1, u'.2.2.1, u'.2.2.2.1, u'.2.2.2.2.1, u'.2.2.2.2.2.1, u'.2.2.2.2.2.2.1, u'.2.2.2.2.2.2.2.1, u'.2.2.2.2.2.2.2.2.1, u'.2.2.2.2.2.2.2.2.2.1, u'.2.2.2.2.2.2.2.2.2.2.1, u'.2.2.2.2.2.2.2.2.2.2.2.1, gup u'.2.2.2.2.2.2.2.2.2.2.2.2.1 1 1, u'.2.2.2.2.2.2.2.2.2.2.2.2.2.1, u'.2.2.2.2.2.2.2.2.2.2.2.2.2.2) : gU) : gU) = u' := by rw [gup_same h]
  have hx : gv_pV (gH u' y o z) (some 187) 6 1 (.int 1) = some (gH u' y o z) := by
    rw [hp_187_1]
    exact congrArg (fun w => some (gH w y o z)) e
  rw [cR_run_37, ho_187, Option.bind_some, rv, Option.bind_some, hi_187_0, Option.bind_some, hi_163_1, Option.bind_some, hx, Option.bind_some, k_73 h, ite_self]
theorem k_37D {l : Int32} (h : u.2.2.2.2.2.2.2.2.2.2.2.2.1 1 = 1) : ∀ y o z, cR_run_37 (some 187) (some 1) (some 163) l (gH u y o z) = some (0, gH ((u.1, u.2.1, gup u.2.2.1 1 l, u.2.2.2.1, u.2.2.2.2.1, u.2.2.2.2.2.1, u.2.2.2.2.2.2.1, u.2.2.2.2.2.2.2.1, u.2.2.2.2.2.2.2.2.1, u.2.2.2.2.2.2.2.2.2.1, u.2.2.2.2.2.2.2.2.2.2.1, u.2.2.2.2.2.2.2.2.2.2.2.1, u.2.2.2.2.2.2.2.2.2.2.2.2.1, u.2.2.2.2.2.2.2.2.2.2.2.2.2.1, u.2.2.2.2.2.2.2.2.2.2.2.2.2.2) : gU) y o z) :=
  k_37W (fun y o z => gDe_rv (n := 19) u y o z 1 h) h
theorem k_37Y {l : Int32} (rv : ∀ y o z, cR_readValue 20 (some 187) (some 1) (some 163) 1 (gH u y o z) = some (gH u' y o z)) (h : u'.2.2.2.2.2.2.2.2.2.2.2.2.1 1 = 0) (p : u'.2.2.2.2.2.2.2.2.2.2.2.2.1 0 = u'.2.2.2.1 1) : ∀ y o z, cR_run_37 (some 187) (some 1) (some 163) l (gH u y o z) = some (1, gH u' y o z) := by
  intro y o z
  rw [cR_run_37, ho_187, Option.bind_some, rv, Option.bind_some, hi_187_0, Option.bind_some, hi_163_1, Option.bind_some, if_pos (show u'.2.2.2.2.2.2.2.2.2.2.2.2.1 0 = u'.2.2.2.1 1 from p), cR_run_60, hi_187_1, Option.bind_some, if_pos (show u'.2.2.2.2.2.2.2.2.2.2.2.2.1 1 = 0 from h), cR_run_73, hi_187_1, Option.bind_some, if_pos (show u'.2.2.2.2.2.2.2.2.2.2.2.2.1 1 = 0 from h)]
theorem k_37N {l : Int32} (rv : ∀ y o z, cR_readValue 20 (some 187) (some 1) (some 163) 1 (gH u y o z) = some (gH u' y o z)) (p : ¬ u'.2.2.2.2.2.2.2.2.2.2.2.2.1 0 = u'.2.2.2.1 1) : ∀ y o z, cR_run_37 (some 187) (some 1) (some 163) l (gH u y o z) = some (0, gH ((u'.1, u'.2.1, gup u'.2.2.1 1 l, u'.2.2.2.1, u'.2.2.2.2.1, u'.2.2.2.2.2.1, u'.2.2.2.2.2.2.1, u'.2.2.2.2.2.2.2.1, u'.2.2.2.2.2.2.2.2.1, u'.2.2.2.2.2.2.2.2.2.1, u'.2.2.2.2.2.2.2.2.2.2.1, u'.2.2.2.2.2.2.2.2.2.2.2.1, gup u'.2.2.2.2.2.2.2.2.2.2.2.2.1 1 1, u'.2.2.2.2.2.2.2.2.2.2.2.2.2.1, u'.2.2.2.2.2.2.2.2.2.2.2.2.2.2) : gU) y o z) := by
  intro y o z
  rw [cR_run_37, ho_187, Option.bind_some, rv, Option.bind_some, hi_187_0, Option.bind_some, hi_163_1, Option.bind_some, if_neg (show ¬ u'.2.2.2.2.2.2.2.2.2.2.2.2.1 0 = u'.2.2.2.1 1 from p), hp_187_1, Option.bind_some]
  exact k_73 (u := ((u'.1, u'.2.1, u'.2.2.1, u'.2.2.2.1, u'.2.2.2.2.1, u'.2.2.2.2.2.1, u'.2.2.2.2.2.2.1, u'.2.2.2.2.2.2.2.1, u'.2.2.2.2.2.2.2.2.1, u'.2.2.2.2.2.2.2.2.2.1, u'.2.2.2.2.2.2.2.2.2.2.1, u'.2.2.2.2.2.2.2.2.2.2.2.1, gup u'.2.2.2.2.2.2.2.2.2.2.2.2.1 1 1, u'.2.2.2.2.2.2.2.2.2.2.2.2.2.1, u'.2.2.2.2.2.2.2.2.2.2.2.2.2.2) : gU)) rfl y o z
theorem k_crtD {l : Int32} (h : u.2.2.2.2.2.2.2.2.2.2.2.2.1 1 = 1) : ∀ y o z, crt l (gH u y o z) = some (0, gH ((u.1, u.2.1, gup u.2.2.1 1 l, u.2.2.2.1, u.2.2.2.2.1, u.2.2.2.2.2.1, u.2.2.2.2.2.2.1, u.2.2.2.2.2.2.2.1, u.2.2.2.2.2.2.2.2.1, u.2.2.2.2.2.2.2.2.2.1, u.2.2.2.2.2.2.2.2.2.2.1, u.2.2.2.2.2.2.2.2.2.2.2.1, u.2.2.2.2.2.2.2.2.2.2.2.2.1, u.2.2.2.2.2.2.2.2.2.2.2.2.2.1, u.2.2.2.2.2.2.2.2.2.2.2.2.2.2) : gU) y o z) := by
  intro y o z
  have e : (((u.1, u.2.1, u.2.2.1, u.2.2.2.1, u.2.2.2.2.1, u.2.2.2.2.2.1, u.2.2.2.2.2.2.1, u.2.2.2.2.2.2.2.1, u.2.2.2.2.2.2.2.2.1, u.2.2.2.2.2.2.2.2.2.1, u.2.2.2.2.2.2.2.2.2.2.1, u.2.2.2.2.2.2.2.2.2.2.2.1, gup u.2.2.2.2.2.2.2.2.2.2.2.2.1 1 1, u.2.2.2.2.2.2.2.2.2.2.2.2.2.1, u.2.2.2.2.2.2.2.2.2.2.2.2.2.2) : gU) : gU) = u := by rw [gup_same h]
  have hx : gv_pV (gH u y o z) (some 187) 6 1 (.int 1) = some (gH u y o z) := by
    rw [hp_187_1]
    exact congrArg (fun w => some (gH w y o z)) e
  rw [crt, ho_187, Option.bind_some, k_byteDead h, Option.bind_some, if_neg (show ¬ (0 : Int32) = 15 by decide), hx, Option.bind_some, k_37D h]
theorem k_crtY {l : Int32} (G : gD n0 f q m N pos u x) (p : pos < m) (e : u.2.2.2.2.1 pos = 15) : ∀ y o z, crt l (gH u y o z) = cR_run_37 (some 187) (some 1) (some 163) l (gH (su u (pos + 1)) y o z) := by
  intro y o z
  rw [crt, ho_187, Option.bind_some, k_nx G p, Option.bind_some, if_pos e]
theorem k_crtN {l : Int32} (G : gD n0 f q m N pos u x) (c : ¬ (pos < m ∧ u.2.2.2.2.1 pos = 15)) : ∃ u', gUf N u u' ∧ u'.2.2.1 = gup u.2.2.1 1 l ∧ ∀ y o z, crt l (gH u y o z) = some (0, gH u' y o z) := by
  by_cases p : pos < m
  · have e : ¬ u.2.2.2.2.1 pos = 15 := fun h => c ⟨p, h⟩
    refine ⟨(((su u (pos + 1)).1, (su u (pos + 1)).2.1, gup u.2.2.1 1 l, (su u (pos + 1)).2.2.2.1, (su u (pos + 1)).2.2.2.2.1, (su u (pos + 1)).2.2.2.2.2.1, (su u (pos + 1)).2.2.2.2.2.2.1, (su u (pos + 1)).2.2.2.2.2.2.2.1, (su u (pos + 1)).2.2.2.2.2.2.2.2.1, (su u (pos + 1)).2.2.2.2.2.2.2.2.2.1, (su u (pos + 1)).2.2.2.2.2.2.2.2.2.2.1, (su u (pos + 1)).2.2.2.2.2.2.2.2.2.2.2.1, gup (su u (pos + 1)).2.2.2.2.2.2.2.2.2.2.2.2.1 1 1, (su u (pos + 1)).2.2.2.2.2.2.2.2.2.2.2.2.2.1, (su u (pos + 1)).2.2.2.2.2.2.2.2.2.2.2.2.2.2) : gU), ⟨fun _ _ => rfl, rfl, rfl, rfl, rfl, rfl, rfl, rfl⟩, rfl, fun y o z => ?_⟩
    rw [crt, ho_187, Option.bind_some, k_nx G p, Option.bind_some, if_neg e, hp_187_1, Option.bind_some]
    exact k_37D (u := (((su u (pos + 1)).1, (su u (pos + 1)).2.1, (su u (pos + 1)).2.2.1, (su u (pos + 1)).2.2.2.1, (su u (pos + 1)).2.2.2.2.1, (su u (pos + 1)).2.2.2.2.2.1, (su u (pos + 1)).2.2.2.2.2.2.1, (su u (pos + 1)).2.2.2.2.2.2.2.1, (su u (pos + 1)).2.2.2.2.2.2.2.2.1, (su u (pos + 1)).2.2.2.2.2.2.2.2.2.1, (su u (pos + 1)).2.2.2.2.2.2.2.2.2.2.1, (su u (pos + 1)).2.2.2.2.2.2.2.2.2.2.2.1, gup (su u (pos + 1)).2.2.2.2.2.2.2.2.2.2.2.2.1 1 1, (su u (pos + 1)).2.2.2.2.2.2.2.2.2.2.2.2.2.1, (su u (pos + 1)).2.2.2.2.2.2.2.2.2.2.2.2.2.2) : gU)) rfl y o z
  · refine ⟨((u.1, u.2.1, gup u.2.2.1 1 l, u.2.2.2.1, u.2.2.2.2.1, u.2.2.2.2.2.1, u.2.2.2.2.2.2.1, u.2.2.2.2.2.2.2.1, u.2.2.2.2.2.2.2.2.1, u.2.2.2.2.2.2.2.2.2.1, u.2.2.2.2.2.2.2.2.2.2.1, u.2.2.2.2.2.2.2.2.2.2.2.1, gup (gup u.2.2.2.2.2.2.2.2.2.2.2.2.1 1 1) 1 1, u.2.2.2.2.2.2.2.2.2.2.2.2.2.1, u.2.2.2.2.2.2.2.2.2.2.2.2.2.2) : gU), ⟨fun _ _ => rfl, rfl, rfl, rfl, rfl, rfl, rfl, rfl⟩, rfl, fun y o z => ?_⟩
    rw [crt, ho_187, Option.bind_some, k_nx0 G p, Option.bind_some, if_neg (show ¬ (0 : Int32) = 15 by decide), hp_187_1, Option.bind_some]
    exact k_37D (u := ((u.1, u.2.1, u.2.2.1, u.2.2.2.1, u.2.2.2.2.1, u.2.2.2.2.2.1, u.2.2.2.2.2.2.1, u.2.2.2.2.2.2.2.1, u.2.2.2.2.2.2.2.2.1, u.2.2.2.2.2.2.2.2.2.1, u.2.2.2.2.2.2.2.2.2.2.1, u.2.2.2.2.2.2.2.2.2.2.2.1, gup (gup u.2.2.2.2.2.2.2.2.2.2.2.2.1 1 1) 1 1, u.2.2.2.2.2.2.2.2.2.2.2.2.2.1, u.2.2.2.2.2.2.2.2.2.2.2.2.2.2) : gU)) rfl y o z
theorem r_40 : ∀ y o z, mM_takeAll_40 (some 188) (some 188) (gH y x o z) = some (gH y ((x.1, gup x.2.1 31 0, x.2.2.1, x.2.2.2.1, x.2.2.2.2.1, x.2.2.2.2.2.1, x.2.2.2.2.2.2.1, x.2.2.2.2.2.2.2.1, x.2.2.2.2.2.2.2.2.1, x.2.2.2.2.2.2.2.2.2.1, x.2.2.2.2.2.2.2.2.2.2.1, x.2.2.2.2.2.2.2.2.2.2.2.1, x.2.2.2.2.2.2.2.2.2.2.2.2.1, x.2.2.2.2.2.2.2.2.2.2.2.2.2.1, x.2.2.2.2.2.2.2.2.2.2.2.2.2.2.1, x.2.2.2.2.2.2.2.2.2.2.2.2.2.2.2) : gX) o z) := by
  intro y o z
  obtain ⟨g, hg⟩ : ∃ g, 1000000000000000 = g + 1 := ⟨999999999999999, rfl⟩
  rw [mM_takeAll_40, mM_takeAll_41, if_neg (fun k => k (Or.inl rfl)), hp_188_31, Option.bind_some, hg]
  exact r_48d (x := ((x.1, gup x.2.1 31 0, x.2.2.1, x.2.2.2.1, x.2.2.2.2.1, x.2.2.2.2.2.1, x.2.2.2.2.2.2.1, x.2.2.2.2.2.2.2.1, x.2.2.2.2.2.2.2.2.1, x.2.2.2.2.2.2.2.2.2.1, x.2.2.2.2.2.2.2.2.2.2.1, x.2.2.2.2.2.2.2.2.2.2.2.1, x.2.2.2.2.2.2.2.2.2.2.2.2.1, x.2.2.2.2.2.2.2.2.2.2.2.2.2.1, x.2.2.2.2.2.2.2.2.2.2.2.2.2.2.1, x.2.2.2.2.2.2.2.2.2.2.2.2.2.2.2) : gX)) rfl y o z
theorem gXd_31 {v : Int32} : gXd N x ((x.1, gup x.2.1 31 v, x.2.2.1, x.2.2.2.1, x.2.2.2.2.1, x.2.2.2.2.2.1, x.2.2.2.2.2.2.1, x.2.2.2.2.2.2.2.1, x.2.2.2.2.2.2.2.2.1, x.2.2.2.2.2.2.2.2.2.1, x.2.2.2.2.2.2.2.2.2.2.1, x.2.2.2.2.2.2.2.2.2.2.2.1, x.2.2.2.2.2.2.2.2.2.2.2.2.1, x.2.2.2.2.2.2.2.2.2.2.2.2.2.1, x.2.2.2.2.2.2.2.2.2.2.2.2.2.2.1, x.2.2.2.2.2.2.2.2.2.2.2.2.2.2.2) : gX) := ⟨fun _ _ => rfl, fun j hj => gup_ne (by omega), rfl, rfl, rfl, rfl⟩
theorem gXd_z3 : gXd N x (gz3 x) := by
  refine ⟨fun _ _ => rfl, fun j hj => ?_, rfl, rfl, rfl, rfl⟩
  show gup (gup (gup x.2.1 32 0) 29 0) 18 0 j = _
  rw [gup_ne (by omega), gup_ne (by omega), gup_ne (by omega)]
theorem r_mrtD (h : x.2.1 31 = 0) : ∀ y o z, mrt (gH y x o z) = some (gH y (((gz3 x).1, gup (gz3 x).2.1 31 0, (gz3 x).2.2.1, (gz3 x).2.2.2.1, (gz3 x).2.2.2.2.1, (gz3 x).2.2.2.2.2.1, (gz3 x).2.2.2.2.2.2.1, (gz3 x).2.2.2.2.2.2.2.1, (gz3 x).2.2.2.2.2.2.2.2.1, (gz3 x).2.2.2.2.2.2.2.2.2.1, (gz3 x).2.2.2.2.2.2.2.2.2.2.1, (gz3 x).2.2.2.2.2.2.2.2.2.2.2.1, (gz3 x).2.2.2.2.2.2.2.2.2.2.2.2.1, (gz3 x).2.2.2.2.2.2.2.2.2.2.2.2.2.1, (gz3 x).2.2.2.2.2.2.2.2.2.2.2.2.2.2.1, (gz3 x).2.2.2.2.2.2.2.2.2.2.2.2.2.2.2) : gX) o z) := by
  intro y o z
  rw [mrt, hp_188_32, Option.bind_some, hp_188_29, Option.bind_some, hp_188_18, Option.bind_some]
  show ((gv_gI (gH y (gz3 x) o z) (some 188) 7 31).bind _) = _
  rw [hi_188_31, Option.bind_some, if_pos (show (gz3 x).2.1 31 = 0 from h)]
  exact r_40 y o z
theorem r_mrt (h : x.2.1 31 = 1) : ∀ y o z, mrt (gH y x o z) = (mM_next (some 188) (gH y (gz3 x) o z)).bind fun r12 => if r12.1 = (15 : Int32) then mM_takeAll_41 (some 188) (some 188) (1 : Int32) r12.2 else mM_takeAll_40 (some 188) (some 188) r12.2 := by
  intro y o z
  have g31 : ¬ (gz3 x).2.1 31 = 0 := by
    show ¬ x.2.1 31 = 0
    rw [h]; exact i_10
  rw [mrt, hp_188_32, Option.bind_some, hp_188_29, Option.bind_some, hp_188_18, Option.bind_some]
  show ((gv_gI (gH y (gz3 x) o z) (some 188) 7 31).bind _) = _
  rw [hi_188_31, Option.bind_some, if_neg g31, ho_188, Option.bind_some]
  rfl
theorem r_mrtN (h : x.2.1 31 = 1) (G : gD n0 f q m N pos u (gz3 x)) (c : ¬ (pos < m ∧ u.2.2.2.2.1 pos = 15)) : ∃ x', x'.2.1 31 = 0 ∧ gXd N x x' ∧ ∀ y o z, mrt (gH y x o z) = some (gH y x' o z) := by
  have z3 : gXd N x (gz3 x) := gXd_z3
  by_cases p : pos < m
  · have e : ¬ u.2.2.2.2.1 pos = 15 := fun h => c ⟨p, h⟩
    have d1 : gXd N (gz3 x) (sx (gz3 x) (pos + 1)) := gXd_s (fun i hi => gup_ne (by omega))
    have d2 : gXd N (sx (gz3 x) (pos + 1)) (((sx (gz3 x) (pos + 1)).1, gup (sx (gz3 x) (pos + 1)).2.1 31 0, (sx (gz3 x) (pos + 1)).2.2.1, (sx (gz3 x) (pos + 1)).2.2.2.1, (sx (gz3 x) (pos + 1)).2.2.2.2.1, (sx (gz3 x) (pos + 1)).2.2.2.2.2.1, (sx (gz3 x) (pos + 1)).2.2.2.2.2.2.1, (sx (gz3 x) (pos + 1)).2.2.2.2.2.2.2.1, (sx (gz3 x) (pos + 1)).2.2.2.2.2.2.2.2.1, (sx (gz3 x) (pos + 1)).2.2.2.2.2.2.2.2.2.1, (sx (gz3 x) (pos + 1)).2.2.2.2.2.2.2.2.2.2.1, (sx (gz3 x) (pos + 1)).2.2.2.2.2.2.2.2.2.2.2.1, (sx (gz3 x) (pos + 1)).2.2.2.2.2.2.2.2.2.2.2.2.1, (sx (gz3 x) (pos + 1)).2.2.2.2.2.2.2.2.2.2.2.2.2.1, (sx (gz3 x) (pos + 1)).2.2.2.2.2.2.2.2.2.2.2.2.2.2.1, (sx (gz3 x) (pos + 1)).2.2.2.2.2.2.2.2.2.2.2.2.2.2.2) : gX) := gXd_31
    refine ⟨(((sx (gz3 x) (pos + 1)).1, gup (sx (gz3 x) (pos + 1)).2.1 31 0, (sx (gz3 x) (pos + 1)).2.2.1, (sx (gz3 x) (pos + 1)).2.2.2.1, (sx (gz3 x) (pos + 1)).2.2.2.2.1, (sx (gz3 x) (pos + 1)).2.2.2.2.2.1, (sx (gz3 x) (pos + 1)).2.2.2.2.2.2.1, (sx (gz3 x) (pos + 1)).2.2.2.2.2.2.2.1, (sx (gz3 x) (pos + 1)).2.2.2.2.2.2.2.2.1, (sx (gz3 x) (pos + 1)).2.2.2.2.2.2.2.2.2.1, (sx (gz3 x) (pos + 1)).2.2.2.2.2.2.2.2.2.2.1, (sx (gz3 x) (pos + 1)).2.2.2.2.2.2.2.2.2.2.2.1, (sx (gz3 x) (pos + 1)).2.2.2.2.2.2.2.2.2.2.2.2.1, (sx (gz3 x) (pos + 1)).2.2.2.2.2.2.2.2.2.2.2.2.2.1, (sx (gz3 x) (pos + 1)).2.2.2.2.2.2.2.2.2.2.2.2.2.2.1, (sx (gz3 x) (pos + 1)).2.2.2.2.2.2.2.2.2.2.2.2.2.2.2) : gX), rfl, gXd_trans (gXd_trans z3 d1 (Nat.le_refl _)) d2 (Nat.le_refl _), fun y o z => ?_⟩
    rw [r_mrt h, r_nx G p, Option.bind_some, if_neg e, r_40]
  · have d1 : gXd N (gz3 x) (((gz3 x).1, gup (gup (gz3 x).2.1 31 0) 32 (Int32.ofNat (pos + 1)), (gz3 x).2.2.1, (gz3 x).2.2.2.1, (gz3 x).2.2.2.2.1, (gz3 x).2.2.2.2.2.1, (gz3 x).2.2.2.2.2.2.1, (gz3 x).2.2.2.2.2.2.2.1, (gz3 x).2.2.2.2.2.2.2.2.1, (gz3 x).2.2.2.2.2.2.2.2.2.1, (gz3 x).2.2.2.2.2.2.2.2.2.2.1, (gz3 x).2.2.2.2.2.2.2.2.2.2.2.1, (gz3 x).2.2.2.2.2.2.2.2.2.2.2.2.1, (gz3 x).2.2.2.2.2.2.2.2.2.2.2.2.2.1, (gz3 x).2.2.2.2.2.2.2.2.2.2.2.2.2.2.1, (gz3 x).2.2.2.2.2.2.2.2.2.2.2.2.2.2.2) : gX) := gXd_s (fun i hi => by rw [gup_ne (by omega), gup_ne (by omega)])
    have d2 : gXd N (((gz3 x).1, gup (gup (gz3 x).2.1 31 0) 32 (Int32.ofNat (pos + 1)), (gz3 x).2.2.1, (gz3 x).2.2.2.1, (gz3 x).2.2.2.2.1, (gz3 x).2.2.2.2.2.1, (gz3 x).2.2.2.2.2.2.1, (gz3 x).2.2.2.2.2.2.2.1, (gz3 x).2.2.2.2.2.2.2.2.1, (gz3 x).2.2.2.2.2.2.2.2.2.1, (gz3 x).2.2.2.2.2.2.2.2.2.2.1, (gz3 x).2.2.2.2.2.2.2.2.2.2.2.1, (gz3 x).2.2.2.2.2.2.2.2.2.2.2.2.1, (gz3 x).2.2.2.2.2.2.2.2.2.2.2.2.2.1, (gz3 x).2.2.2.2.2.2.2.2.2.2.2.2.2.2.1, (gz3 x).2.2.2.2.2.2.2.2.2.2.2.2.2.2.2) : gX) (((gz3 x).1, gup (gup (gup (gz3 x).2.1 31 0) 32 (Int32.ofNat (pos + 1))) 31 0, (gz3 x).2.2.1, (gz3 x).2.2.2.1, (gz3 x).2.2.2.2.1, (gz3 x).2.2.2.2.2.1, (gz3 x).2.2.2.2.2.2.1, (gz3 x).2.2.2.2.2.2.2.1, (gz3 x).2.2.2.2.2.2.2.2.1, (gz3 x).2.2.2.2.2.2.2.2.2.1, (gz3 x).2.2.2.2.2.2.2.2.2.2.1, (gz3 x).2.2.2.2.2.2.2.2.2.2.2.1, (gz3 x).2.2.2.2.2.2.2.2.2.2.2.2.1, (gz3 x).2.2.2.2.2.2.2.2.2.2.2.2.2.1, (gz3 x).2.2.2.2.2.2.2.2.2.2.2.2.2.2.1, (gz3 x).2.2.2.2.2.2.2.2.2.2.2.2.2.2.2) : gX) := gXd_31
    refine ⟨(((gz3 x).1, gup (gup (gup (gz3 x).2.1 31 0) 32 (Int32.ofNat (pos + 1))) 31 0, (gz3 x).2.2.1, (gz3 x).2.2.2.1, (gz3 x).2.2.2.2.1, (gz3 x).2.2.2.2.2.1, (gz3 x).2.2.2.2.2.2.1, (gz3 x).2.2.2.2.2.2.2.1, (gz3 x).2.2.2.2.2.2.2.2.1, (gz3 x).2.2.2.2.2.2.2.2.2.1, (gz3 x).2.2.2.2.2.2.2.2.2.2.1, (gz3 x).2.2.2.2.2.2.2.2.2.2.2.1, (gz3 x).2.2.2.2.2.2.2.2.2.2.2.2.1, (gz3 x).2.2.2.2.2.2.2.2.2.2.2.2.2.1, (gz3 x).2.2.2.2.2.2.2.2.2.2.2.2.2.2.1, (gz3 x).2.2.2.2.2.2.2.2.2.2.2.2.2.2.2) : gX), rfl, gXd_trans (gXd_trans z3 d1 (Nat.le_refl _)) d2 (Nat.le_refl _), fun y o z => ?_⟩
    rw [r_mrt h, r_nx0 G p, Option.bind_some, if_neg (show ¬ (0 : Int32) = 15 by decide), r_40]
theorem r_mrtY (h : x.2.1 31 = 1) (G : gD n0 f q m N pos u (gz3 x)) (p : pos < m) (e : u.2.2.2.2.1 pos = 15) : ∀ y o z, mrt (gH y x o z) = mM_takeAll_48 1000000000000000 (some 188) 1 0 (gH y (sx (gz3 x) (pos + 1)) o z) := by
  intro y o z
  have g31 : (sx (gz3 x) (pos + 1)).2.1 31 = 1 := h
  have s31 : ((((sx (gz3 x) (pos + 1)).1, gup (sx (gz3 x) (pos + 1)).2.1 31 1, (sx (gz3 x) (pos + 1)).2.2.1, (sx (gz3 x) (pos + 1)).2.2.2.1, (sx (gz3 x) (pos + 1)).2.2.2.2.1, (sx (gz3 x) (pos + 1)).2.2.2.2.2.1, (sx (gz3 x) (pos + 1)).2.2.2.2.2.2.1, (sx (gz3 x) (pos + 1)).2.2.2.2.2.2.2.1, (sx (gz3 x) (pos + 1)).2.2.2.2.2.2.2.2.1, (sx (gz3 x) (pos + 1)).2.2.2.2.2.2.2.2.2.1, (sx (gz3 x) (pos + 1)).2.2.2.2.2.2.2.2.2.2.1, (sx (gz3 x) (pos + 1)).2.2.2.2.2.2.2.2.2.2.2.1, (sx (gz3 x) (pos + 1)).2.2.2.2.2.2.2.2.2.2.2.2.1, (sx (gz3 x) (pos + 1)).2.2.2.2.2.2.2.2.2.2.2.2.2.1, (sx (gz3 x) (pos + 1)).2.2.2.2.2.2.2.2.2.2.2.2.2.2.1, (sx (gz3 x) (pos + 1)).2.2.2.2.2.2.2.2.2.2.2.2.2.2.2) : gX) : gX) = sx (gz3 x) (pos + 1) := by rw [gup_same g31]
  have hx : gv_pV (gH y (sx (gz3 x) (pos + 1)) o z) (some 188) 7 31 (.int 1) = some (gH y (sx (gz3 x) (pos + 1)) o z) := by
    rw [hp_188_31]
    exact congrArg (fun w => some (gH y w o z)) s31
  rw [r_mrt h, r_nx G p, Option.bind_some, if_pos e, mM_takeAll_41, if_neg (fun k => k (Or.inr rfl)), hx, Option.bind_some]
theorem r_last {G : Nat} (h18 : x.2.1 18 = 0) (hg : x.2.1 31 = 1) : ∀ y o z, mM_takeAll_103 (mM_takeAll_48 (G + 1)) (some 188) 0 1 (gH y x o z) = mM_takeAll_145 (some 188) (gH y x o z) := by
  intro y o z
  have g31 : ¬ x.2.1 31 = 0 := by rw [hg]; exact i_10
  rw [mM_takeAll_103, if_neg i_10, hi_188_18, Option.bind_some, if_pos h18, mM_takeAll_119, hi_188_31, Option.bind_some, if_neg g31, if_neg i_10, hi_188_18, Option.bind_some, h18, if_neg (by decide), mM_takeAll_142, mM_takeAll_48, hi_188_31, Option.bind_some, if_neg g31, if_neg i_10]
theorem r_145Y (hg : x.2.1 31 = 1) (e : x.2.1 32 = x.2.1 15) : ∀ y o z, mM_takeAll_145 (some 188) (gH y x o z) = some (gH y x o z) := by
  intro y o z
  have g31 : ¬ x.2.1 31 = 0 := by rw [hg]; exact i_10
  have s31 : (((x.1, gup x.2.1 31 1, x.2.2.1, x.2.2.2.1, x.2.2.2.2.1, x.2.2.2.2.2.1, x.2.2.2.2.2.2.1, x.2.2.2.2.2.2.2.1, x.2.2.2.2.2.2.2.2.1, x.2.2.2.2.2.2.2.2.2.1, x.2.2.2.2.2.2.2.2.2.2.1, x.2.2.2.2.2.2.2.2.2.2.2.1, x.2.2.2.2.2.2.2.2.2.2.2.2.1, x.2.2.2.2.2.2.2.2.2.2.2.2.2.1, x.2.2.2.2.2.2.2.2.2.2.2.2.2.2.1, x.2.2.2.2.2.2.2.2.2.2.2.2.2.2.2) : gX) : gX) = x := by rw [gup_same hg]
  have hx : gv_pV (gH y x o z) (some 188) 7 31 (.int 1) = some (gH y x o z) := by
    rw [hp_188_31]
    exact congrArg (fun w => some (gH y w o z)) s31
  rw [mM_takeAll_145, hi_188_31, Option.bind_some, if_neg g31, hi_188_32, Option.bind_some, hi_188_15, Option.bind_some, if_pos e, hx, Option.bind_some]
theorem r_145N (hg : x.2.1 31 = 1) (e : ¬ x.2.1 32 = x.2.1 15) : ∀ y o z, mM_takeAll_145 (some 188) (gH y x o z) = some (gH y ((x.1, gup x.2.1 31 0, x.2.2.1, x.2.2.2.1, x.2.2.2.2.1, x.2.2.2.2.2.1, x.2.2.2.2.2.2.1, x.2.2.2.2.2.2.2.1, x.2.2.2.2.2.2.2.2.1, x.2.2.2.2.2.2.2.2.2.1, x.2.2.2.2.2.2.2.2.2.2.1, x.2.2.2.2.2.2.2.2.2.2.2.1, x.2.2.2.2.2.2.2.2.2.2.2.2.1, x.2.2.2.2.2.2.2.2.2.2.2.2.2.1, x.2.2.2.2.2.2.2.2.2.2.2.2.2.2.1, x.2.2.2.2.2.2.2.2.2.2.2.2.2.2.2) : gX) o z) := by
  intro y o z
  have g31 : ¬ x.2.1 31 = 0 := by rw [hg]; exact i_10
  rw [mM_takeAll_145, hi_188_31, Option.bind_some, if_neg g31, hi_188_32, Option.bind_some, hi_188_15, Option.bind_some, if_neg e, hp_188_31, Option.bind_some]
theorem r_endT {x' : gX} {B : Nat} (hB : B < 1000000000000) (rt : gRT B 1 x x') (h18 : x'.2.1 18 = 0) (hg : x'.2.1 31 = 1) : ∀ y o z, mM_takeAll_48 1000000000000000 (some 188) 1 0 (gH y x o z) = mM_takeAll_145 (some 188) (gH y x' o z) := by
  obtain ⟨K, k1, k2⟩ := rt
  obtain ⟨g, hG⟩ : ∃ g, 1000000000000000 = g + 1 + K := ⟨1000000000000000 - 1 - K, by omega⟩
  intro y o z
  rw [hG, k2, r_last h18 hg]
theorem r_endF {x' : gX} {B : Nat} (hB : B < 1000000000000) (rf : gRF B 1 x x') : ∀ y o z, mM_takeAll_48 1000000000000000 (some 188) 1 0 (gH y x o z) = some (gH y x' o z) := by
  obtain ⟨k0, K, k1, k2⟩ := rf
  obtain ⟨g, hG⟩ : ∃ g, 1000000000000000 = g + K := ⟨1000000000000000 - K, by omega⟩
  intro y o z
  rw [hG, k2]
end H
end
section
/-! read: the call -/
section H
variable {n m p q : Nat} {u u' : gU} {x x' : gX} {o : Nat → Int64} {z : gx_H}
theorem rd_refuse (T : gTi n m p q u x) (h1 : ∀ y o z, cR_run (some 187) (some 1) (some 163) (some 165) (gH u y o z) = some (0, gH u' y o z)) (hu : gUf n u u') (hc : u'.2.2.1 1 = Int32.ofNat n) (h2 : ∀ y o z, mM_takeAll (some 188) (gH y x o z) = some (gH y x' o z)) (hg : x'.2.1 31 = 0) (hx : gXd n x x') : gAns u x o z (lw_read (some 0) (some 211)) (mM_read (some 188)) := by
  have e0 : gup x'.2.1 0 1 0 = 1 := gup_eq
  have tt : gTT u' ((x'.1, gup x'.2.1 0 1, x'.2.2.1, x'.2.2.2.1, x'.2.2.2.2.1, x'.2.2.2.2.2.1, x'.2.2.2.2.2.2.1, x'.2.2.2.2.2.2.2.1, x'.2.2.2.2.2.2.2.2.1, x'.2.2.2.2.2.2.2.2.2.1, x'.2.2.2.2.2.2.2.2.2.2.1, x'.2.2.2.2.2.2.2.2.2.2.2.1, x'.2.2.2.2.2.2.2.2.2.2.2.2.1, x'.2.2.2.2.2.2.2.2.2.2.2.2.2.1, x'.2.2.2.2.2.2.2.2.2.2.2.2.2.2.1, x'.2.2.2.2.2.2.2.2.2.2.2.2.2.2.2) : gX) := by
    refine gTT_0 ⟨n, m, p, q, T.hn, hc, (hx.dk 1 (by omega)).trans T.xn, fun k hk => ?_, T.hm, by rw [hu.u3]; exact T.um, (hx.dk 15 (by omega)).trans T.xm, fun i hi => ?_, fun i hi => ?_, T.hp, by rw [hu.u5]; exact T.up, (hx.dk 10 (by omega)).trans T.xp, fun i hi => ?_, fun i hi => ?_, T.hq, by rw [hu.u5]; exact T.uq, (hx.dk 12 (by omega)).trans T.xq, fun i hi => ?_, ?_⟩
    · rw [hu.uC k hk, hx.dR k hk]; exact T.ob k hk
    · rw [hx.d0, hu.u4]; exact T.bs i hi
    · rw [hu.u4]; exact T.b8 i hi
    · rw [hx.d7, hu.u6]; exact T.pa i hi
    · rw [hu.u6]; exact T.pb i hi
    · rw [hu.u8, hx.d8, hx.d9, hu.uh]; exact T.ho i hi
    · rw [hu.u0, hx.dk 17 (by omega)]; exact T.fo
  refine ⟨1, u', o, z ++ [(8, [])], 0, ((x'.1, gup x'.2.1 0 1, x'.2.2.1, x'.2.2.2.1, x'.2.2.2.2.1, x'.2.2.2.2.2.1, x'.2.2.2.2.2.2.1, x'.2.2.2.2.2.2.2.1, x'.2.2.2.2.2.2.2.2.1, x'.2.2.2.2.2.2.2.2.2.1, x'.2.2.2.2.2.2.2.2.2.2.1, x'.2.2.2.2.2.2.2.2.2.2.2.1, x'.2.2.2.2.2.2.2.2.2.2.2.2.1, x'.2.2.2.2.2.2.2.2.2.2.2.2.2.1, x'.2.2.2.2.2.2.2.2.2.2.2.2.2.2.1, x'.2.2.2.2.2.2.2.2.2.2.2.2.2.2.2) : gX), ?_, ?_, rfl, fun q => absurd q (by decide), tt, by simp⟩
  · simp only [lw_read, ho_0, Option.bind_some, cG_read, hr_0_4, hr_0_0, hr_0_1, hr_0_2, ho_187, h1, if_true, hl, hthr, hexc] <;> rfl
  · rw [mM_read, ho_188, Option.bind_some, h2, Option.bind_some, hi_188_31, Option.bind_some, if_pos hg, mM_read_17, hp_188_0, Option.bind_some, hi_188_0, Option.bind_some]
    exact if_pos (show 0 < gup x'.2.1 0 1 0 by rw [e0]; decide)
theorem rd_accept {f N pos : Nat} (T : gTi n m p q u x) (h1 : ∀ y o z, cR_run (some 187) (some 1) (some 163) (some 165) (gH u y o z) = some (1, gH u' y o z)) (hu : gUf n u u') (h2 : ∀ y o z, mM_takeAll (some 188) (gH y x o z) = some (gH y x' o z)) (G : gD n f q m N pos u' x') (hx : gXd n x x') (e35 : x'.2.1 35 = u'.2.2.2.2.2.2.2.2.2.2.2.2.1 2) (e36 : x'.2.1 36 = u'.2.2.2.2.2.2.2.2.2.2.2.2.1 3) : gAns u x o z (lw_read (some 0) (some 211)) (mM_read (some 188)) := by
  have nf := G.nf
  have fN := G.fN
  have hg : ¬ x'.2.1 31 = 0 := by rw [G.gg]; exact i_10
  have i0 : gup x'.2.1 0 0 0 = 0 := gup_eq
  have i33 : gup x'.2.1 0 0 33 = Int32.ofNat N := (gup_ne (by omega)).trans G.xn
  have i36 : gup (gup (gup x'.2.1 0 0) 1 (Int32.ofNat N)) 12 0 36 = u'.2.2.2.2.2.2.2.2.2.2.2.2.1 3 := by rw [gup_ne (by omega), gup_ne (by omega), gup_ne (by omega)]; exact e36
  have i35 : gup (gup (gup (gup x'.2.1 0 0) 1 (Int32.ofNat N)) 12 0) 17 (u'.2.2.2.2.2.2.2.2.2.2.2.2.1 3) 35 = u'.2.2.2.2.2.2.2.2.2.2.2.2.1 2 := by rw [gup_ne (by omega), gup_ne (by omega), gup_ne (by omega), gup_ne (by omega)]; exact e35
  have tt : gTT ((u'.1, gup u'.2.1 5 (u'.2.2.2.2.2.2.2.2.2.2.2.2.1 3), u'.2.2.1, u'.2.2.2.1, u'.2.2.2.2.1, gup u'.2.2.2.2.2.1 4 0, u'.2.2.2.2.2.2.1, u'.2.2.2.2.2.2.2.1, u'.2.2.2.2.2.2.2.2.1, u'.2.2.2.2.2.2.2.2.2.1, u'.2.2.2.2.2.2.2.2.2.2.1, u'.2.2.2.2.2.2.2.2.2.2.2.1, u'.2.2.2.2.2.2.2.2.2.2.2.2.1, u'.2.2.2.2.2.2.2.2.2.2.2.2.2.1, u'.2.2.2.2.2.2.2.2.2.2.2.2.2.2) : gU) ((x'.1, gup (gup (gup (gup x'.2.1 0 0) 1 (Int32.ofNat N)) 12 0) 17 (u'.2.2.2.2.2.2.2.2.2.2.2.2.1 3), x'.2.2.1, x'.2.2.2.1, x'.2.2.2.2.1, x'.2.2.2.2.2.1, x'.2.2.2.2.2.2.1, x'.2.2.2.2.2.2.2.1, x'.2.2.2.2.2.2.2.2.1, x'.2.2.2.2.2.2.2.2.2.1, x'.2.2.2.2.2.2.2.2.2.2.1, x'.2.2.2.2.2.2.2.2.2.2.2.1, x'.2.2.2.2.2.2.2.2.2.2.2.2.1, x'.2.2.2.2.2.2.2.2.2.2.2.2.2.1, x'.2.2.2.2.2.2.2.2.2.2.2.2.2.2.1, x'.2.2.2.2.2.2.2.2.2.2.2.2.2.2.2) : gX) := by
    refine ⟨N, m, p, 0, G.hN, G.un, rfl, G.ob, T.hm, G.um, ?_, G.bs, G.b8, T.hp, ?_, ?_, fun i hi => ?_, fun i hi => ?_, by omega, rfl, rfl, fun i hi => by omega, rfl⟩
    · show gup (gup (gup (gup x'.2.1 0 0) 1 (Int32.ofNat N)) 12 0) 17 (u'.2.2.2.2.2.2.2.2.2.2.2.2.1 3) 15 = _
      rw [gup_ne (by omega), gup_ne (by omega), gup_ne (by omega), gup_ne (by omega)]; exact G.xm
    · show gup u'.2.2.2.2.2.1 4 0 1 = _
      rw [gup_ne (by omega), hu.u5]; exact T.up
    · show gup (gup (gup (gup x'.2.1 0 0) 1 (Int32.ofNat N)) 12 0) 17 (u'.2.2.2.2.2.2.2.2.2.2.2.2.1 3) 10 = _
      rw [gup_ne (by omega), gup_ne (by omega), gup_ne (by omega), gup_ne (by omega), hx.dk 10 (by omega)]; exact T.xp
    · show x'.2.2.1 i = u'.2.2.2.2.2.2.1 i
      rw [hx.d7, hu.u6]; exact T.pa i hi
    · show ∃ k, k < N ∧ u'.2.2.2.2.2.2.1 i = Int32.ofNat k
      rw [hu.u6]
      obtain ⟨k, a, b⟩ := T.pb i hi
      exact ⟨k, by omega, b⟩
  refine ⟨0, ((u'.1, gup u'.2.1 5 (u'.2.2.2.2.2.2.2.2.2.2.2.2.1 3), u'.2.2.1, u'.2.2.2.1, u'.2.2.2.2.1, gup u'.2.2.2.2.2.1 4 0, u'.2.2.2.2.2.2.1, u'.2.2.2.2.2.2.2.1, u'.2.2.2.2.2.2.2.2.1, u'.2.2.2.2.2.2.2.2.2.1, u'.2.2.2.2.2.2.2.2.2.2.1, u'.2.2.2.2.2.2.2.2.2.2.2.1, u'.2.2.2.2.2.2.2.2.2.2.2.2.1, u'.2.2.2.2.2.2.2.2.2.2.2.2.2.1, u'.2.2.2.2.2.2.2.2.2.2.2.2.2.2) : gU), gup o 0 (Int32.toInt64 (u'.2.2.2.2.2.2.2.2.2.2.2.2.1 2)), z, u'.2.2.2.2.2.2.2.2.2.2.2.2.1 2, ((x'.1, gup (gup (gup (gup x'.2.1 0 0) 1 (Int32.ofNat N)) 12 0) 17 (u'.2.2.2.2.2.2.2.2.2.2.2.2.1 3), x'.2.2.1, x'.2.2.2.1, x'.2.2.2.2.1, x'.2.2.2.2.2.1, x'.2.2.2.2.2.2.1, x'.2.2.2.2.2.2.2.1, x'.2.2.2.2.2.2.2.2.1, x'.2.2.2.2.2.2.2.2.2.1, x'.2.2.2.2.2.2.2.2.2.2.1, x'.2.2.2.2.2.2.2.2.2.2.2.1, x'.2.2.2.2.2.2.2.2.2.2.2.2.1, x'.2.2.2.2.2.2.2.2.2.2.2.2.2.1, x'.2.2.2.2.2.2.2.2.2.2.2.2.2.2.1, x'.2.2.2.2.2.2.2.2.2.2.2.2.2.2.2) : gX), ?_, ?_, ?_, fun _ => rfl, tt, by omega⟩
  · simp only [lw_read, ho_0, Option.bind_some, cG_read, hr_0_4, hr_0_0, hr_0_1, hr_0_2, ho_187, h1, if_neg i_10, hp_165_4, hi_187_3, hp_0_5, hi_187_2, hb0] <;> rfl
  · rw [mM_read, ho_188, Option.bind_some, h2, Option.bind_some, hi_188_31, Option.bind_some, if_neg hg]
    simp only [mM_read_17, hp_188_0, Option.bind_some, hi_188_0, i0, show ¬ (0 : Int32) < 0 by decide, if_false, hi_188_33, i33, hp_188_1, hp_188_12, hi_188_36, i36, hp_188_17, hi_188_35, i35]
  · show gup (gup (gup (gup x'.2.1 0 0) 1 (Int32.ofNat N)) 12 0) 17 (u'.2.2.2.2.2.2.2.2.2.2.2.2.1 3) 0 = 0
    rw [gup_ne (by omega), gup_ne (by omega), gup_ne (by omega), gup_eq]
def gur (u : gU) (n q : Nat) : gU := ((u.1, u.2.1, u.2.2.1, u.2.2.2.1, u.2.2.2.2.1, u.2.2.2.2.2.1, u.2.2.2.2.2.2.1, u.2.2.2.2.2.2.2.1, u.2.2.2.2.2.2.2.2.1, u.2.2.2.2.2.2.2.2.2.1, u.2.2.2.2.2.2.2.2.2.2.1, u.2.2.2.2.2.2.2.2.2.2.2.1, gup (gup (gup (gup u.2.2.2.2.2.2.2.2.2.2.2.2.1 0 0) 1 0) 4 (Int32.ofNat n)) 5 (Int32.ofNat q), u.2.2.2.2.2.2.2.2.2.2.2.2.2.1, u.2.2.2.2.2.2.2.2.2.2.2.2.2.2) : gU)
def gxr (x : gX) (n : Nat) (v : Int32) : gX := ((x.1, gup (gup x.2.1 33 (Int32.ofNat n)) 31 v, x.2.2.1, x.2.2.2.1, x.2.2.2.2.1, x.2.2.2.2.2.1, x.2.2.2.2.2.2.1, x.2.2.2.2.2.2.2.1, x.2.2.2.2.2.2.2.2.1, x.2.2.2.2.2.2.2.2.2.1, x.2.2.2.2.2.2.2.2.2.2.1, x.2.2.2.2.2.2.2.2.2.2.2.1, x.2.2.2.2.2.2.2.2.2.2.2.2.1, x.2.2.2.2.2.2.2.2.2.2.2.2.2.1, x.2.2.2.2.2.2.2.2.2.2.2.2.2.2.1, x.2.2.2.2.2.2.2.2.2.2.2.2.2.2.2) : gX)
theorem k_run (T : gTi n m p q u x) : ∀ y o z, cR_run (some 187) (some 1) (some 163) (some 165) (gH u y o z) = (cR_makeHanded_18 1000000000000000 (some 187) (some 1) (some 165) (Int32.ofNat 0) (gH (gur u n q) y o z)).bind (crt (Int32.ofNat n)) := by
  intro y o z
  have un := T.un
  have uq := T.uq
  rw [cR_run, hi_1_1, Option.bind_some, hp_187_0, Option.bind_some, hp_187_1, Option.bind_some, ho_187, Option.bind_some, cR_makeHanded, hi_1_1, Option.bind_some, hp_187_4, Option.bind_some, hi_165_4, Option.bind_some, hp_187_5, Option.bind_some]
  show ((cR_makeHanded_18 1000000000000000 (some 187) (some 1) (some 165) 0 (gH ((u.1, u.2.1, u.2.2.1, u.2.2.2.1, u.2.2.2.2.1, u.2.2.2.2.2.1, u.2.2.2.2.2.2.1, u.2.2.2.2.2.2.2.1, u.2.2.2.2.2.2.2.2.1, u.2.2.2.2.2.2.2.2.2.1, u.2.2.2.2.2.2.2.2.2.2.1, u.2.2.2.2.2.2.2.2.2.2.2.1, gup (gup (gup (gup u.2.2.2.2.2.2.2.2.2.2.2.2.1 0 0) 1 0) 4 (u.2.2.1 1)) 5 (u.2.2.2.2.2.1 4), u.2.2.2.2.2.2.2.2.2.2.2.2.2.1, u.2.2.2.2.2.2.2.2.2.2.2.2.2.2) : gU) y o z)).bind (crt (u.2.2.1 1))) = _
  rw [un, uq]
  rfl
theorem r_all (T : gTi n m p q u x) : ∀ y o z, mM_takeAll (some 188) (gH y x o z) = (mM_takeHolders_33 1000000000000000 (some 188) (Int32.ofNat 0) (gH y (gxr x n (if 32 < n + q then 0 else 1)) o z)).bind mrt := by
  intro y o z
  have hn := T.hn
  have hq := T.hq
  have e1 : gup x.2.1 33 (x.2.1 1) 1 = Int32.ofNat n := (gup_ne (by omega)).trans T.xn
  have e12 : gup x.2.1 33 (x.2.1 1) 12 = Int32.ofNat q := (gup_ne (by omega)).trans T.xq
  have hh : mM_takeHolders (some 188) (gH y x o z) = mM_takeHolders_33 1000000000000000 (some 188) (Int32.ofNat 0) (gH y (gxr x n (if 32 < n + q then 0 else 1)) o z) := by
    rw [mM_takeHolders, hi_188_1, Option.bind_some, hp_188_33, Option.bind_some, hi_188_1, Option.bind_some, hi_188_12, Option.bind_some]
    show (if 32 < gup x.2.1 33 (x.2.1 1) 1 + gup x.2.1 33 (x.2.1 1) 12 then _ else _) = _
    rw [e1, e12, n_add, T.xn]
    by_cases c : 32 < n + q
    · rw [if_pos (show (32 : Int32) < Int32.ofNat (n + q) from n_ltl (n := 32) (by omega) (by omega) c), if_pos c, mM_takeHolders_28, if_neg (fun k => k (Or.inl rfl)), hp_188_31, Option.bind_some]
      rfl
    · rw [if_neg (show ¬ (32 : Int32) < Int32.ofNat (n + q) from n_nltl (n := 32) (by omega) (by omega) (by omega)), if_neg c, mM_takeHolders_28, if_neg (fun k => k (Or.inr rfl)), hp_188_31, Option.bind_some]
      rfl
  rw [mM_takeAll, ho_188, Option.bind_some, hh]
  rfl
theorem gD_first (T : gTi n m p q u x) (h : n + q ≤ 32) (K : gHd n q (gur u n q) (gxr x n 1) u' x') : gD n (n + q) q m (n + q) 0 ((u'.1, u'.2.1, u'.2.2.1, u'.2.2.2.1, u'.2.2.2.2.1, u'.2.2.2.2.2.1, u'.2.2.2.2.2.2.1, u'.2.2.2.2.2.2.2.1, u'.2.2.2.2.2.2.2.2.1, u'.2.2.2.2.2.2.2.2.2.1, u'.2.2.2.2.2.2.2.2.2.2.1, u'.2.2.2.2.2.2.2.2.2.2.2.1, gup u'.2.2.2.2.2.2.2.2.2.2.2.2.1 6 (Int32.ofNat (n + q)), u'.2.2.2.2.2.2.2.2.2.2.2.2.2.1, u'.2.2.2.2.2.2.2.2.2.2.2.2.2.2) : gU) (gz3 x') := by
  have z3 : ∀ t, ¬ t = 32 → ¬ t = 29 → ¬ t = 18 → ¬ t = 33 → ¬ t = 31 → (gz3 x').2.1 t = x.2.1 t := by
    intro t a b c d e
    show gup (gup (gup x'.2.1 32 0) 29 0) 18 0 t = _
    rw [gup_ne c, gup_ne b, gup_ne a, K.xk t d]
    show gup (gup x.2.1 33 (Int32.ofNat n)) 31 1 t = _
    rw [gup_ne e, gup_ne d]
  have uk : u'.2.2.2.2.2.2.2.2.2.2.2.2.1 = gup (gup (gup (gup u.2.2.2.2.2.2.2.2.2.2.2.2.1 0 0) 1 0) 4 (Int32.ofNat n)) 5 (Int32.ofNat q) := K.uk
  refine ⟨h, rfl, Nat.le_refl _, K.un, K.xn, (z3 1 (by omega) (by omega) (by omega) (by omega) (by omega)).trans T.xn, K.ob, K.nd, ?_, ?_, ?_, rfl, by omega, T.hm, by rw [K.uf.u3]; exact T.um, (z3 15 (by omega) (by omega) (by omega) (by omega) (by omega)).trans T.xm, fun i hi => ?_, fun i hi => ?_, rfl, ?_, ?_, (z3 12 (by omega) (by omega) (by omega) (by omega) (by omega)).trans T.xq, ?_, fun i hi => by omega⟩
  · show gup u'.2.2.2.2.2.2.2.2.2.2.2.2.1 6 (Int32.ofNat (n + q)) 1 = 0
    rw [gup_ne (by omega), uk]; rfl
  · show x'.2.1 31 = 1
    exact K.xk 31 (by omega)
  · show gup u'.2.2.2.2.2.2.2.2.2.2.2.2.1 6 (Int32.ofNat (n + q)) 0 = _
    rw [gup_ne (by omega), uk]; rfl
  · show x'.2.2.2.2.2.1 i = u'.2.2.2.2.1 i
    rw [K.xd.d0, K.uf.u4]; exact T.bs i hi
  · show ∃ b, b < 256 ∧ u'.2.2.2.2.1 i = _
    rw [K.uf.u4]; exact T.b8 i hi
  · show gup u'.2.2.2.2.2.2.2.2.2.2.2.2.1 6 (Int32.ofNat (n + q)) 4 = _
    rw [gup_ne (by omega), uk]; rfl
  · show gup u'.2.2.2.2.2.2.2.2.2.2.2.2.1 6 (Int32.ofNat (n + q)) 5 = _
    rw [gup_ne (by omega), uk]; rfl
  · rw [Nat.sub_self]
    rfl
theorem gUf_ur : gUf n u (gur u n q) := gUf_r
theorem gXd_xr {v : Int32} : gXd n x (gxr x n v) := by
  refine ⟨fun _ _ => rfl, fun j hj => ?_, rfl, rfl, rfl, rfl⟩
  show gup (gup x.2.1 33 (Int32.ofNat n)) 31 v j = _
  rw [gup_ne (by omega), gup_ne (by omega)]
theorem gHd_0 (T : gTi n m p q u x) : gHd n 0 (gur u n q) (gxr x n 1) (gur u n q) (gxr x n 1) :=
  ⟨T.un, rfl, T.ob, fun k a b => by omega, rfl, fun _ _ => rfl, gUf_refl, gXd_refl⟩
theorem t_read (h : gTT u x) : gAns u x o z (lw_read (some 0) (some 211)) (mM_read (some 188)) := by
  obtain ⟨n, m, p, q, T⟩ := h
  have hn := T.hn
  have hq := T.hq
  have kr := k_run T
  have ra := r_all T
  obtain ⟨g, hG⟩ : ∃ g, 1000000000000000 = g + q + 1 := ⟨999999999999999 - q, by omega⟩
  by_cases c : 32 < n + q
  · rw [if_pos c] at ra
    obtain ⟨u1, a1, a2, a3⟩ := k_mhL (n0 := n) hq q 0 g n (gur u n q) (by omega) (Nat.le_refl _) hn T.un rfl (Or.inl c)
    have e31 : (gxr x n 0).2.1 31 = 0 := rfl
    have th : ∀ y o z, mM_takeHolders_33 1000000000000000 (some 188) (Int32.ofNat 0) (gH y (gxr x n 0) o z) = some (gH y (gxr x n 0) o z) := by
      intro y o z
      have e12 : (gxr x n 0).2.1 12 = Int32.ofNat q := T.xq
      rw [hG, mM_takeHolders_33, hi_188_12, Option.bind_some, e12, if_pos (n_ltl (n := 0) (by omega) (by omega) (by omega)), hi_188_31, Option.bind_some, if_pos e31]
    have d3 : gXd n (gxr x n 0) (gz3 (gxr x n 0)) := gXd_z3
    have d4 : gXd n (gz3 (gxr x n 0)) (((gz3 (gxr x n 0)).1, gup (gz3 (gxr x n 0)).2.1 31 0, (gz3 (gxr x n 0)).2.2.1, (gz3 (gxr x n 0)).2.2.2.1, (gz3 (gxr x n 0)).2.2.2.2.1, (gz3 (gxr x n 0)).2.2.2.2.2.1, (gz3 (gxr x n 0)).2.2.2.2.2.2.1, (gz3 (gxr x n 0)).2.2.2.2.2.2.2.1, (gz3 (gxr x n 0)).2.2.2.2.2.2.2.2.1, (gz3 (gxr x n 0)).2.2.2.2.2.2.2.2.2.1, (gz3 (gxr x n 0)).2.2.2.2.2.2.2.2.2.2.1, (gz3 (gxr x n 0)).2.2.2.2.2.2.2.2.2.2.2.1, (gz3 (gxr x n 0)).2.2.2.2.2.2.2.2.2.2.2.2.1, (gz3 (gxr x n 0)).2.2.2.2.2.2.2.2.2.2.2.2.2.1, (gz3 (gxr x n 0)).2.2.2.2.2.2.2.2.2.2.2.2.2.2.1, (gz3 (gxr x n 0)).2.2.2.2.2.2.2.2.2.2.2.2.2.2.2) : gX) := gXd_31
    refine rd_refuse (u' := ((u1.1, u1.2.1, gup u1.2.2.1 1 (Int32.ofNat n), u1.2.2.2.1, u1.2.2.2.2.1, u1.2.2.2.2.2.1, u1.2.2.2.2.2.2.1, u1.2.2.2.2.2.2.2.1, u1.2.2.2.2.2.2.2.2.1, u1.2.2.2.2.2.2.2.2.2.1, u1.2.2.2.2.2.2.2.2.2.2.1, u1.2.2.2.2.2.2.2.2.2.2.2.1, u1.2.2.2.2.2.2.2.2.2.2.2.2.1, u1.2.2.2.2.2.2.2.2.2.2.2.2.2.1, u1.2.2.2.2.2.2.2.2.2.2.2.2.2.2) : gU)) (x' := (((gz3 (gxr x n 0)).1, gup (gz3 (gxr x n 0)).2.1 31 0, (gz3 (gxr x n 0)).2.2.1, (gz3 (gxr x n 0)).2.2.2.1, (gz3 (gxr x n 0)).2.2.2.2.1, (gz3 (gxr x n 0)).2.2.2.2.2.1, (gz3 (gxr x n 0)).2.2.2.2.2.2.1, (gz3 (gxr x n 0)).2.2.2.2.2.2.2.1, (gz3 (gxr x n 0)).2.2.2.2.2.2.2.2.1, (gz3 (gxr x n 0)).2.2.2.2.2.2.2.2.2.1, (gz3 (gxr x n 0)).2.2.2.2.2.2.2.2.2.2.1, (gz3 (gxr x n 0)).2.2.2.2.2.2.2.2.2.2.2.1, (gz3 (gxr x n 0)).2.2.2.2.2.2.2.2.2.2.2.2.1, (gz3 (gxr x n 0)).2.2.2.2.2.2.2.2.2.2.2.2.2.1, (gz3 (gxr x n 0)).2.2.2.2.2.2.2.2.2.2.2.2.2.2.1, (gz3 (gxr x n 0)).2.2.2.2.2.2.2.2.2.2.2.2.2.2.2) : gX)) T (fun y o z => ?_) (gUf_trans (gUf_trans gUf_ur a3 (Nat.le_refl _)) (N2 := n) ⟨fun _ _ => rfl, rfl, rfl, rfl, rfl, rfl, rfl, rfl⟩ (Nat.le_refl _)) rfl (fun y o z => ?_) rfl (gXd_trans (gXd_trans (gXd_xr (n := n)) d3 (Nat.le_refl _)) d4 (Nat.le_refl _))
    · rw [kr, hG, a1, Option.bind_some, k_crtD a2]
    · rw [ra, th, Option.bind_some, r_mrtD e31]
  · rw [if_neg c] at ra
    obtain ⟨u1, x1, a1, a2, K⟩ := rd_handL (u0 := gur u n q) (x0 := gxr x n 1) hq (by omega) rfl T.xq rfl T.ho q 0 g g (gur u n q) (gxr x n 1) (by omega) (gHd_0 T)
    rw [← hG] at a1 a2
    have G := gD_first T (by omega) K
    have g31 : x1.2.1 31 = 1 := K.xk 31 (by omega)
    have fu : gUf n u ((u1.1, u1.2.1, u1.2.2.1, u1.2.2.2.1, u1.2.2.2.2.1, u1.2.2.2.2.2.1, u1.2.2.2.2.2.2.1, u1.2.2.2.2.2.2.2.1, u1.2.2.2.2.2.2.2.2.1, u1.2.2.2.2.2.2.2.2.2.1, u1.2.2.2.2.2.2.2.2.2.2.1, u1.2.2.2.2.2.2.2.2.2.2.2.1, gup u1.2.2.2.2.2.2.2.2.2.2.2.2.1 6 (Int32.ofNat (n + q)), u1.2.2.2.2.2.2.2.2.2.2.2.2.2.1, u1.2.2.2.2.2.2.2.2.2.2.2.2.2.2) : gU) := gUf_trans (gUf_trans gUf_ur K.uf (Nat.le_refl _)) (gUf_r (N := n)) (Nat.le_refl _)
    have fx : gXd n x x1 := gXd_trans (gXd_xr (n := n)) K.xd (Nat.le_refl _)
    have kr2 : ∀ y o z, cR_run (some 187) (some 1) (some 163) (some 165) (gH u y o z) = crt (Int32.ofNat n) (gH ((u1.1, u1.2.1, u1.2.2.1, u1.2.2.2.1, u1.2.2.2.2.1, u1.2.2.2.2.2.1, u1.2.2.2.2.2.2.1, u1.2.2.2.2.2.2.2.1, u1.2.2.2.2.2.2.2.2.1, u1.2.2.2.2.2.2.2.2.2.1, u1.2.2.2.2.2.2.2.2.2.2.1, u1.2.2.2.2.2.2.2.2.2.2.2.1, gup u1.2.2.2.2.2.2.2.2.2.2.2.2.1 6 (Int32.ofNat (n + q)), u1.2.2.2.2.2.2.2.2.2.2.2.2.2.1, u1.2.2.2.2.2.2.2.2.2.2.2.2.2.2) : gU) y o z) := by
      intro y o z
      rw [kr, a1, Option.bind_some]
    have ra2 : ∀ y o z, mM_takeAll (some 188) (gH y x o z) = mrt (gH y x1 o z) := by
      intro y o z
      rw [ra, a2, Option.bind_some]
    clear kr ra a1 a2 K
    generalize (((u1.1, u1.2.1, u1.2.2.1, u1.2.2.2.1, u1.2.2.2.2.1, u1.2.2.2.2.2.1, u1.2.2.2.2.2.2.1, u1.2.2.2.2.2.2.2.1, u1.2.2.2.2.2.2.2.2.1, u1.2.2.2.2.2.2.2.2.2.1, u1.2.2.2.2.2.2.2.2.2.2.1, u1.2.2.2.2.2.2.2.2.2.2.2.1, gup u1.2.2.2.2.2.2.2.2.2.2.2.2.1 6 (Int32.ofNat (n + q)), u1.2.2.2.2.2.2.2.2.2.2.2.2.2.1, u1.2.2.2.2.2.2.2.2.2.2.2.2.2.2) : gU) : gU) = u2 at *
    have nq : n ≤ n + q := by omega
    by_cases c1 : 0 < m ∧ u2.2.2.2.2.1 0 = 15
    · obtain ⟨p0, e15⟩ := c1
      have G1 : gD n (n + q) q m (n + q) 1 (su u2 1) (sx (gz3 x1) 1) := gD_s G (by omega)
      have h18 : (sx (gz3 x1) 1).2.1 18 = Int32.ofNat 0 := rfl
      have kY := k_crtY (l := Int32.ofNat n) G p0 e15
      have rY := r_mrtY g31 G p0 e15
      obtain ⟨u3, k1, k2, k3⟩ := rd_val (n0 := n) (f := n + q) (q := q) (m := m) 12 0 7 (by omega) (su u2 1) (sx (gz3 x1) 1) (n + q) 1 G1 h18
      have rv : ∀ y o z, cR_readValue 20 (some 187) (some 1) (some 163) 1 (gH (su u2 1) y o z) = some (gH u3 y o z) := k1
      have fu3 : gUf n u u3 := gUf_trans (gUf_trans fu (gUf_r (N := n)) (Nat.le_refl _)) k2 nq
      have z3 : gXd n x1 (gz3 x1) := gXd_z3
      have s1 : gXd n (gz3 x1) (sx (gz3 x1) 1) := gXd_s (fun i hi => gup_ne (by omega))
      have fx1 : gXd n x (sx (gz3 x1) 1) := gXd_trans (gXd_trans fx z3 (Nat.le_refl _)) s1 (Nat.le_refl _)
      rcases k3 with ⟨x3, l1, N3, pos3, l2, l3, l4, l5, l6, l7, l8⟩ | ⟨l0, x3, l1, l2⟩
      · have rE := r_endT gBr12 l1 l5 l2.gg
        have fx3 : gXd n x x3 := gXd_trans fx1 l4.fd nq
        have hp3 := l2.hp
        have hm3 := l2.hm
        by_cases cp : pos3 = m
        · have ep : u3.2.2.2.2.2.2.2.2.2.2.2.2.1 0 = u3.2.2.2.1 1 := by rw [l2.pu, l2.um, cp]
          have ex : x3.2.1 32 = x3.2.1 15 := by rw [l2.px, l2.xm, cp]
          exact rd_accept T (fun y o z => by rw [kr2, kY, k_37Y rv l2.wr ep]) fu3 (fun y o z => by rw [ra2, rY, rE, r_145Y l2.gg ex]) l2 fx3 l6 l7
        · have ep : ¬ u3.2.2.2.2.2.2.2.2.2.2.2.2.1 0 = u3.2.2.2.1 1 := by
            rw [l2.pu, l2.um]
            exact fun h => cp ((n_eq (by omega) (by omega)).mp h)
          have ex : ¬ x3.2.1 32 = x3.2.1 15 := by
            rw [l2.px, l2.xm]
            exact fun h => cp ((n_eq (by omega) (by omega)).mp h)
          have d1 : gXd n x3 ((x3.1, gup x3.2.1 31 0, x3.2.2.1, x3.2.2.2.1, x3.2.2.2.2.1, x3.2.2.2.2.2.1, x3.2.2.2.2.2.2.1, x3.2.2.2.2.2.2.2.1, x3.2.2.2.2.2.2.2.2.1, x3.2.2.2.2.2.2.2.2.2.1, x3.2.2.2.2.2.2.2.2.2.2.1, x3.2.2.2.2.2.2.2.2.2.2.2.1, x3.2.2.2.2.2.2.2.2.2.2.2.2.1, x3.2.2.2.2.2.2.2.2.2.2.2.2.2.1, x3.2.2.2.2.2.2.2.2.2.2.2.2.2.2.1, x3.2.2.2.2.2.2.2.2.2.2.2.2.2.2.2) : gX) := gXd_31
          exact rd_refuse (u' := ((u3.1, u3.2.1, gup u3.2.2.1 1 (Int32.ofNat n), u3.2.2.2.1, u3.2.2.2.2.1, u3.2.2.2.2.2.1, u3.2.2.2.2.2.2.1, u3.2.2.2.2.2.2.2.1, u3.2.2.2.2.2.2.2.2.1, u3.2.2.2.2.2.2.2.2.2.1, u3.2.2.2.2.2.2.2.2.2.2.1, u3.2.2.2.2.2.2.2.2.2.2.2.1, gup u3.2.2.2.2.2.2.2.2.2.2.2.2.1 1 1, u3.2.2.2.2.2.2.2.2.2.2.2.2.2.1, u3.2.2.2.2.2.2.2.2.2.2.2.2.2.2) : gU)) (x' := ((x3.1, gup x3.2.1 31 0, x3.2.2.1, x3.2.2.2.1, x3.2.2.2.2.1, x3.2.2.2.2.2.1, x3.2.2.2.2.2.2.1, x3.2.2.2.2.2.2.2.1, x3.2.2.2.2.2.2.2.2.1, x3.2.2.2.2.2.2.2.2.2.1, x3.2.2.2.2.2.2.2.2.2.2.1, x3.2.2.2.2.2.2.2.2.2.2.2.1, x3.2.2.2.2.2.2.2.2.2.2.2.2.1, x3.2.2.2.2.2.2.2.2.2.2.2.2.2.1, x3.2.2.2.2.2.2.2.2.2.2.2.2.2.2.1, x3.2.2.2.2.2.2.2.2.2.2.2.2.2.2.2) : gX)) T (fun y o z => by rw [kr2, kY, k_37N rv ep]) (gUf_trans fu3 (N2 := n) ⟨fun _ _ => rfl, rfl, rfl, rfl, rfl, rfl, rfl, rfl⟩ (Nat.le_refl _)) rfl (fun y o z => by rw [ra2, rY, rE, r_145N l2.gg ex]) rfl (gXd_trans fx3 d1 (Nat.le_refl _))
      · have rE := r_endF gBr12 l1
        have fx3 : gXd n x x3 := gXd_trans fx1 l2 nq
        exact rd_refuse (u' := ((u3.1, u3.2.1, gup u3.2.2.1 1 (Int32.ofNat n), u3.2.2.2.1, u3.2.2.2.2.1, u3.2.2.2.2.2.1, u3.2.2.2.2.2.2.1, u3.2.2.2.2.2.2.2.1, u3.2.2.2.2.2.2.2.2.1, u3.2.2.2.2.2.2.2.2.2.1, u3.2.2.2.2.2.2.2.2.2.2.1, u3.2.2.2.2.2.2.2.2.2.2.2.1, u3.2.2.2.2.2.2.2.2.2.2.2.2.1, u3.2.2.2.2.2.2.2.2.2.2.2.2.2.1, u3.2.2.2.2.2.2.2.2.2.2.2.2.2.2) : gU)) (x' := x3) T (fun y o z => by rw [kr2, kY, k_37W rv l0]) (gUf_trans fu3 (N2 := n) ⟨fun _ _ => rfl, rfl, rfl, rfl, rfl, rfl, rfl, rfl⟩ (Nat.le_refl _)) rfl (fun y o z => by rw [ra2, rY, rE]) l1.1 fx3
    · obtain ⟨u3, b1, b2, b3⟩ := k_crtN (l := Int32.ofNat n) G c1
      obtain ⟨x3, d1, d2, d3⟩ := r_mrtN g31 G c1
      exact rd_refuse (u' := u3) (x' := x3) T (fun y o z => by rw [kr2, b3]) (gUf_trans fu b1 nq) (by rw [b2]; exact gup_eq) (fun y o z => by rw [ra2, d3]) d1 (gXd_trans fx d2 nq)
end H
end
section
/-! the law's beginning: both constructors, run by the kernel -/
def gm_I0 : Nat → Nat → Int32 := fun _ _ => 0
def gm_J0 : Nat → Nat → Int64 := fun _ _ => 0
def gm_hA : gx_H := (List.range 188).map (gm_cell gm_I0 gm_J0)
def gm_hB : gx_H := (List.range 211).map (gm_cell gm_I0 gm_J0)
def gm_rA : Option (gx_H × Nat × Nat) := match gx_run none 3000 5 0 0 (lv_args 0 [.ref 0]) [] [(0, gx_dv 0)] 0 0 with
  | some (.returned none, h, k, u) => some (h, k, u)
  | _ => none
def gm_rB : Option (gx_H × Nat × Nat) := match gx_run none 3000 5 119 0 (lv_args 0 [.ref 188]) [] (gm_hA ++ [(7, gx_dv 7)]) 0 0 with
  | some (.returned none, h, k, u) => some (h, k, u)
  | _ => none
set_option maxRecDepth 100000 in
theorem gm_cA : gm_rA = some (gm_hA, 187, 2166) := by decide +kernel
set_option maxRecDepth 100000 in
theorem gm_cB : gm_rB = some (gm_hB, 22, 2024) := by decide +kernel
theorem gm_eA : gx_run none 3000 5 0 0 (lv_args 0 [.ref 0]) [] [(0, gx_dv 0)] 0 0 = some (.returned none, gm_hA, 187, 2166) := by
  have h := gm_cA
  unfold gm_rA at h
  split at h
  · rename_i a b c e; cases h; exact e
  · cases h
theorem gm_eB : gx_run none 3000 5 119 0 (lv_args 0 [.ref 188]) [] (gm_hA ++ [(7, gx_dv 7)]) 0 0 = some (.returned none, gm_hB, 22, 2024) := by
  have h := gm_cB
  unfold gm_rB at h
  split at h
  · rename_i a b c e; cases h; exact e
  · cases h
section GS
variable {xs : Option (List Int32)} {n d j pc : Nat} {L : gx_L} {st : List Value} {h : gx_H} {k u : Nat} {r : Option (Outcome × gx_H × Nat × Nat)}
theorem gs_p {ins : Instr} {q : Nat × gx_L × List Value} (hi : gx_I j pc = some ins) (hp : gx_p (gx_mo j) (gx_nl j) ins pc L st = some q) (K : gx_run xs n d j q.1 q.2.1 q.2.2 h k u = r) : gx_run xs (n + 1) d j pc L st h k u = r := by
  rw [gx_run]; simp only [hi, hp]; exact K
theorem gs_n {ins : Instr} {q : Nat × List Value × gx_H × Nat × Nat} (hi : gx_I j pc = some ins) (hp : gx_p (gx_mo j) (gx_nl j) ins pc L st = none) (hq : gx_q xs (gx_mo j) h ins pc L st = none) (hw : gx_w (gx_mo j) (gx_in j) h ins pc st = none) (hn : gx_n (gx_mo j) h ins pc st = some q) (K : gx_run xs n d j q.1 L q.2.1 q.2.2.1 (k + q.2.2.2.1) (u + q.2.2.2.2) = r) : gx_run xs (n + 1) d j pc L st h k u = r := by
  rw [gx_run]; simp only [hi, hp, hq, hw, hn]; exact K
theorem gs_c {ins : Instr} {q : Nat × List Value × List Value} {h1 : gx_H} {kc uc : Nat} (hi : gx_I j pc = some ins) (hp : gx_p (gx_mo j) (gx_nl j) ins pc L st = none) (hq : gx_q xs (gx_mo j) h ins pc L st = none) (hw : gx_w (gx_mo j) (gx_in j) h ins pc st = none) (hn : gx_n (gx_mo j) h ins pc st = none) (hm : gx_mu (gx_mo j) h ins pc st = none) (he : gx_e j ins st = none) (hb : gx_bi (gx_mo j) h ins pc st = none) (ht : gx_th j pc ins st = none) (hc : gx_c (gx_mo j) h ins st = some q)
    (hr : (q.2.2.map fun v => v.category).sum ≤ 8 ∧ (lg_sl q.2.1).length ≤ gx_nl q.1) (C : gx_run xs n d q.1 0 (lv_args 0 q.2.1) [] h 0 0 = some (.returned none, h1, kc, uc)) (K : gx_run xs n (d + 1) j (pc + 3) L q.2.2 h1 (k + kc) (u + uc) = r) : gx_run xs (n + 1) (d + 1) j pc L st h k u = r := by
  rw [gx_run]; simp only [hi, hp, hq, hw, hn, hm, he, hb, ht, hc]; rw [if_pos hr]; simp only [C]; exact K
end GS
def gm_L : gx_L := [(4, .int 0), (3, .ref 211), (2, .ref 188), (1, .ref 0), (0, .float 0)]
theorem gm_h0 : gm_hB ++ [(101, [.long 0])] = gm_mk gm_I0 gm_J0 [] := by
  unfold gm_hB gm_mk
  rw [List.append_nil, show (List.range 212) = List.range 211 ++ [211] from List.range_succ, List.map_append]
  rfl
theorem gm_hAl : gm_hA.length = 188 := by simp [gm_hA]
theorem gm_hBl : gm_hB.length = 211 := by simp [gm_hB]
theorem gm_begin {xs : Option (List Int32)} {n : Nat} {r : Option (Outcome × gx_H × Nat × Nat)} (hn : 3000 ≤ n) (K : gx_run xs n 300 195 23 gm_L [] (gm_mk gm_I0 gm_J0 []) 212 4234 = r) : gx_run xs (n + 13) 300 195 0 [(0, .float 0)] [] [] 0 0 = r := by
  refine gs_n (ins := .new 8) (q := (3, [.ref 0], [(0, gx_dv 0)], 1, 6)) rfl rfl rfl rfl rfl ?_
  refine gs_p (ins := .dup) (q := (4, [(0, .float 0)], [.ref 0, .ref 0])) rfl rfl ?_
  refine gs_c (d := 299) (ins := .invokespecial 64) (q := (0, [.ref 0], [.ref 0])) (h1 := gm_hA) (kc := 187) (uc := 2166) rfl rfl rfl rfl rfl rfl rfl rfl rfl rfl (by decide) (gv_up xs (Or.inr rfl) _ _ _ _ _ _ _ _ _ _ _ _ (by omega) (by omega) gm_eA) ?_
  refine gs_p (ins := .astore_n 1) (q := (8, [(1, .ref 0), (0, .float 0)], [])) rfl rfl ?_
  refine gs_n (ins := .new 65) (q := (11, [.ref 188], gm_hA ++ [(7, gx_dv 7)], 1, 37)) rfl rfl rfl rfl (by show some (8 + 3, [Value.ref gm_hA.length], gm_hA ++ [(7, gx_dv 7)], 1, (gx_dv 7).length) = _; rw [gm_hAl]; rfl) ?_
  refine gs_p (ins := .dup) (q := (12, [(1, .ref 0), (0, .float 0)], [.ref 188, .ref 188])) rfl rfl ?_
  refine gs_c (d := 299) (ins := .invokespecial 67) (q := (119, [.ref 188], [.ref 188])) (h1 := gm_hB) (kc := 22) (uc := 2024) rfl rfl rfl rfl rfl rfl rfl rfl rfl rfl (by decide) (gv_up xs (Or.inr rfl) _ _ _ _ _ _ _ _ _ _ _ _ (by omega) (by omega) gm_eB) ?_
  refine gs_p (ins := .astore_n 2) (q := (16, [(2, .ref 188), (1, .ref 0), (0, .float 0)], [])) rfl rfl ?_
  refine gs_p (ins := .iconst 1) (q := (17, [(2, .ref 188), (1, .ref 0), (0, .float 0)], [.int 1])) rfl rfl ?_
  refine gs_n (ins := .newarray .long) (q := (19, [.ref 211], gm_mk gm_I0 gm_J0 [], 1, 1)) rfl rfl rfl rfl (by rw [← gm_h0]; show some (17 + 2, [Value.ref gm_hB.length], gm_hB ++ [(101, [Value.long 0])], 1, 1) = _; rw [gm_hBl]) ?_
  refine gs_p (ins := .astore_n 3) (q := (20, [(3, .ref 211), (2, .ref 188), (1, .ref 0), (0, .float 0)], [])) rfl rfl ?_
  refine gs_p (ins := .iconst 0) (q := (21, [(3, .ref 211), (2, .ref 188), (1, .ref 0), (0, .float 0)], [.int 0])) rfl rfl ?_
  refine gs_p (ins := .istore 4) (q := (23, gm_L, [])) rfl rfl ?_
  exact K
/-- the law out of its decompiled loop -/
theorem gm_law {N : Nat} (H : ∀ xs : List Int32, xs.length ≤ N → ∃ h' : gx_H, lw_law_23 xs 1000000000000000 (some 0) (some 188) (some 211) 0 (gm_mk gm_I0 gm_J0 []) = some (1, h') ∧ h'.length ≤ 100000) : gx_Law N := by
  intro xs hN
  obtain ⟨h', e, hl⟩ := H xs hN
  have V := lw_law_23_ok 1000000000000000 _ _ _ _ _ _ e
  obtain ⟨n, hn⟩ := V.2 gm_L (gv_S1 rfl (gv_S1 rfl (gv_S1 rfl (gv_S1 rfl (gv_S1 rfl gv_S0)))))
  have e2 := gv_up (some xs) (Or.inl rfl) n (n + 3000) _ 300 _ _ _ _ _ _ _ _ (by omega) (Nat.le_refl _) (hn 300 (by decide) 212 4234)
  refine ⟨_, 300, h', _, _, gm_begin (by omega) e2, by omega, ?_, ?_⟩
  · show 212 + (h'.length - _) ≤ 601024; omega
  · show 4234 + 6 * (h'.length - _) ≤ 7293034; omega
end
