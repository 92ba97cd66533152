/-! read: what was handed over comes first -/
abbrev gHd  (n0 i : Nat) (u0 : gU) (x0 : gX) (u : gU) (x : gX) : Prop := (u.2.2.1 1 = Int32.ofNat (n0 + i)) ∧ (x.2.1 33 = Int32.ofNat (n0 + i)) ∧ (∀ k, k < n0 + i → ∃ s c, gO (n0 + i) s c (u.1 k) (x.1 k)) ∧ (∀ k, n0 ≤ k → k < n0 + i → (u.1 k).2.2.2.2.1 6 = 0) ∧ (u.2.2.2.2.2.2.2.2.2.2.2.2.1 = u0.2.2.2.2.2.2.2.2.2.2.2.2.1) ∧ (∀ t, ¬ t = 33 → x.2.1 t = x0.2.1 t) ∧ (gUf n0 u0 u) ∧ (gXd n0 x0 x)
theorem gHd.un {n0 i : Nat} {u0 : gU} {x0 : gX} {u : gU} {x : gX} (h : gHd n0 i u0 x0 u x) : u.2.2.1 1 = Int32.ofNat (n0 + i) := h.1
theorem gHd.xn {n0 i : Nat} {u0 : gU} {x0 : gX} {u : gU} {x : gX} (h : gHd n0 i u0 x0 u x) : x.2.1 33 = Int32.ofNat (n0 + i) := h.2.1
theorem gHd.ob {n0 i : Nat} {u0 : gU} {x0 : gX} {u : gU} {x : gX} (h : gHd n0 i u0 x0 u x) : ∀ k, k < n0 + i → ∃ s c, gO (n0 + i) s c (u.1 k) (x.1 k) := h.2.2.1
theorem gHd.nd {n0 i : Nat} {u0 : gU} {x0 : gX} {u : gU} {x : gX} (h : gHd n0 i u0 x0 u x) : ∀ k, n0 ≤ k → k < n0 + i → (u.1 k).2.2.2.2.1 6 = 0 := h.2.2.2.1
theorem gHd.uk {n0 i : Nat} {u0 : gU} {x0 : gX} {u : gU} {x : gX} (h : gHd n0 i u0 x0 u x) : u.2.2.2.2.2.2.2.2.2.2.2.2.1 = u0.2.2.2.2.2.2.2.2.2.2.2.2.1 := h.2.2.2.2.1
theorem gHd.xk {n0 i : Nat} {u0 : gU} {x0 : gX} {u : gU} {x : gX} (h : gHd n0 i u0 x0 u x) : ∀ t, ¬ t = 33 → x.2.1 t = x0.2.1 t := h.2.2.2.2.2.1
theorem gHd.uf {n0 i : Nat} {u0 : gU} {x0 : gX} {u : gU} {x : gX} (h : gHd n0 i u0 x0 u x) : gUf n0 u0 u := h.2.2.2.2.2.2.1
theorem gHd.xd {n0 i : Nat} {u0 : gU} {x0 : gX} {u : gU} {x : gX} (h : gHd n0 i u0 x0 u x) : gXd n0 x0 x := h.2.2.2.2.2.2.2
section H
variable {n0 q N : Nat} {u u0 : gU} {x x0 : gX}
theorem k_btU {s : Int32} (hu : u.2.2.1 1 = Int32.ofNat N) (hN : N < 32) : ∀ y o z, cR_beginThing (some 187) (some 1) s (gH u y o z) = some (some (3 + 5 * N), gH (ub u N s) y o z) := by
  intro y o z
  have e : (ub u N s).2.2.1 1 = Int32.ofNat (N + 1) := rfl
  unfold cR_beginThing
  rw [ho_1, Option.bind_some, k_begin hu hN, Option.bind_some, if_neg (n_ne1 (by omega)), cR_beginThing_16, ho_1, Option.bind_some]
  show ((cS_thingAt (some 1) (Int32.ofNat N) (gH (ub u N s) y o z)).bind _) = _
  rw [k_tin e (by omega) (by omega), Option.bind_some]
  rfl
theorem k_btU0 {s : Int32} (hu : u.2.2.1 1 = Int32.ofNat 32) : ∀ y o z, cR_beginThing (some 187) (some 1) s (gH u y o z) = some (none, gH ((u.1, u.2.1, u.2.2.1, u.2.2.2.1, u.2.2.2.2.1, u.2.2.2.2.2.1, u.2.2.2.2.2.2.1, u.2.2.2.2.2.2.2.1, u.2.2.2.2.2.2.2.2.1, u.2.2.2.2.2.2.2.2.2.1, u.2.2.2.2.2.2.2.2.2.2.1, u.2.2.2.2.2.2.2.2.2.2.2.1, gup u.2.2.2.2.2.2.2.2.2.2.2.2.1 1 1, u.2.2.2.2.2.2.2.2.2.2.2.2.2.1, u.2.2.2.2.2.2.2.2.2.2.2.2.2.2) : gU) y o z) := by
  intro y o z
  unfold cR_beginThing
  rw [ho_1, Option.bind_some, k_beginF hu, Option.bind_some, if_pos rfl, hp_187_1, Option.bind_some, cR_beginThing_16, ho_1, Option.bind_some, k_tout (u := ((u.1, u.2.1, u.2.2.1, u.2.2.2.1, u.2.2.2.2.1, u.2.2.2.2.2.1, u.2.2.2.2.2.2.1, u.2.2.2.2.2.2.2.1, u.2.2.2.2.2.2.2.2.1, u.2.2.2.2.2.2.2.2.2.1, u.2.2.2.2.2.2.2.2.2.2.1, u.2.2.2.2.2.2.2.2.2.2.2.1, gup u.2.2.2.2.2.2.2.2.2.2.2.2.1 1 1, u.2.2.2.2.2.2.2.2.2.2.2.2.2.1, u.2.2.2.2.2.2.2.2.2.2.2.2.2.2) : gU)) (n := 32) hu (Or.inl (show (-1 : Int32) < 0 by decide)), Option.bind_some]
theorem r_noU {s : Int32} (hg : x.2.1 31 = 1) (hx : x.2.1 33 = Int32.ofNat N) (hN : N < 32) : ∀ y o z, mM_nextObject (some 188) s (gH y x o z) = some (Int32.ofNat N, gH y (xb x N s) o z) := by
  intro y o z
  have es : (((x.1, gup x.2.1 31 1, x.2.2.1, x.2.2.2.1, x.2.2.2.2.1, x.2.2.2.2.2.1, x.2.2.2.2.2.2.1, x.2.2.2.2.2.2.2.1, x.2.2.2.2.2.2.2.2.1, x.2.2.2.2.2.2.2.2.2.1, x.2.2.2.2.2.2.2.2.2.2.1, x.2.2.2.2.2.2.2.2.2.2.2.1, x.2.2.2.2.2.2.2.2.2.2.2.2.1, x.2.2.2.2.2.2.2.2.2.2.2.2.2.1, x.2.2.2.2.2.2.2.2.2.2.2.2.2.2.1, x.2.2.2.2.2.2.2.2.2.2.2.2.2.2.2) : gX) : gX) = x := by rw [gup_same hg]
  have h1 : gv_pV (gH y x o z) (some 188) 7 31 (.int 1) = some (gH y x o z) := by
    rw [hp_188_31]
    exact congrArg (fun w => some (gH y w o z)) es
  have g1 : ¬ x.2.1 31 = 0 := by rw [hg]; exact i_10
  have l32 : Int32.ofNat N < 32 := n_ltl (m := 32) (by omega) (by omega) hN
  rw [mM_nextObject, hi_188_31, Option.bind_some, if_neg g1, hi_188_33, Option.bind_some, hx, if_pos l32, mM_nextObject_22, if_neg (by decide), h1, Option.bind_some, hi_188_31, Option.bind_some, if_neg g1, hi_188_33, Option.bind_some, hx, mM_nextObject_41, hi_188_31, Option.bind_some, if_neg g1, ho_188, Option.bind_some]
  simp only [mM_begin, hr_188_2, Option.bind_some, hb_189 hN, hr_188_3, hb_190 hN, hr_188_4, hb_191 hN, hr_188_5, hb_192 hN, gup_eq, gup_gup, hi_188_33, hx, n_succ, hp_188_33, show (0 : Int32) &&& 1 = 0 from rfl]
  rfl
/-- one holder made anew by the class -/
def uh (u : gU) (N i : Nat) : gU := ((gup u.1 N (((gq_new (u.1 N) 4).1, (gq_new (u.1 N) 4).2.1, (gq_new (u.1 N) 4).2.2.1, (gq_new (u.1 N) 4).2.2.2.1, gup (gq_new (u.1 N) 4).2.2.2.2.1 5 (u.2.2.2.2.2.2.2.1 i), gup (gq_new (u.1 N) 4).2.2.2.2.2 10 (u.2.2.2.2.2.2.2.2.2.2.2.2.2.2 i)) : gQ), u.2.1, gup u.2.2.1 1 (Int32.ofNat (N + 1)), u.2.2.2.1, u.2.2.2.2.1, u.2.2.2.2.2.1, u.2.2.2.2.2.2.1, u.2.2.2.2.2.2.2.1, u.2.2.2.2.2.2.2.2.1, u.2.2.2.2.2.2.2.2.2.1, u.2.2.2.2.2.2.2.2.2.2.1, u.2.2.2.2.2.2.2.2.2.2.2.1, u.2.2.2.2.2.2.2.2.2.2.2.2.1, u.2.2.2.2.2.2.2.2.2.2.2.2.2.1, u.2.2.2.2.2.2.2.2.2.2.2.2.2.2) : gU)
theorem k_mhStep {i g : Nat} (hu : u.2.2.1 1 = Int32.ofNat N) (hN : N < 32) (h5 : u.2.2.2.2.2.2.2.2.2.2.2.2.1 5 = Int32.ofNat q) (hq : q ≤ 4) (hi : i < q) : ∀ y o z, cR_makeHanded_18 (g + 1) (some 187) (some 1) (some 165) (Int32.ofNat i) (gH u y o z) = cR_makeHanded_18 g (some 187) (some 1) (some 165) (Int32.ofNat (i + 1)) (gH (uh u N i) y o z) := by
  intro y o z
  have i4 : i < 4 := by omega
  have eC : (ub u N 4).1 N = gq_new (u.1 N) 4 := gup_eq
  have eCC : ∀ v, gup (ub u N 4).1 N v = gup u.1 N v := fun v => gup_gup
  rw [cR_makeHanded_18, hi_187_5, Option.bind_some, h5, if_pos (n_ltl (by omega) (by omega) hi), ho_187, Option.bind_some, k_btU hu hN, Option.bind_some, if_neg (by simp), hr_165_2, Option.bind_some, ha_167 i4, Option.bind_some, hr_165_3, Option.bind_some, ha_168 i4, Option.bind_some, ho_T hN, Option.bind_some, k_hold (u := ub u N 4) hN, Option.bind_some, cR_makeHanded_56, n_succ, eC, eCC]
  rfl
theorem k_mhFull {i g : Nat} (hu : u.2.2.1 1 = Int32.ofNat 32) (h5 : u.2.2.2.2.2.2.2.2.2.2.2.2.1 5 = Int32.ofNat q) (hq : q ≤ 4) (hi : i < q) : ∀ y o z, cR_makeHanded_18 (g + 1) (some 187) (some 1) (some 165) (Int32.ofNat i) (gH u y o z) = cR_makeHanded_18 g (some 187) (some 1) (some 165) (Int32.ofNat (i + 1)) (gH ((u.1, u.2.1, u.2.2.1, u.2.2.2.1, u.2.2.2.2.1, u.2.2.2.2.2.1, u.2.2.2.2.2.2.1, u.2.2.2.2.2.2.2.1, u.2.2.2.2.2.2.2.2.1, u.2.2.2.2.2.2.2.2.2.1, u.2.2.2.2.2.2.2.2.2.2.1, u.2.2.2.2.2.2.2.2.2.2.2.1, gup u.2.2.2.2.2.2.2.2.2.2.2.2.1 1 1, u.2.2.2.2.2.2.2.2.2.2.2.2.2.1, u.2.2.2.2.2.2.2.2.2.2.2.2.2.2) : gU) y o z) := by
  intro y o z
  rw [cR_makeHanded_18, hi_187_5, Option.bind_some, h5, if_pos (n_ltl (by omega) (by omega) hi), ho_187, Option.bind_some, k_btU0 hu, Option.bind_some, if_pos rfl, cR_makeHanded_56, n_succ]
theorem k_mhEnd {g : Nat} (h5 : u.2.2.2.2.2.2.2.2.2.2.2.2.1 5 = Int32.ofNat q) (hq : q ≤ 4) : ∀ y o z, cR_makeHanded_18 (g + 1) (some 187) (some 1) (some 165) (Int32.ofNat q) (gH u y o z) = some (gH ((u.1, u.2.1, u.2.2.1, u.2.2.2.1, u.2.2.2.2.1, u.2.2.2.2.2.1, u.2.2.2.2.2.2.1, u.2.2.2.2.2.2.2.1, u.2.2.2.2.2.2.2.2.1, u.2.2.2.2.2.2.2.2.2.1, u.2.2.2.2.2.2.2.2.2.2.1, u.2.2.2.2.2.2.2.2.2.2.2.1, gup u.2.2.2.2.2.2.2.2.2.2.2.2.1 6 (u.2.2.1 1), u.2.2.2.2.2.2.2.2.2.2.2.2.2.1, u.2.2.2.2.2.2.2.2.2.2.2.2.2.2) : gU) y o z) := by
  intro y o z
  rw [cR_makeHanded_18, hi_187_5, Option.bind_some, h5, if_neg (n_nltl (by omega) (by omega) (by omega)), hi_1_1, Option.bind_some, hp_187_6, Option.bind_some]
/-- too many: the class refuses -/
theorem k_mhL (hq : q ≤ 4) : ∀ (r i g N : Nat) (u : gU), i + r = q → n0 ≤ N → N ≤ 32 → u.2.2.1 1 = Int32.ofNat N → u.2.2.2.2.2.2.2.2.2.2.2.2.1 5 = Int32.ofNat q → (32 < N + r ∨ u.2.2.2.2.2.2.2.2.2.2.2.2.1 1 = 1) → ∃ u', (∀ y o z, cR_makeHanded_18 (g + r + 1) (some 187) (some 1) (some 165) (Int32.ofNat i) (gH u y o z) = some (gH u' y o z)) ∧ u'.2.2.2.2.2.2.2.2.2.2.2.2.1 1 = 1 ∧ gUf n0 u u' := by
  intro r
  induction r with
  | zero =>
    intro i g N u e n1 n2 h1 h5 w
    obtain rfl : i = q := by omega
    refine ⟨_, k_mhEnd h5 hq, ?_, gUf_r⟩
    rcases w with w | w
    · omega
    · exact w
  | succ r ih =>
    intro i g N u e n1 n2 h1 h5 w
    by_cases c : N < 32
    · obtain ⟨u', a1, a2, a3⟩ := ih (i + 1) g (N + 1) (uh u N i) (by omega) (by omega) (by omega) rfl h5 (by
        rcases w with w | w
        · exact Or.inl (by omega)
        · exact Or.inr w)
      have f0 : gUf n0 u (uh u N i) := ⟨fun j hj => gup_ne (by omega), rfl, rfl, rfl, rfl, rfl, rfl, rfl⟩
      refine ⟨u', fun y o z => ?_, a2, gUf_trans f0 a3 (Nat.le_refl _)⟩
      rw [show g + (r + 1) + 1 = (g + r + 1) + 1 by omega, k_mhStep h1 c h5 hq (by omega)]
      exact a1 y o z
    · obtain rfl : N = 32 := by omega
      obtain ⟨u', a1, a2, a3⟩ := ih (i + 1) g 32 ((u.1, u.2.1, u.2.2.1, u.2.2.2.1, u.2.2.2.2.1, u.2.2.2.2.2.1, u.2.2.2.2.2.2.1, u.2.2.2.2.2.2.2.1, u.2.2.2.2.2.2.2.2.1, u.2.2.2.2.2.2.2.2.2.1, u.2.2.2.2.2.2.2.2.2.2.1, u.2.2.2.2.2.2.2.2.2.2.2.1, gup u.2.2.2.2.2.2.2.2.2.2.2.2.1 1 1, u.2.2.2.2.2.2.2.2.2.2.2.2.2.1, u.2.2.2.2.2.2.2.2.2.2.2.2.2.2) : gU) (by omega) n1 n2 h1 h5 (Or.inr rfl)
      have f0 : gUf n0 u ((u.1, u.2.1, u.2.2.1, u.2.2.2.1, u.2.2.2.2.1, u.2.2.2.2.2.1, u.2.2.2.2.2.2.1, u.2.2.2.2.2.2.2.1, u.2.2.2.2.2.2.2.2.1, u.2.2.2.2.2.2.2.2.2.1, u.2.2.2.2.2.2.2.2.2.2.1, u.2.2.2.2.2.2.2.2.2.2.2.1, gup u.2.2.2.2.2.2.2.2.2.2.2.2.1 1 1, u.2.2.2.2.2.2.2.2.2.2.2.2.2.1, u.2.2.2.2.2.2.2.2.2.2.2.2.2.2) : gU) := gUf_r
      refine ⟨u', fun y o z => ?_, a2, gUf_trans f0 a3 (Nat.le_refl _)⟩
      rw [show g + (r + 1) + 1 = (g + r + 1) + 1 by omega, k_mhFull h1 h5 hq (by omega)]
      exact a1 y o z
/-- a holder's bytes, on the reference's side -/
theorem r_th68 {rec : Option Nat → Int32 → gx_H → Option gx_H} {i : Nat} (hN : N < 32) (hi : i < 4) : ∀ (r j g : Nat) (x : gX), j + r = 8 → ∃ v, (∀ y o z, mM_takeHolders_68 rec (g + r + 1) (some 188) (Int32.ofNat i) (Int32.ofNat N) (Int32.ofNat j) (gH y x o z) = rec (some 188) (Int32.ofNat (i + 1)) (gH y ((gup x.1 N (((x.1 N).1, (x.1 N).2.1, (x.1 N).2.2.1, v, (x.1 N).2.2.2.2.1, (x.1 N).2.2.2.2.2.1, (x.1 N).2.2.2.2.2.2.1, (x.1 N).2.2.2.2.2.2.2) : gP), x.2.1, x.2.2.1, x.2.2.2.1, x.2.2.2.2.1, x.2.2.2.2.2.1, x.2.2.2.2.2.2.1, x.2.2.2.2.2.2.2.1, x.2.2.2.2.2.2.2.2.1, x.2.2.2.2.2.2.2.2.2.1, x.2.2.2.2.2.2.2.2.2.2.1, x.2.2.2.2.2.2.2.2.2.2.2.1, x.2.2.2.2.2.2.2.2.2.2.2.2.1, x.2.2.2.2.2.2.2.2.2.2.2.2.2.1, x.2.2.2.2.2.2.2.2.2.2.2.2.2.2.1, x.2.2.2.2.2.2.2.2.2.2.2.2.2.2.2) : gX) o z)) ∧ (∀ t, t < j → v t = (x.1 N).2.2.2.1 t) ∧ ∀ t, j ≤ t → t < 8 → v t = x.2.2.2.2.1 (8 * i + t) := by
  intro r
  induction r with
  | zero =>
    intro j g x e
    obtain rfl : j = 8 := by omega
    refine ⟨(x.1 N).2.2.2.1, fun y o z => ?_, fun _ _ => rfl, fun t a b => by omega⟩
    rw [mM_takeHolders_68, if_neg (show ¬ Int32.ofNat 8 < 8 by decide), n_succ]
    have eR : gup x.1 N (((x.1 N).1, (x.1 N).2.1, (x.1 N).2.2.1, (x.1 N).2.2.2.1, (x.1 N).2.2.2.2.1, (x.1 N).2.2.2.2.2.1, (x.1 N).2.2.2.2.2.2.1, (x.1 N).2.2.2.2.2.2.2) : gP) = x.1 := gup_self
    rw [eR]
  | succ r ih =>
    intro j g x e
    have ek : (((gup x.1 N (((x.1 N).1, (x.1 N).2.1, (x.1 N).2.2.1, gup (x.1 N).2.2.2.1 j (x.2.2.2.2.1 (8 * i + j)), (x.1 N).2.2.2.2.1, (x.1 N).2.2.2.2.2.1, (x.1 N).2.2.2.2.2.2.1, (x.1 N).2.2.2.2.2.2.2) : gP), x.2.1, x.2.2.1, x.2.2.2.1, x.2.2.2.2.1, x.2.2.2.2.2.1, x.2.2.2.2.2.2.1, x.2.2.2.2.2.2.2.1, x.2.2.2.2.2.2.2.2.1, x.2.2.2.2.2.2.2.2.2.1, x.2.2.2.2.2.2.2.2.2.2.1, x.2.2.2.2.2.2.2.2.2.2.2.1, x.2.2.2.2.2.2.2.2.2.2.2.2.1, x.2.2.2.2.2.2.2.2.2.2.2.2.2.1, x.2.2.2.2.2.2.2.2.2.2.2.2.2.2.1, x.2.2.2.2.2.2.2.2.2.2.2.2.2.2.2) : gX) : gX).1 N = (((x.1 N).1, (x.1 N).2.1, (x.1 N).2.2.1, gup (x.1 N).2.2.2.1 j (x.2.2.2.2.1 (8 * i + j)), (x.1 N).2.2.2.2.1, (x.1 N).2.2.2.2.2.1, (x.1 N).2.2.2.2.2.2.1, (x.1 N).2.2.2.2.2.2.2) : gP) := gup_eq
    obtain ⟨v, h1, h2, h3⟩ := ih (j + 1) g ((gup x.1 N (((x.1 N).1, (x.1 N).2.1, (x.1 N).2.2.1, gup (x.1 N).2.2.2.1 j (x.2.2.2.2.1 (8 * i + j)), (x.1 N).2.2.2.2.1, (x.1 N).2.2.2.2.2.1, (x.1 N).2.2.2.2.2.2.1, (x.1 N).2.2.2.2.2.2.2) : gP), x.2.1, x.2.2.1, x.2.2.2.1, x.2.2.2.2.1, x.2.2.2.2.2.1, x.2.2.2.2.2.2.1, x.2.2.2.2.2.2.2.1, x.2.2.2.2.2.2.2.2.1, x.2.2.2.2.2.2.2.2.2.1, x.2.2.2.2.2.2.2.2.2.2.1, x.2.2.2.2.2.2.2.2.2.2.2.1, x.2.2.2.2.2.2.2.2.2.2.2.2.1, x.2.2.2.2.2.2.2.2.2.2.2.2.2.1, x.2.2.2.2.2.2.2.2.2.2.2.2.2.2.1, x.2.2.2.2.2.2.2.2.2.2.2.2.2.2.2) : gX) (by omega)
    refine ⟨v, fun y o z => ?_, fun t ht => ?_, fun t a b => ?_⟩
    · rw [show g + (r + 1) + 1 = (g + r + 1) + 1 by omega, mM_takeHolders_68, if_pos (show Int32.ofNat j < 8 from n_ltl (m := 8) (by omega) (by omega) (by omega)), hr_188_9, Option.bind_some, hr_188_14, Option.bind_some, n_8, ha_199 (show 8 * i + j < 32 by omega), Option.bind_some, n_8, hb_196 hN (show j < 8 by omega), Option.bind_some, n_succ]
      refine (h1 y o z).trans ?_
      rw [ek]
      show rec (some 188) (Int32.ofNat (i + 1)) (gH y ((gup (gup x.1 N (((x.1 N).1, (x.1 N).2.1, (x.1 N).2.2.1, gup (x.1 N).2.2.2.1 j (x.2.2.2.2.1 (8 * i + j)), (x.1 N).2.2.2.2.1, (x.1 N).2.2.2.2.2.1, (x.1 N).2.2.2.2.2.2.1, (x.1 N).2.2.2.2.2.2.2) : gP)) N (((x.1 N).1, (x.1 N).2.1, (x.1 N).2.2.1, v, (x.1 N).2.2.2.2.1, (x.1 N).2.2.2.2.2.1, (x.1 N).2.2.2.2.2.2.1, (x.1 N).2.2.2.2.2.2.2) : gP), x.2.1, x.2.2.1, x.2.2.2.1, x.2.2.2.2.1, x.2.2.2.2.2.1, x.2.2.2.2.2.2.1, x.2.2.2.2.2.2.2.1, x.2.2.2.2.2.2.2.2.1, x.2.2.2.2.2.2.2.2.2.1, x.2.2.2.2.2.2.2.2.2.2.1, x.2.2.2.2.2.2.2.2.2.2.2.1, x.2.2.2.2.2.2.2.2.2.2.2.2.1, x.2.2.2.2.2.2.2.2.2.2.2.2.2.1, x.2.2.2.2.2.2.2.2.2.2.2.2.2.2.1, x.2.2.2.2.2.2.2.2.2.2.2.2.2.2.2) : gX) o z) = _
      rw [gup_gup]
    · rw [h2 t (by omega), ek]
      exact gup_ne (by omega)
    · by_cases c : t = j
      · subst c
        rw [h2 t (by omega), ek]
        exact gup_eq
      · exact h3 t (by omega) b
theorem r_thStep {i g l : Nat} (hg : x.2.1 31 = 1) (hx : x.2.1 33 = Int32.ofNat N) (hN : N < 32) (h12 : x.2.1 12 = Int32.ofNat q) (hq : q ≤ 4) (hi : i < q) (hl : x.2.2.2.1 i = Int32.ofNat l) : ∃ v, (∀ y o z, mM_takeHolders_33 (g + 1) (some 188) (Int32.ofNat i) (gH y x o z) = mM_takeHolders_33 g (some 188) (Int32.ofNat (i + 1)) (gH y ((gup x.1 N (((gp_new (x.1 N) 4).1, (gp_new (x.1 N) 4).2.1, (gp_new (x.1 N) 4).2.2.1, v, (gp_new (x.1 N) 4).2.2.2.2.1, Int32.ofNat l, (gp_new (x.1 N) 4).2.2.2.2.2.2.1, (gp_new (x.1 N) 4).2.2.2.2.2.2.2) : gP), (xb x N 4).2.1, (xb x N 4).2.2.1, (xb x N 4).2.2.2.1, (xb x N 4).2.2.2.2.1, (xb x N 4).2.2.2.2.2.1, (xb x N 4).2.2.2.2.2.2.1, (xb x N 4).2.2.2.2.2.2.2.1, (xb x N 4).2.2.2.2.2.2.2.2.1, (xb x N 4).2.2.2.2.2.2.2.2.2.1, (xb x N 4).2.2.2.2.2.2.2.2.2.2.1, (xb x N 4).2.2.2.2.2.2.2.2.2.2.2.1, (xb x N 4).2.2.2.2.2.2.2.2.2.2.2.2.1, (xb x N 4).2.2.2.2.2.2.2.2.2.2.2.2.2.1, (xb x N 4).2.2.2.2.2.2.2.2.2.2.2.2.2.2.1, (xb x N 4).2.2.2.2.2.2.2.2.2.2.2.2.2.2.2) : gX) o z)) ∧ ∀ t, t < 8 → v t = x.2.2.2.2.1 (8 * i + t) := by
  have i4 : i < 4 := by omega
  have g31 : ¬ x.2.1 31 = 0 := by rw [hg]; exact i_10
  have eR : (xb x N 4).1 N = gp_new (x.1 N) 4 := gup_eq
  have eRR : ∀ v, gup (xb x N 4).1 N v = gup x.1 N v := fun v => gup_gup
  have hl' : (xb x N 4).2.2.2.1 i = Int32.ofNat l := hl
  obtain ⟨G, hG⟩ : ∃ G, 1000000000000000 = G + 8 + 1 := ⟨999999999999991, rfl⟩
  obtain ⟨v, h1, h2, h3⟩ := r_th68 (rec := mM_takeHolders_33 g) (i := i) hN i4 8 0 G ((gup x.1 N (((gp_new (x.1 N) 4).1, (gp_new (x.1 N) 4).2.1, (gp_new (x.1 N) 4).2.2.1, (gp_new (x.1 N) 4).2.2.2.1, (gp_new (x.1 N) 4).2.2.2.2.1, Int32.ofNat l, (gp_new (x.1 N) 4).2.2.2.2.2.2.1, (gp_new (x.1 N) 4).2.2.2.2.2.2.2) : gP), (xb x N 4).2.1, (xb x N 4).2.2.1, (xb x N 4).2.2.2.1, (xb x N 4).2.2.2.2.1, (xb x N 4).2.2.2.2.2.1, (xb x N 4).2.2.2.2.2.2.1, (xb x N 4).2.2.2.2.2.2.2.1, (xb x N 4).2.2.2.2.2.2.2.2.1, (xb x N 4).2.2.2.2.2.2.2.2.2.1, (xb x N 4).2.2.2.2.2.2.2.2.2.2.1, (xb x N 4).2.2.2.2.2.2.2.2.2.2.2.1, (xb x N 4).2.2.2.2.2.2.2.2.2.2.2.2.1, (xb x N 4).2.2.2.2.2.2.2.2.2.2.2.2.2.1, (xb x N 4).2.2.2.2.2.2.2.2.2.2.2.2.2.2.1, (xb x N 4).2.2.2.2.2.2.2.2.2.2.2.2.2.2.2) : gX) (by omega)
  have ek : (((gup x.1 N (((gp_new (x.1 N) 4).1, (gp_new (x.1 N) 4).2.1, (gp_new (x.1 N) 4).2.2.1, (gp_new (x.1 N) 4).2.2.2.1, (gp_new (x.1 N) 4).2.2.2.2.1, Int32.ofNat l, (gp_new (x.1 N) 4).2.2.2.2.2.2.1, (gp_new (x.1 N) 4).2.2.2.2.2.2.2) : gP), (xb x N 4).2.1, (xb x N 4).2.2.1, (xb x N 4).2.2.2.1, (xb x N 4).2.2.2.2.1, (xb x N 4).2.2.2.2.2.1, (xb x N 4).2.2.2.2.2.2.1, (xb x N 4).2.2.2.2.2.2.2.1, (xb x N 4).2.2.2.2.2.2.2.2.1, (xb x N 4).2.2.2.2.2.2.2.2.2.1, (xb x N 4).2.2.2.2.2.2.2.2.2.2.1, (xb x N 4).2.2.2.2.2.2.2.2.2.2.2.1, (xb x N 4).2.2.2.2.2.2.2.2.2.2.2.2.1, (xb x N 4).2.2.2.2.2.2.2.2.2.2.2.2.2.1, (xb x N 4).2.2.2.2.2.2.2.2.2.2.2.2.2.2.1, (xb x N 4).2.2.2.2.2.2.2.2.2.2.2.2.2.2.2) : gX) : gX).1 N = (((gp_new (x.1 N) 4).1, (gp_new (x.1 N) 4).2.1, (gp_new (x.1 N) 4).2.2.1, (gp_new (x.1 N) 4).2.2.2.1, (gp_new (x.1 N) 4).2.2.2.2.1, Int32.ofNat l, (gp_new (x.1 N) 4).2.2.2.2.2.2.1, (gp_new (x.1 N) 4).2.2.2.2.2.2.2) : gP) := gup_eq
  refine ⟨v, fun y o z => ?_, fun t ht => h3 t (by omega) ht⟩
  have h1' := h1 y o z
  rw [← hG, ek] at h1'
  rw [mM_takeHolders_33, hi_188_12, Option.bind_some, h12, if_pos (n_ltl (by omega) (by omega) hi), hi_188_31, Option.bind_some, if_neg g31, ho_188, Option.bind_some, r_noU hg hx hN, Option.bind_some, hr_188_3, Option.bind_some, hr_188_13, Option.bind_some, ha_198 i4, Option.bind_some, hl', hb_190 hN, Option.bind_some, eR, eRR]
  refine Eq.trans h1' ?_
  show mM_takeHolders_33 g (some 188) (Int32.ofNat (i + 1)) (gH y ((gup (gup x.1 N (((gp_new (x.1 N) 4).1, (gp_new (x.1 N) 4).2.1, (gp_new (x.1 N) 4).2.2.1, (gp_new (x.1 N) 4).2.2.2.1, (gp_new (x.1 N) 4).2.2.2.2.1, Int32.ofNat l, (gp_new (x.1 N) 4).2.2.2.2.2.2.1, (gp_new (x.1 N) 4).2.2.2.2.2.2.2) : gP)) N (((gp_new (x.1 N) 4).1, (gp_new (x.1 N) 4).2.1, (gp_new (x.1 N) 4).2.2.1, v, (gp_new (x.1 N) 4).2.2.2.2.1, Int32.ofNat l, (gp_new (x.1 N) 4).2.2.2.2.2.2.1, (gp_new (x.1 N) 4).2.2.2.2.2.2.2) : gP), (xb x N 4).2.1, (xb x N 4).2.2.1, (xb x N 4).2.2.2.1, (xb x N 4).2.2.2.2.1, (xb x N 4).2.2.2.2.2.1, (xb x N 4).2.2.2.2.2.2.1, (xb x N 4).2.2.2.2.2.2.2.1, (xb x N 4).2.2.2.2.2.2.2.2.1, (xb x N 4).2.2.2.2.2.2.2.2.2.1, (xb x N 4).2.2.2.2.2.2.2.2.2.2.1, (xb x N 4).2.2.2.2.2.2.2.2.2.2.2.1, (xb x N 4).2.2.2.2.2.2.2.2.2.2.2.2.1, (xb x N 4).2.2.2.2.2.2.2.2.2.2.2.2.2.1, (xb x N 4).2.2.2.2.2.2.2.2.2.2.2.2.2.2.1, (xb x N 4).2.2.2.2.2.2.2.2.2.2.2.2.2.2.2) : gX) o z) = _
  rw [gup_gup]
theorem r_thEnd {g : Nat} (h12 : x.2.1 12 = Int32.ofNat q) (hq : q ≤ 4) : ∀ y o z, mM_takeHolders_33 (g + 1) (some 188) (Int32.ofNat q) (gH y x o z) = some (gH y x o z) := by
  intro y o z
  rw [mM_takeHolders_33, hi_188_12, Option.bind_some, h12, if_neg (n_nltl (by omega) (by omega) (by omega))]
/-- all holders, both sides -/
theorem rd_handL (hq : q ≤ 4) (h32 : n0 + q ≤ 32) (h5 : u0.2.2.2.2.2.2.2.2.2.2.2.2.1 5 = Int32.ofNat q) (h12 : x0.2.1 12 = Int32.ofNat q) (h31 : x0.2.1 31 = 1) (ho : ∀ i, i < q → ∃ l, l ≤ 8 ∧ u0.2.2.2.2.2.2.2.1 i = Int32.ofNat l ∧ x0.2.2.2.1 i = Int32.ofNat l ∧ ∀ j, j < l → x0.2.2.2.2.1 (8 * i + j) = gt_w (u0.2.2.2.2.2.2.2.2.2.2.2.2.2.2 i) j) : ∀ (r i g g2 : Nat) (u : gU) (x : gX), i + r = q → gHd n0 i u0 x0 u x → ∃ u' x', (∀ y o z, cR_makeHanded_18 (g + r + 1) (some 187) (some 1) (some 165) (Int32.ofNat i) (gH u y o z) = some (gH ((u'.1, u'.2.1, u'.2.2.1, u'.2.2.2.1, u'.2.2.2.2.1, u'.2.2.2.2.2.1, u'.2.2.2.2.2.2.1, u'.2.2.2.2.2.2.2.1, u'.2.2.2.2.2.2.2.2.1, u'.2.2.2.2.2.2.2.2.2.1, u'.2.2.2.2.2.2.2.2.2.2.1, u'.2.2.2.2.2.2.2.2.2.2.2.1, gup u'.2.2.2.2.2.2.2.2.2.2.2.2.1 6 (Int32.ofNat (n0 + q)), u'.2.2.2.2.2.2.2.2.2.2.2.2.2.1, u'.2.2.2.2.2.2.2.2.2.2.2.2.2.2) : gU) y o z)) ∧ (∀ y o z, mM_takeHolders_33 (g2 + r + 1) (some 188) (Int32.ofNat i) (gH y x o z) = some (gH y x' o z)) ∧ gHd n0 q u0 x0 u' x' := by
  intro r
  induction r with
  | zero =>
    intro i g g2 u x e K
    obtain rfl : i = q := by omega
    refine ⟨u, x, fun y o z => ?_, r_thEnd ((K.xk 12 (by omega)).trans h12) hq, K⟩
    rw [k_mhEnd ((congrFun K.uk 5).trans h5) hq, K.un]
  | succ r ih =>
    intro i g g2 u x e K
    have hi : i < q := by omega
    have hN : n0 + i < 32 := by omega
    obtain ⟨l, l8, l1, l2, l3⟩ := ho i hi
    have l1' : u.2.2.2.2.2.2.2.1 i = Int32.ofNat l := (congrFun K.uf.u8 i).trans l1
    have l2' : x.2.2.2.1 i = Int32.ofNat l := (congrFun K.xd.d8 i).trans l2
    obtain ⟨v, r1, r2⟩ := r_thStep (g := g2 + r + 1) ((K.xk 31 (by omega)).trans h31) K.xn hN ((K.xk 12 (by omega)).trans h12) hq hi l2'
    have k1 := k_mhStep (i := i) (g := g + r + 1) K.un hN ((congrFun K.uk 5).trans h5) hq hi
    have O : gO (n0 + i + 1) 4 l (((gq_new (u.1 (n0 + i)) 4).1, (gq_new (u.1 (n0 + i)) 4).2.1, (gq_new (u.1 (n0 + i)) 4).2.2.1, (gq_new (u.1 (n0 + i)) 4).2.2.2.1, gup (gq_new (u.1 (n0 + i)) 4).2.2.2.2.1 5 (Int32.ofNat l), gup (gq_new (u.1 (n0 + i)) 4).2.2.2.2.2 10 (u.2.2.2.2.2.2.2.2.2.2.2.2.2.2 i)) : gQ) (((gp_new (x.1 (n0 + i)) 4).1, (gp_new (x.1 (n0 + i)) 4).2.1, (gp_new (x.1 (n0 + i)) 4).2.2.1, v, (gp_new (x.1 (n0 + i)) 4).2.2.2.2.1, Int32.ofNat l, (gp_new (x.1 (n0 + i)) 4).2.2.2.2.2.2.1, (gp_new (x.1 (n0 + i)) 4).2.2.2.2.2.2.2) : gP) := by
      refine gO_buf (gO_new (s := 4) (by omega) (by omega)) rfl l8 (fun t ht => ?_)
      rw [r2 t (by omega), congrFun K.xd.d9, l3 t ht, congrFun K.uf.uh]
    have K1 : gHd n0 (i + 1) u0 x0 (uh u (n0 + i) i) ((gup x.1 (n0 + i) (((gp_new (x.1 (n0 + i)) 4).1, (gp_new (x.1 (n0 + i)) 4).2.1, (gp_new (x.1 (n0 + i)) 4).2.2.1, v, (gp_new (x.1 (n0 + i)) 4).2.2.2.2.1, Int32.ofNat l, (gp_new (x.1 (n0 + i)) 4).2.2.2.2.2.2.1, (gp_new (x.1 (n0 + i)) 4).2.2.2.2.2.2.2) : gP), (xb x (n0 + i) 4).2.1, (xb x (n0 + i) 4).2.2.1, (xb x (n0 + i) 4).2.2.2.1, (xb x (n0 + i) 4).2.2.2.2.1, (xb x (n0 + i) 4).2.2.2.2.2.1, (xb x (n0 + i) 4).2.2.2.2.2.2.1, (xb x (n0 + i) 4).2.2.2.2.2.2.2.1, (xb x (n0 + i) 4).2.2.2.2.2.2.2.2.1, (xb x (n0 + i) 4).2.2.2.2.2.2.2.2.2.1, (xb x (n0 + i) 4).2.2.2.2.2.2.2.2.2.2.1, (xb x (n0 + i) 4).2.2.2.2.2.2.2.2.2.2.2.1, (xb x (n0 + i) 4).2.2.2.2.2.2.2.2.2.2.2.2.1, (xb x (n0 + i) 4).2.2.2.2.2.2.2.2.2.2.2.2.2.1, (xb x (n0 + i) 4).2.2.2.2.2.2.2.2.2.2.2.2.2.2.1, (xb x (n0 + i) 4).2.2.2.2.2.2.2.2.2.2.2.2.2.2.2) : gX) := by
      have f0 : gUf n0 u (uh u (n0 + i) i) := ⟨fun j hj => gup_ne (by omega), rfl, rfl, rfl, rfl, rfl, rfl, rfl⟩
      have f1 : gXd n0 x ((gup x.1 (n0 + i) (((gp_new (x.1 (n0 + i)) 4).1, (gp_new (x.1 (n0 + i)) 4).2.1, (gp_new (x.1 (n0 + i)) 4).2.2.1, v, (gp_new (x.1 (n0 + i)) 4).2.2.2.2.1, Int32.ofNat l, (gp_new (x.1 (n0 + i)) 4).2.2.2.2.2.2.1, (gp_new (x.1 (n0 + i)) 4).2.2.2.2.2.2.2) : gP), (xb x (n0 + i) 4).2.1, (xb x (n0 + i) 4).2.2.1, (xb x (n0 + i) 4).2.2.2.1, (xb x (n0 + i) 4).2.2.2.2.1, (xb x (n0 + i) 4).2.2.2.2.2.1, (xb x (n0 + i) 4).2.2.2.2.2.2.1, (xb x (n0 + i) 4).2.2.2.2.2.2.2.1, (xb x (n0 + i) 4).2.2.2.2.2.2.2.2.1, (xb x (n0 + i) 4).2.2.2.2.2.2.2.2.2.1, (xb x (n0 + i) 4).2.2.2.2.2.2.2.2.2.2.1, (xb x (n0 + i) 4).2.2.2.2.2.2.2.2.2.2.2.1, (xb x (n0 + i) 4).2.2.2.2.2.2.2.2.2.2.2.2.1, (xb x (n0 + i) 4).2.2.2.2.2.2.2.2.2.2.2.2.2.1, (xb x (n0 + i) 4).2.2.2.2.2.2.2.2.2.2.2.2.2.2.1, (xb x (n0 + i) 4).2.2.2.2.2.2.2.2.2.2.2.2.2.2.2) : gX) := ⟨fun j hj => gup_ne (by omega), fun j hj => gup_ne (by omega), rfl, rfl, rfl, rfl⟩
      refine ⟨rfl, rfl, ?_, fun k a b => ?_, K.uk, fun t ht => (gup_ne ht).trans (K.xk t ht), gUf_trans K.uf f0 (Nat.le_refl _), gXd_trans K.xd f1 (Nat.le_refl _)⟩
      · show ∀ k, k < n0 + i + 1 → ∃ s c, gO (n0 + i + 1) s c (gup u.1 (n0 + i) (((gq_new (u.1 (n0 + i)) 4).1, (gq_new (u.1 (n0 + i)) 4).2.1, (gq_new (u.1 (n0 + i)) 4).2.2.1, (gq_new (u.1 (n0 + i)) 4).2.2.2.1, gup (gq_new (u.1 (n0 + i)) 4).2.2.2.2.1 5 (u.2.2.2.2.2.2.2.1 i), gup (gq_new (u.1 (n0 + i)) 4).2.2.2.2.2 10 (u.2.2.2.2.2.2.2.2.2.2.2.2.2.2 i)) : gQ) k) (gup x.1 (n0 + i) (((gp_new (x.1 (n0 + i)) 4).1, (gp_new (x.1 (n0 + i)) 4).2.1, (gp_new (x.1 (n0 + i)) 4).2.2.1, v, (gp_new (x.1 (n0 + i)) 4).2.2.2.2.1, Int32.ofNat l, (gp_new (x.1 (n0 + i)) 4).2.2.2.2.2.2.1, (gp_new (x.1 (n0 + i)) 4).2.2.2.2.2.2.2) : gP) k)
        rw [l1']
        exact gob_new K.ob ⟨4, l, O⟩
      · show (gup u.1 (n0 + i) (((gq_new (u.1 (n0 + i)) 4).1, (gq_new (u.1 (n0 + i)) 4).2.1, (gq_new (u.1 (n0 + i)) 4).2.2.1, (gq_new (u.1 (n0 + i)) 4).2.2.2.1, gup (gq_new (u.1 (n0 + i)) 4).2.2.2.2.1 5 (u.2.2.2.2.2.2.2.1 i), gup (gq_new (u.1 (n0 + i)) 4).2.2.2.2.2 10 (u.2.2.2.2.2.2.2.2.2.2.2.2.2.2 i)) : gQ) k).2.2.2.2.1 6 = 0
        by_cases c : k = n0 + i
        · subst c; rw [gup_eq]; rfl
        · rw [gup_ne c]; exact K.nd k a (by omega)
    obtain ⟨u', x', a1, a2, a3⟩ := ih (i + 1) g g2 _ _ (by omega) K1
    refine ⟨u', x', fun y o z => ?_, fun y o z => ?_, a3⟩
    · rw [show g + (r + 1) + 1 = (g + r + 1) + 1 by omega, k1]
      exact a1 y o z
    · rw [show g2 + (r + 1) + 1 = (g2 + r + 1) + 1 by omega, r1]
      exact a2 y o z
end H
