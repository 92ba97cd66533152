section
/-! read: objects begun, the top of the pile -/
abbrev gWr := Option Nat → Option Nat → Option Nat → Int32 → gx_H → Option gx_H
def gIR (n0 f q m D B : Nat) (W : gWr) : Prop := ∀ (u : gU) (x : gX) (N pos : Nat), gD n0 f q m N pos u x → x.2.1 18 = Int32.ofNat D → gVal n0 f q m D B N 1 u x (W (some 187) (some 1) (some 163) (Int32.ofNat (D + 1)))
def gDe (W : gWr) : Prop := ∀ (u : gU) (y : gX) (o : Nat → Int64) (z : gx_H) (d : Int32), u.2.2.2.2.2.2.2.2.2.2.2.2.1 1 = 1 → W (some 187) (some 1) (some 163) d (gH u y o z) = some (gH u y o z)
section H
variable {n0 f q m N pos : Nat} {u : gU} {x : gX}
theorem gVal_step {D B B2 N : Nat} {a b : Int32} {u2 : gU} {x2 : gX} {F F2 : gx_H → Option gx_H} (h : gTo B a b x x2) (hu : gUf N u u2) (hx : gXf N D x x2) (hF : ∀ y o z, F (gH u y o z) = F2 (gH u2 y o z)) (k : gVal n0 f q m D B2 N b u2 x2 F2) : gVal n0 f q m D (B + B2) N a u x F := by
  obtain ⟨u', k1, k2, k3⟩ := k
  refine ⟨u', fun y o z => (hF y o z).trans (k1 y o z), gUf_trans hu k2 (Nat.le_refl _), ?_⟩
  rcases k3 with ⟨x', l1, N', pos', l2, l3, l4, l5⟩ | ⟨l0, x', l1, l2⟩
  · exact Or.inl ⟨x', gTo_T h l1, N', pos', l2, l3, gXf_trans hx l4 (Nat.le_refl _) (Nat.le_refl _), l5⟩
  · exact Or.inr ⟨l0, x', gTo_F h l1, gXd_trans hx.fd l2 (Nat.le_refl _)⟩
theorem gVal_mono {D B B2 N : Nat} {a : Int32} {F : gx_H → Option gx_H} (k : gVal n0 f q m D B N a u x F) (h : B ≤ B2) : gVal n0 f q m D B2 N a u x F := by
  obtain ⟨u', k1, k2, k3⟩ := k
  refine ⟨u', k1, k2, ?_⟩
  rcases k3 with ⟨x', l1, l2⟩ | ⟨l0, x', l1, l2⟩
  · exact Or.inl ⟨x', gRT_mono l1 h, l2⟩
  · exact Or.inr ⟨l0, x', gRF_mono l1 h, l2⟩
theorem gVal_bad {D B N : Nat} {a : Int32} {u' : gU} {x' : gX} {F : gx_H → Option gx_H} (h1 : ∀ y o z, F (gH u y o z) = some (gH u' y o z)) (h2 : gUf N u u') (h3 : u'.2.2.2.2.2.2.2.2.2.2.2.2.1 1 = 1) (h4 : gRF B a x x') (h5 : gXd N x x') : gVal n0 f q m D B N a u x F := ⟨u', h1, h2, Or.inr ⟨h3, x', h4, h5⟩⟩
/-- an object more on both sides -/
theorem gD_new {q' : gQ} {p' : gP} {r s : Nat → Int32} {w : Nat → Int32} (D : gD n0 f q m N pos u x) (hN : N < 32) (ho : ∃ s c, gO (N + 1) s c q' p') (h6 : q'.2.2.2.2.1 6 = 0) (h1 : r 1 = Int32.ofNat (N + 1)) (s33 : s 33 = Int32.ofNat (N + 1)) (s29 : s 29 = Int32.ofNat (N + 1 - f)) (sk : ∀ i, ¬ i = 33 → ¬ i = 29 → s i = x.2.1 i) (hw : w = gup x.2.2.2.2.2.2.2.2.2.2.2.2.2.2.2 (N - f) (Int32.ofNat N)) : gD n0 f q m (N + 1) pos ((gup u.1 N q', u.2.1, r, u.2.2.2.1, u.2.2.2.2.1, u.2.2.2.2.2.1, u.2.2.2.2.2.2.1, u.2.2.2.2.2.2.2.1, u.2.2.2.2.2.2.2.2.1, u.2.2.2.2.2.2.2.2.2.1, u.2.2.2.2.2.2.2.2.2.2.1, u.2.2.2.2.2.2.2.2.2.2.2.1, u.2.2.2.2.2.2.2.2.2.2.2.2.1, u.2.2.2.2.2.2.2.2.2.2.2.2.2.1, u.2.2.2.2.2.2.2.2.2.2.2.2.2.2) : gU) ((gup x.1 N p', s, x.2.2.1, x.2.2.2.1, x.2.2.2.2.1, x.2.2.2.2.2.1, x.2.2.2.2.2.2.1, x.2.2.2.2.2.2.2.1, x.2.2.2.2.2.2.2.2.1, x.2.2.2.2.2.2.2.2.2.1, x.2.2.2.2.2.2.2.2.2.2.1, x.2.2.2.2.2.2.2.2.2.2.2.1, x.2.2.2.2.2.2.2.2.2.2.2.2.1, x.2.2.2.2.2.2.2.2.2.2.2.2.2.1, x.2.2.2.2.2.2.2.2.2.2.2.2.2.2.1, w) : gX) := by
  have fN := D.fN
  have nf := D.nf
  refine ⟨by omega, D.nf, by omega, h1, s33, (sk 1 (by omega) (by omega)).trans D.xo, gob_new D.ob ho, fun k a b => ?_, D.wr, (sk 31 (by omega) (by omega)).trans D.gg, D.pu, (sk 32 (by omega) (by omega)).trans D.px, D.hp, D.hm, D.um, (sk 15 (by omega) (by omega)).trans D.xm, D.bs, D.b8, D.fi, D.fh, D.hc, (sk 12 (by omega) (by omega)).trans D.xq, s29, fun i hi => ?_⟩
  · show (gup u.1 N q' k).2.2.2.2.1 6 = 0
    by_cases e : k = N
    · subst e; rw [gup_eq]; exact h6
    · rw [gup_ne e]; exact D.nd k a (by omega)
  · show w i = _
    rw [hw]
    by_cases e : i = N - f
    · subst e; rw [gup_eq, show f + (N - f) = N by omega]
    · rw [gup_ne e]; exact D.ro i (by omega)
/-- one object changed on both sides -/
theorem gD_ob {k : Nat} {q' : gQ} {p' : gP} (D : gD n0 f q m N pos u x) (ho : ∃ s c, gO N s c q' p') (h6 : q'.2.2.2.2.1 6 = 0) : gD n0 f q m N pos ((gup u.1 k q', u.2.1, u.2.2.1, u.2.2.2.1, u.2.2.2.2.1, u.2.2.2.2.2.1, u.2.2.2.2.2.2.1, u.2.2.2.2.2.2.2.1, u.2.2.2.2.2.2.2.2.1, u.2.2.2.2.2.2.2.2.2.1, u.2.2.2.2.2.2.2.2.2.2.1, u.2.2.2.2.2.2.2.2.2.2.2.1, u.2.2.2.2.2.2.2.2.2.2.2.2.1, u.2.2.2.2.2.2.2.2.2.2.2.2.2.1, u.2.2.2.2.2.2.2.2.2.2.2.2.2.2) : gU) ((gup x.1 k p', x.2.1, x.2.2.1, x.2.2.2.1, x.2.2.2.2.1, x.2.2.2.2.2.1, x.2.2.2.2.2.2.1, x.2.2.2.2.2.2.2.1, x.2.2.2.2.2.2.2.2.1, x.2.2.2.2.2.2.2.2.2.1, x.2.2.2.2.2.2.2.2.2.2.1, x.2.2.2.2.2.2.2.2.2.2.2.1, x.2.2.2.2.2.2.2.2.2.2.2.2.1, x.2.2.2.2.2.2.2.2.2.2.2.2.2.1, x.2.2.2.2.2.2.2.2.2.2.2.2.2.2.1, x.2.2.2.2.2.2.2.2.2.2.2.2.2.2.2) : gX) := by
  refine ⟨D.hN, D.nf, D.fN, D.un, D.xn, D.xo, gob_up D.ob ho, fun j a b => ?_, D.wr, D.gg, D.pu, D.px, D.hp, D.hm, D.um, D.xm, D.bs, D.b8, D.fi, D.fh, D.hc, D.xq, D.be, D.ro⟩
  show (gup u.1 k q' j).2.2.2.2.1 6 = 0
  by_cases e : j = k
  · subst e; rw [gup_eq]; exact h6
  · rw [gup_ne e]; exact D.nd j a b
/-- what the tie doesn't speak of -/
theorem gD_x {u' : gU} {x' : gX} (D : gD n0 f q m N pos u x) (hC : u'.1 = u.1) (h1 : u'.2.2.1 = u.2.2.1) (h3 : u'.2.2.2.1 = u.2.2.2.1) (h4 : u'.2.2.2.2.1 = u.2.2.2.2.1) (h7 : ∀ i, ¬ i = 2 → ¬ i = 3 → u'.2.2.2.2.2.2.2.2.2.2.2.2.1 i = u.2.2.2.2.2.2.2.2.2.2.2.2.1 i) (hR : x'.1 = x.1) (hk : ∀ i, ¬ i = 18 → ¬ i = 35 → ¬ i = 36 → x'.2.1 i = x.2.1 i) (h200 : x'.2.2.2.2.2.1 = x.2.2.2.2.2.1) (h210 : x'.2.2.2.2.2.2.2.2.2.2.2.2.2.2.2 = x.2.2.2.2.2.2.2.2.2.2.2.2.2.2.2) : gD n0 f q m N pos u' x' :=
  ⟨D.hN, D.nf, D.fN, by rw [h1]; exact D.un, (hk 33 (by omega) (by omega) (by omega)).trans D.xn, (hk 1 (by omega) (by omega) (by omega)).trans D.xo, by rw [hC, hR]; exact D.ob, by rw [hC]; exact D.nd, (h7 1 (by omega) (by omega)).trans D.wr, (hk 31 (by omega) (by omega) (by omega)).trans D.gg, (h7 0 (by omega) (by omega)).trans D.pu, (hk 32 (by omega) (by omega) (by omega)).trans D.px, D.hp, D.hm, by rw [h3]; exact D.um, (hk 15 (by omega) (by omega) (by omega)).trans D.xm, by rw [h200, h4]; exact D.bs, by rw [h4]; exact D.b8, (h7 6 (by omega) (by omega)).trans D.fi, (h7 4 (by omega) (by omega)).trans D.fh, (h7 5 (by omega) (by omega)).trans D.hc, (hk 12 (by omega) (by omega) (by omega)).trans D.xq, (hk 29 (by omega) (by omega) (by omega)).trans D.be, by rw [h210]; exact D.ro⟩
def ub (u : gU) (N : Nat) (s : Int32) : gU := ((gup u.1 N (gq_new (u.1 N) s), u.2.1, gup u.2.2.1 1 (Int32.ofNat (N + 1)), u.2.2.2.1, u.2.2.2.2.1, u.2.2.2.2.2.1, u.2.2.2.2.2.2.1, u.2.2.2.2.2.2.2.1, u.2.2.2.2.2.2.2.2.1, u.2.2.2.2.2.2.2.2.2.1, u.2.2.2.2.2.2.2.2.2.2.1, u.2.2.2.2.2.2.2.2.2.2.2.1, u.2.2.2.2.2.2.2.2.2.2.2.2.1, u.2.2.2.2.2.2.2.2.2.2.2.2.2.1, u.2.2.2.2.2.2.2.2.2.2.2.2.2.2) : gU)
def xb (x : gX) (N : Nat) (s : Int32) : gX := ((gup x.1 N (gp_new (x.1 N) s), gup x.2.1 33 (Int32.ofNat (N + 1)), x.2.2.1, x.2.2.2.1, x.2.2.2.2.1, x.2.2.2.2.2.1, x.2.2.2.2.2.2.1, x.2.2.2.2.2.2.2.1, x.2.2.2.2.2.2.2.2.1, x.2.2.2.2.2.2.2.2.2.1, x.2.2.2.2.2.2.2.2.2.2.1, x.2.2.2.2.2.2.2.2.2.2.2.1, x.2.2.2.2.2.2.2.2.2.2.2.2.1, x.2.2.2.2.2.2.2.2.2.2.2.2.2.1, x.2.2.2.2.2.2.2.2.2.2.2.2.2.2.1, x.2.2.2.2.2.2.2.2.2.2.2.2.2.2.2) : gX)
def xe (x : gX) (N f : Nat) : gX := ((x.1, gup x.2.1 29 (Int32.ofNat (N + 1 - f)), x.2.2.1, x.2.2.2.1, x.2.2.2.2.1, x.2.2.2.2.2.1, x.2.2.2.2.2.2.1, x.2.2.2.2.2.2.2.1, x.2.2.2.2.2.2.2.2.1, x.2.2.2.2.2.2.2.2.2.1, x.2.2.2.2.2.2.2.2.2.2.1, x.2.2.2.2.2.2.2.2.2.2.2.1, x.2.2.2.2.2.2.2.2.2.2.2.2.1, x.2.2.2.2.2.2.2.2.2.2.2.2.2.1, x.2.2.2.2.2.2.2.2.2.2.2.2.2.2.1, gup x.2.2.2.2.2.2.2.2.2.2.2.2.2.2.2 (N - f) (Int32.ofNat N)) : gX)
theorem gD_beg {s : Nat} (D : gD n0 f q m N pos u x) (hN : N < 32) (h8 : s < 8) (h5 : ¬ s = 5) : gD n0 f q m (N + 1) pos (ub u N (Int32.ofNat s)) (xe (xb x N (Int32.ofNat s)) N f) :=
  gD_new D hN ⟨s, 0, gO_new h8 h5⟩ rfl rfl (gup_ne (by omega)) rfl (fun i a b => by
    show gup (gup x.2.1 33 (Int32.ofNat (N + 1))) 29 (Int32.ofNat (N + 1 - f)) i = _
    rw [gup_ne b, gup_ne a]) rfl
theorem k_bt {s : Int32} (D : gD n0 f q m N pos u x) (hN : N < 32) : ∀ y o z, cR_beginThing (some 187) (some 1) s (gH u y o z) = some (some (3 + 5 * N), gH (ub u N s) y o z) := by
  intro y o z
  have e : (ub u N s).2.2.1 1 = Int32.ofNat (N + 1) := rfl
  unfold cR_beginThing
  rw [ho_1, Option.bind_some, k_begin D.un hN, Option.bind_some, if_neg (n_ne1 (by omega)), cR_beginThing_16, ho_1, Option.bind_some]
  show ((cS_thingAt (some 1) (Int32.ofNat N) (gH (ub u N s) y o z)).bind _) = _
  rw [k_tin e (by omega) (by omega), Option.bind_some]
  rfl
theorem k_bt0 {s : Int32} (D : gD n0 f q m 32 pos u x) : ∀ y o z, cR_beginThing (some 187) (some 1) s (gH u y o z) = some (none, gH ((u.1, u.2.1, u.2.2.1, u.2.2.2.1, u.2.2.2.2.1, u.2.2.2.2.2.1, u.2.2.2.2.2.2.1, u.2.2.2.2.2.2.2.1, u.2.2.2.2.2.2.2.2.1, u.2.2.2.2.2.2.2.2.2.1, u.2.2.2.2.2.2.2.2.2.2.1, u.2.2.2.2.2.2.2.2.2.2.2.1, gup u.2.2.2.2.2.2.2.2.2.2.2.2.1 1 1, u.2.2.2.2.2.2.2.2.2.2.2.2.2.1, u.2.2.2.2.2.2.2.2.2.2.2.2.2.2) : gU) y o z) := by
  intro y o z
  unfold cR_beginThing
  rw [ho_1, Option.bind_some, k_beginF D.un, Option.bind_some, if_pos rfl, hp_187_1, Option.bind_some, cR_beginThing_16, ho_1, Option.bind_some, k_tout (u := ((u.1, u.2.1, u.2.2.1, u.2.2.2.1, u.2.2.2.2.1, u.2.2.2.2.2.1, u.2.2.2.2.2.2.1, u.2.2.2.2.2.2.2.1, u.2.2.2.2.2.2.2.2.1, u.2.2.2.2.2.2.2.2.2.1, u.2.2.2.2.2.2.2.2.2.2.1, u.2.2.2.2.2.2.2.2.2.2.2.1, gup u.2.2.2.2.2.2.2.2.2.2.2.2.1 1 1, u.2.2.2.2.2.2.2.2.2.2.2.2.2.1, u.2.2.2.2.2.2.2.2.2.2.2.2.2.2) : gU)) (n := 32) D.un (Or.inl (show (-1 : Int32) < 0 by decide)), Option.bind_some]
theorem r_no1 {s : Int32} (D : gD n0 f q m N pos u x) (hN : N < 32) : ∀ y o z, mM_nextObject (some 188) s (gH y x o z) = some (Int32.ofNat N, gH y (xb x N s) o z) := by
  intro y o z
  have es : (((x.1, gup x.2.1 31 1, x.2.2.1, x.2.2.2.1, x.2.2.2.2.1, x.2.2.2.2.2.1, x.2.2.2.2.2.2.1, x.2.2.2.2.2.2.2.1, x.2.2.2.2.2.2.2.2.1, x.2.2.2.2.2.2.2.2.2.1, x.2.2.2.2.2.2.2.2.2.2.1, x.2.2.2.2.2.2.2.2.2.2.2.1, x.2.2.2.2.2.2.2.2.2.2.2.2.1, x.2.2.2.2.2.2.2.2.2.2.2.2.2.1, x.2.2.2.2.2.2.2.2.2.2.2.2.2.2.1, x.2.2.2.2.2.2.2.2.2.2.2.2.2.2.2) : gX) : gX) = x := by rw [gup_same D.gg]
  have hx : gv_pV (gH y x o z) (some 188) 7 31 (.int 1) = some (gH y x o z) := by
    rw [hp_188_31]
    exact congrArg (fun w => some (gH y w o z)) es
  have g1 : ¬ x.2.1 31 = 0 := by rw [D.gg]; exact i_10
  have l32 : Int32.ofNat N < 32 := n_ltl (m := 32) (by omega) (by omega) hN
  rw [mM_nextObject, hi_188_31, Option.bind_some, if_neg g1, hi_188_33, Option.bind_some, D.xn, if_pos l32, mM_nextObject_22, if_neg (by decide), hx, Option.bind_some, hi_188_31, Option.bind_some, if_neg g1, hi_188_33, Option.bind_some, D.xn, mM_nextObject_41, hi_188_31, Option.bind_some, if_neg g1, ho_188, Option.bind_some]
  simp only [mM_begin, hr_188_2, Option.bind_some, hb_189 hN, hr_188_3, hb_190 hN, hr_188_4, hb_191 hN, hr_188_5, hb_192 hN, gup_eq, gup_gup, hi_188_33, D.xn, n_succ, hp_188_33, show (0 : Int32) &&& 1 = 0 from rfl]
  rfl
theorem r_no0 {s : Int32} (D : gD n0 f q m 32 pos u x) : ∀ y o z, mM_nextObject (some 188) s (gH y x o z) = some (31, gH y ((x.1, gup x.2.1 31 0, x.2.2.1, x.2.2.2.1, x.2.2.2.2.1, x.2.2.2.2.2.1, x.2.2.2.2.2.2.1, x.2.2.2.2.2.2.2.1, x.2.2.2.2.2.2.2.2.1, x.2.2.2.2.2.2.2.2.2.1, x.2.2.2.2.2.2.2.2.2.2.1, x.2.2.2.2.2.2.2.2.2.2.2.1, x.2.2.2.2.2.2.2.2.2.2.2.2.1, x.2.2.2.2.2.2.2.2.2.2.2.2.2.1, x.2.2.2.2.2.2.2.2.2.2.2.2.2.2.1, x.2.2.2.2.2.2.2.2.2.2.2.2.2.2.2) : gX) o z) := by
  intro y o z
  have g1 : ¬ x.2.1 31 = 0 := by rw [D.gg]; exact i_10
  have e31 : gup x.2.1 31 0 31 = 0 := rfl
  rw [mM_nextObject, hi_188_31, Option.bind_some, if_neg g1, hi_188_33, Option.bind_some, D.xn, if_neg (by decide), mM_nextObject_21, mM_nextObject_22, if_neg (by decide), hp_188_31, Option.bind_some, hi_188_31, Option.bind_some, if_pos (show gup x.2.1 31 0 31 = 0 from e31), mM_nextObject_41, hi_188_31, Option.bind_some, if_pos (show gup x.2.1 31 0 31 = 0 from e31)]
theorem r_noD {s : Int32} (h : x.2.1 31 = 0) : ∀ y o z, mM_nextObject (some 188) s (gH y x o z) = some (31, gH y ((x.1, gup x.2.1 31 0, x.2.2.1, x.2.2.2.1, x.2.2.2.2.1, x.2.2.2.2.2.1, x.2.2.2.2.2.2.1, x.2.2.2.2.2.2.2.1, x.2.2.2.2.2.2.2.2.1, x.2.2.2.2.2.2.2.2.2.1, x.2.2.2.2.2.2.2.2.2.2.1, x.2.2.2.2.2.2.2.2.2.2.2.1, x.2.2.2.2.2.2.2.2.2.2.2.2.1, x.2.2.2.2.2.2.2.2.2.2.2.2.2.1, x.2.2.2.2.2.2.2.2.2.2.2.2.2.2.1, x.2.2.2.2.2.2.2.2.2.2.2.2.2.2.2) : gX) o z) := by
  intro y o z
  have e31 : gup x.2.1 31 0 31 = 0 := rfl
  rw [mM_nextObject, hi_188_31, Option.bind_some, if_pos h, mM_nextObject_21, mM_nextObject_22, if_neg (by decide), hp_188_31, Option.bind_some, hi_188_31, Option.bind_some, if_pos (show gup x.2.1 31 0 31 = 0 from e31), mM_nextObject_41, hi_188_31, Option.bind_some, if_pos (show gup x.2.1 31 0 31 = 0 from e31)]
theorem r_en (hg : x.2.1 31 = 1) (hb : x.2.1 29 = Int32.ofNat (N - f)) (hf : f ≤ N) (hN : N < 32) : ∀ y o z, mM_enroll (some 188) (Int32.ofNat N) (gH y x o z) = some (gH y (xe x N f) o z) := by
  intro y o z
  have g1 : ¬ x.2.1 31 = 0 := by rw [hg]; exact i_10
  rw [mM_enroll, hi_188_31, Option.bind_some, if_neg g1, hr_188_34, Option.bind_some, hi_188_29, Option.bind_some, hb, hb_210 (by omega), Option.bind_some, hi_188_29, Option.bind_some]
  show ((gv_pV _ _ _ _ (.int (x.2.1 29 + 1))).bind _) = _
  rw [hb, n_succ, hp_188_29, Option.bind_some, show N - f + 1 = N + 1 - f by omega]
  rfl
theorem r_en0 {v : Int32} (hg : x.2.1 31 = 0) : ∀ y o z, mM_enroll (some 188) v (gH y x o z) = some (gH y x o z) := by
  intro y o z
  rw [mM_enroll, hi_188_31, Option.bind_some, if_pos hg]
theorem r_pushR {D : Nat} {a b : Int32} (h18 : x.2.1 18 = Int32.ofNat D) (hD : D < 14) : ∀ y o z, mM_push (some 188) a b (gH y x o z) = some (gH y ((x.1, gup x.2.1 18 (Int32.ofNat (D + 1)), x.2.2.1, x.2.2.2.1, x.2.2.2.2.1, x.2.2.2.2.2.1, gup x.2.2.2.2.2.2.1 D a, gup x.2.2.2.2.2.2.2.1 D 0, gup x.2.2.2.2.2.2.2.2.1 D b, x.2.2.2.2.2.2.2.2.2.1, x.2.2.2.2.2.2.2.2.2.2.1, x.2.2.2.2.2.2.2.2.2.2.2.1, x.2.2.2.2.2.2.2.2.2.2.2.2.1, x.2.2.2.2.2.2.2.2.2.2.2.2.2.1, x.2.2.2.2.2.2.2.2.2.2.2.2.2.2.1, x.2.2.2.2.2.2.2.2.2.2.2.2.2.2.2) : gX) o z) := by
  intro y o z
  simp only [mM_push, hr_188_19, Option.bind_some, hi_188_18, h18, hb_201 hD, hr_188_20, hb_202 hD, hr_188_21, hb_203 hD, n_succ, hp_188_18]
/-- the top of the pile -/
def gPi (D k i c : Nat) (x : gX) : Prop := x.2.1 18 = Int32.ofNat (D + 1) ∧ x.2.2.2.2.2.2.1 D = Int32.ofNat k ∧ x.2.2.2.2.2.2.2.1 D = Int32.ofNat i ∧ x.2.2.2.2.2.2.2.2.1 D = Int32.ofNat c
theorem r_go {D k i c : Nat} {s : Int32} (P : gPi D k i c x) (hD : D < 14) (hk : k < 32) (ht : (x.1 k).2.2.2.2.1 = s) : ∀ y o z, mM_goesOn (some 188) (gH y x o z) = mM_goesOn_28 (some 188) (Int32.ofNat D) (Int32.ofNat k) s (gH y x o z) := by
  intro y o z
  obtain ⟨p1, p2, p3, p4⟩ := P
  rw [mM_goesOn, hi_188_18, Option.bind_some, p1, n_pred, hr_188_19, Option.bind_some, ha_201 hD, Option.bind_some, p2, if_neg (n_nn (by omega)), hr_188_2, Option.bind_some, ha_189 hk, Option.bind_some, ht]
theorem r_dl {D k i c : Nat} {s : Int32} (P : gPi D k i c x) (hD : D < 14) (hk : k < 32) (ht : (x.1 k).2.2.2.2.1 = s) : ∀ y o z, mM_deliver (some 188) (gH y x o z) = mM_deliver_28 (some 188) (Int32.ofNat D) (Int32.ofNat k) s (gH y x o z) := by
  intro y o z
  obtain ⟨p1, p2, p3, p4⟩ := P
  rw [mM_deliver, hi_188_18, Option.bind_some, p1, n_pred, hr_188_19, Option.bind_some, ha_201 hD, Option.bind_some, p2, if_neg (n_nn (by omega)), hr_188_2, Option.bind_some, ha_189 hk, Option.bind_some, ht]
theorem r_fin {D k : Nat} (h18 : x.2.1 18 = Int32.ofNat (D + 1)) (hk : k < 32) : ∀ y o z, mM_finish (some 188) (Int32.ofNat k) (gH y x o z) = some (gH y ((x.1, gup (gup (gup x.2.1 18 (Int32.ofNat D)) 35 6) 36 (Int32.ofNat k), x.2.2.1, x.2.2.2.1, x.2.2.2.2.1, x.2.2.2.2.2.1, x.2.2.2.2.2.2.1, x.2.2.2.2.2.2.2.1, x.2.2.2.2.2.2.2.2.1, x.2.2.2.2.2.2.2.2.2.1, x.2.2.2.2.2.2.2.2.2.2.1, x.2.2.2.2.2.2.2.2.2.2.2.1, x.2.2.2.2.2.2.2.2.2.2.2.2.1, x.2.2.2.2.2.2.2.2.2.2.2.2.2.1, x.2.2.2.2.2.2.2.2.2.2.2.2.2.2.1, x.2.2.2.2.2.2.2.2.2.2.2.2.2.2.2) : gX) o z) := by
  intro y o z
  rw [mM_finish, hi_188_18, Option.bind_some, h18, n_pred, hp_188_18, Option.bind_some, if_neg (n_nn (by omega)), ho_188, Option.bind_some, r_got, Option.bind_some]
theorem r_goEnd {D k i : Nat} {s : Int32} (P : gPi D k i i x) (hD : D < 14) (hk : k < 32) (ht : (x.1 k).2.2.2.2.1 = s) (hs : ¬ s = 0) : ∀ y o z, mM_goesOn (some 188) (gH y x o z) = some (2, gH y ((x.1, gup (gup (gup x.2.1 18 (Int32.ofNat D)) 35 6) 36 (Int32.ofNat k), x.2.2.1, x.2.2.2.1, x.2.2.2.2.1, x.2.2.2.2.2.1, x.2.2.2.2.2.2.1, x.2.2.2.2.2.2.2.1, x.2.2.2.2.2.2.2.2.1, x.2.2.2.2.2.2.2.2.2.1, x.2.2.2.2.2.2.2.2.2.2.1, x.2.2.2.2.2.2.2.2.2.2.2.1, x.2.2.2.2.2.2.2.2.2.2.2.2.1, x.2.2.2.2.2.2.2.2.2.2.2.2.2.1, x.2.2.2.2.2.2.2.2.2.2.2.2.2.2.1, x.2.2.2.2.2.2.2.2.2.2.2.2.2.2.2) : gX) o z) := by
  intro y o z
  rw [r_go P hD hk ht]
  obtain ⟨p1, p2, p3, p4⟩ := P
  rw [mM_goesOn_28, if_neg hs, hr_188_20, Option.bind_some, ha_202 hD, Option.bind_some, hr_188_21, Option.bind_some, ha_203 hD, Option.bind_some, p3, p4, if_pos rfl, ho_188, Option.bind_some, r_fin p1 hk, Option.bind_some]
/-- the object is done on both sides -/
theorem gVal_end {D k B : Nat} {F : gx_H → Option gx_H} (G : gD n0 f q m N pos u x) (hk : n0 ≤ k) (hkN : k < N) (hF : ∀ y o z, F (gH u y o z) = some (gH ((u.1, u.2.1, u.2.2.1, u.2.2.2.1, u.2.2.2.2.1, u.2.2.2.2.2.1, u.2.2.2.2.2.2.1, u.2.2.2.2.2.2.2.1, u.2.2.2.2.2.2.2.2.1, u.2.2.2.2.2.2.2.2.2.1, u.2.2.2.2.2.2.2.2.2.2.1, u.2.2.2.2.2.2.2.2.2.2.2.1, gup (gup u.2.2.2.2.2.2.2.2.2.2.2.2.1 2 6) 3 (Int32.ofNat k), u.2.2.2.2.2.2.2.2.2.2.2.2.2.1, u.2.2.2.2.2.2.2.2.2.2.2.2.2.2) : gU) y o z)) (hr : gRT B 0 x ((x.1, gup (gup (gup x.2.1 18 (Int32.ofNat D)) 35 6) 36 (Int32.ofNat k), x.2.2.1, x.2.2.2.1, x.2.2.2.2.1, x.2.2.2.2.2.1, x.2.2.2.2.2.2.1, x.2.2.2.2.2.2.2.1, x.2.2.2.2.2.2.2.2.1, x.2.2.2.2.2.2.2.2.2.1, x.2.2.2.2.2.2.2.2.2.2.1, x.2.2.2.2.2.2.2.2.2.2.2.1, x.2.2.2.2.2.2.2.2.2.2.2.2.1, x.2.2.2.2.2.2.2.2.2.2.2.2.2.1, x.2.2.2.2.2.2.2.2.2.2.2.2.2.2.1, x.2.2.2.2.2.2.2.2.2.2.2.2.2.2.2) : gX)) : gVal n0 f q m D B k 0 u x F := by
  refine ⟨_, hF, gUf_r, Or.inl ⟨_, hr, N, pos, gD_x G rfl rfl rfl rfl (fun i a b => ?_) rfl (fun i a b c => ?_) rfl rfl, by omega, ⟨⟨fun _ _ => rfl, fun i hi => ?_, rfl, rfl, rfl, rfl⟩, fun _ _ => ⟨rfl, rfl, rfl⟩, fun _ _ => rfl, fun _ _ => ⟨rfl, rfl, rfl⟩⟩, rfl, rfl, rfl, ⟨6, by omega, rfl, rfl, fun _ => ⟨k, hk, hkN, rfl⟩⟩⟩⟩
  · show gup (gup u.2.2.2.2.2.2.2.2.2.2.2.2.1 2 6) 3 (Int32.ofNat k) i = _
    rw [gup_ne b, gup_ne a]
  · show gup (gup (gup x.2.1 18 (Int32.ofNat D)) 35 6) 36 (Int32.ofNat k) i = _
    rw [gup_ne c, gup_ne b, gup_ne a]
  · show gup (gup (gup x.2.1 18 (Int32.ofNat D)) 35 6) 36 (Int32.ofNat k) i = _
    rw [gup_ne (by omega), gup_ne (by omega), gup_ne (by omega)]
theorem k_128 {W : gWr} {k : Nat} : ∀ y o z, cR_readObject_128 W (some 187) (Int32.ofNat k) (gH u y o z) = some (gH ((u.1, u.2.1, u.2.2.1, u.2.2.2.1, u.2.2.2.2.1, u.2.2.2.2.2.1, u.2.2.2.2.2.2.1, u.2.2.2.2.2.2.2.1, u.2.2.2.2.2.2.2.2.1, u.2.2.2.2.2.2.2.2.2.1, u.2.2.2.2.2.2.2.2.2.2.1, u.2.2.2.2.2.2.2.2.2.2.2.1, gup (gup u.2.2.2.2.2.2.2.2.2.2.2.2.1 2 6) 3 (Int32.ofNat k), u.2.2.2.2.2.2.2.2.2.2.2.2.2.1, u.2.2.2.2.2.2.2.2.2.2.2.2.2.2) : gU) y o z) := by
  intro y o z
  rw [cR_readObject_128, ho_187, Option.bind_some, k_settle, Option.bind_some]
theorem gO_ad {n s c : Nat} {q : gQ} {p : gP} {kd nm : Int32} (O : gO n s c q p) (hs : s = 1 ∨ s = 3) (c5 : c + 1 ≤ gcap s) (hv : gV n s kd nm) : gO n s (c + 1) (gq_add q c kd nm) (gp_add p c kd nm) := by
  have f6 : q.2.2.2.2.1 6 = 0 := by rcases O.d4 with h | h; exact h; omega
  refine ⟨by omega, O.es, O.et, rfl, c5, O.ed, Or.inl f6, fun _ => rfl, fun h => absurd f6 h, fun h => by omega, fun h => by omega, fun h => by omega, ?_, ?_, fun h => by omega, fun h => by omega, fun h => by omega, fun h => by omega, fun h => by omega⟩
  · intro h i hi
    exact ⟨gup_c hi (fun q => (O.vs h i q).1), gup_c hi (fun q => (O.vs h i q).2)⟩
  · intro h i hi
    show gV n s (gup q.2.2.1 c kd i) (gup q.2.2.2.1 c nm i)
    by_cases e : i = c
    · subst e; rw [gup_eq, gup_eq]; exact hv
    · rw [gup_ne e, gup_ne e]; exact O.vv h i (by omega)
end H
end
section
/-! read: lists -/
section H
variable {n0 f q m N pos : Nat} {u : gU} {x : gX} {W : gWr}
theorem k_setP {k i : Nat} {a b : Int32} (hk : k < 32) (hi : i < 8) (h5 : (u.1 k).2.2.2.2.1 5 = Int32.ofNat i) : ∀ y o z, cT_setPlace (some (3 + 5 * k)) (Int32.ofNat i) a b (gH u y o z) = some (gH ((gup u.1 k (gq_add (u.1 k) i a b), u.2.1, u.2.2.1, u.2.2.2.1, u.2.2.2.2.1, u.2.2.2.2.2.1, u.2.2.2.2.2.2.1, u.2.2.2.2.2.2.2.1, u.2.2.2.2.2.2.2.2.1, u.2.2.2.2.2.2.2.2.2.1, u.2.2.2.2.2.2.2.2.2.2.1, u.2.2.2.2.2.2.2.2.2.2.2.1, u.2.2.2.2.2.2.2.2.2.2.2.2.1, u.2.2.2.2.2.2.2.2.2.2.2.2.2.1, u.2.2.2.2.2.2.2.2.2.2.2.2.2.2) : gU) y o z) := by
  intro y o z
  rw [k_setPlace hk hi (by omega) h5, gpl_base (Nat.le_refl i), gpl_base (Nat.le_refl i), show max i (i + 1) = i + 1 by omega]
  rfl
theorem k_listD {g : Nat} {t : Option Nat} {d c i : Int32} (h : u.2.2.2.2.2.2.2.2.2.2.2.2.1 1 = 1) : ∀ y o z, cR_readList_12 W (g + 1) (some 187) (some 1) (some 163) t d c i (gH u y o z) = some (gH u y o z) := by
  intro y o z
  rw [cR_readList_12, hi_187_1, Option.bind_some, if_neg (show ¬ u.2.2.2.2.2.2.2.2.2.2.2.2.1 1 = 0 by rw [h]; exact i_10)]
  split <;> rfl
theorem r_listDl {D k i c : Nat} (P : gPi D k i c x) (hD : D < 14) (hk : k < 32) (hi : i < 8) (ht : (x.1 k).2.2.2.2.1 = Int32.ofNat 1) (hc : (x.1 k).2.2.2.2.2.1 = Int32.ofNat i) : ∀ y o z, mM_deliver (some 188) (gH y x o z) = some (gH y ((gup x.1 k (gp_add (x.1 k) i (x.2.1 35) (gcn (x.2.1 35) (x.2.1 36))), x.2.1, x.2.2.1, x.2.2.2.1, x.2.2.2.2.1, x.2.2.2.2.2.1, x.2.2.2.2.2.2.1, gup x.2.2.2.2.2.2.2.1 D (Int32.ofNat (i + 1)), x.2.2.2.2.2.2.2.2.1, x.2.2.2.2.2.2.2.2.2.1, x.2.2.2.2.2.2.2.2.2.2.1, x.2.2.2.2.2.2.2.2.2.2.2.1, x.2.2.2.2.2.2.2.2.2.2.2.2.1, x.2.2.2.2.2.2.2.2.2.2.2.2.2.1, x.2.2.2.2.2.2.2.2.2.2.2.2.2.2.1, x.2.2.2.2.2.2.2.2.2.2.2.2.2.2.2) : gX) o z) := by
  intro y o z
  rw [r_dl P hD hk ht]
  obtain ⟨p1, p2, p3, p4⟩ := P
  simp only [mM_deliver_28, hr_188_20, Option.bind_some, ha_202 hD, p3, hb_202 hD, n_succ, if_neg (show ¬ Int32.ofNat 1 = 0 by decide), if_pos (show Int32.ofNat 1 = 1 by decide), hr_188_3, ha_190 hk, hc, hi_188_35, hi_188_36, ho_188, n_8, r_setSlot hk hi, gup_eq, hb_190 hk, gup_gup]
  rfl
theorem r_listGo {D k i c : Nat} {t : Int32} {s : Nat → Int32} (P : gPi D k i c x) (hD : D < 14) (hk : k < 32) (hc8 : c ≤ 8) (hi : i < c) (ht : (x.1 k).2.2.2.2.1 = Int32.ofNat 1) (hc : (x.1 k).2.2.2.2.2.1 = Int32.ofNat i) (hu : ∀ y o z, mM_nextUpTo (some 188) 1 (gH y x o z) = some (t, gH y ((x.1, s, x.2.2.1, x.2.2.2.1, x.2.2.2.2.1, x.2.2.2.2.2.1, x.2.2.2.2.2.2.1, x.2.2.2.2.2.2.2.1, x.2.2.2.2.2.2.2.2.1, x.2.2.2.2.2.2.2.2.2.1, x.2.2.2.2.2.2.2.2.2.2.1, x.2.2.2.2.2.2.2.2.2.2.2.1, x.2.2.2.2.2.2.2.2.2.2.2.2.1, x.2.2.2.2.2.2.2.2.2.2.2.2.2.1, x.2.2.2.2.2.2.2.2.2.2.2.2.2.2.1, x.2.2.2.2.2.2.2.2.2.2.2.2.2.2.2) : gX) o z)) : (¬ t = 0 → ∀ y o z, mM_goesOn (some 188) (gH y x o z) = some (1, gH y ((x.1, s, x.2.2.1, x.2.2.2.1, x.2.2.2.2.1, x.2.2.2.2.2.1, x.2.2.2.2.2.2.1, x.2.2.2.2.2.2.2.1, x.2.2.2.2.2.2.2.2.1, x.2.2.2.2.2.2.2.2.2.1, x.2.2.2.2.2.2.2.2.2.2.1, x.2.2.2.2.2.2.2.2.2.2.2.1, x.2.2.2.2.2.2.2.2.2.2.2.2.1, x.2.2.2.2.2.2.2.2.2.2.2.2.2.1, x.2.2.2.2.2.2.2.2.2.2.2.2.2.2.1, x.2.2.2.2.2.2.2.2.2.2.2.2.2.2.2) : gX) o z)) ∧ (t = 0 → s 31 = 0 → ∀ y o z, mM_goesOn (some 188) (gH y x o z) = some (0, gH y ((x.1, s, x.2.2.1, x.2.2.2.1, x.2.2.2.2.1, x.2.2.2.2.2.1, x.2.2.2.2.2.2.1, gup x.2.2.2.2.2.2.2.1 D (Int32.ofNat (i + 1)), x.2.2.2.2.2.2.2.2.1, x.2.2.2.2.2.2.2.2.2.1, x.2.2.2.2.2.2.2.2.2.2.1, x.2.2.2.2.2.2.2.2.2.2.2.1, x.2.2.2.2.2.2.2.2.2.2.2.2.1, x.2.2.2.2.2.2.2.2.2.2.2.2.2.1, x.2.2.2.2.2.2.2.2.2.2.2.2.2.2.1, x.2.2.2.2.2.2.2.2.2.2.2.2.2.2.2) : gX) o z)) ∧ (t = 0 → s 31 = 1 → ∀ y o z, mM_goesOn (some 188) (gH y x o z) = some (0, gH y ((gup x.1 k (gp_add (x.1 k) i (-1) 0), s, x.2.2.1, x.2.2.2.1, x.2.2.2.2.1, x.2.2.2.2.2.1, x.2.2.2.2.2.2.1, gup x.2.2.2.2.2.2.2.1 D (Int32.ofNat (i + 1)), x.2.2.2.2.2.2.2.2.1, x.2.2.2.2.2.2.2.2.2.1, x.2.2.2.2.2.2.2.2.2.2.1, x.2.2.2.2.2.2.2.2.2.2.2.1, x.2.2.2.2.2.2.2.2.2.2.2.2.1, x.2.2.2.2.2.2.2.2.2.2.2.2.2.1, x.2.2.2.2.2.2.2.2.2.2.2.2.2.2.1, x.2.2.2.2.2.2.2.2.2.2.2.2.2.2.2) : gX) o z)) := by
  have i8 : i < 8 := by omega
  have ne : ¬ Int32.ofNat i = Int32.ofNat c := fun e => by have := (n_eq (by omega) (by omega)).mp e; omega
  have top : ∀ y o z, mM_goesOn (some 188) (gH y x o z) = if t = 0 then ((gv_gI (gH y ((x.1, s, x.2.2.1, x.2.2.2.1, x.2.2.2.2.1, x.2.2.2.2.2.1, x.2.2.2.2.2.2.1, x.2.2.2.2.2.2.2.1, x.2.2.2.2.2.2.2.2.1, x.2.2.2.2.2.2.2.2.2.1, x.2.2.2.2.2.2.2.2.2.2.1, x.2.2.2.2.2.2.2.2.2.2.2.1, x.2.2.2.2.2.2.2.2.2.2.2.2.1, x.2.2.2.2.2.2.2.2.2.2.2.2.2.1, x.2.2.2.2.2.2.2.2.2.2.2.2.2.2.1, x.2.2.2.2.2.2.2.2.2.2.2.2.2.2.2) : gX) o z) (some 188) 7 31).bind fun v37 => if v37 = 0 then mM_goesOn_179 (some 188) (Int32.ofNat D) (gH y ((x.1, s, x.2.2.1, x.2.2.2.1, x.2.2.2.2.1, x.2.2.2.2.2.1, x.2.2.2.2.2.2.1, x.2.2.2.2.2.2.2.1, x.2.2.2.2.2.2.2.2.1, x.2.2.2.2.2.2.2.2.2.1, x.2.2.2.2.2.2.2.2.2.2.1, x.2.2.2.2.2.2.2.2.2.2.2.1, x.2.2.2.2.2.2.2.2.2.2.2.2.1, x.2.2.2.2.2.2.2.2.2.2.2.2.2.1, x.2.2.2.2.2.2.2.2.2.2.2.2.2.2.1, x.2.2.2.2.2.2.2.2.2.2.2.2.2.2.2) : gX) o z) else (gv_gR (gH y ((x.1, s, x.2.2.1, x.2.2.2.1, x.2.2.2.2.1, x.2.2.2.2.2.1, x.2.2.2.2.2.2.1, x.2.2.2.2.2.2.2.1, x.2.2.2.2.2.2.2.2.1, x.2.2.2.2.2.2.2.2.2.1, x.2.2.2.2.2.2.2.2.2.2.1, x.2.2.2.2.2.2.2.2.2.2.2.1, x.2.2.2.2.2.2.2.2.2.2.2.2.1, x.2.2.2.2.2.2.2.2.2.2.2.2.2.1, x.2.2.2.2.2.2.2.2.2.2.2.2.2.2.1, x.2.2.2.2.2.2.2.2.2.2.2.2.2.2.2) : gX) o z) (some 188) 7 3).bind fun v39 => (gv_lI (gH y ((x.1, s, x.2.2.1, x.2.2.2.1, x.2.2.2.2.1, x.2.2.2.2.2.1, x.2.2.2.2.2.2.1, x.2.2.2.2.2.2.2.1, x.2.2.2.2.2.2.2.2.1, x.2.2.2.2.2.2.2.2.2.1, x.2.2.2.2.2.2.2.2.2.2.1, x.2.2.2.2.2.2.2.2.2.2.2.1, x.2.2.2.2.2.2.2.2.2.2.2.2.1, x.2.2.2.2.2.2.2.2.2.2.2.2.2.1, x.2.2.2.2.2.2.2.2.2.2.2.2.2.2.1, x.2.2.2.2.2.2.2.2.2.2.2.2.2.2.2) : gX) o z) v39 (Int32.ofNat k)).bind fun v40 => (gv_is (gH y ((x.1, s, x.2.2.1, x.2.2.2.1, x.2.2.2.2.1, x.2.2.2.2.2.1, x.2.2.2.2.2.2.1, x.2.2.2.2.2.2.2.1, x.2.2.2.2.2.2.2.2.1, x.2.2.2.2.2.2.2.2.2.1, x.2.2.2.2.2.2.2.2.2.2.1, x.2.2.2.2.2.2.2.2.2.2.2.1, x.2.2.2.2.2.2.2.2.2.2.2.2.1, x.2.2.2.2.2.2.2.2.2.2.2.2.2.1, x.2.2.2.2.2.2.2.2.2.2.2.2.2.2.1, x.2.2.2.2.2.2.2.2.2.2.2.2.2.2.2) : gX) o z) (some 188) 7).bind fun _ => (mM_setSlot (some 188) (((8 : Int32) * (Int32.ofNat k)) + v40) (-1 : Int32) (0 : Int32) (gH y ((x.1, s, x.2.2.1, x.2.2.2.1, x.2.2.2.2.1, x.2.2.2.2.2.1, x.2.2.2.2.2.2.1, x.2.2.2.2.2.2.2.1, x.2.2.2.2.2.2.2.2.1, x.2.2.2.2.2.2.2.2.2.1, x.2.2.2.2.2.2.2.2.2.2.1, x.2.2.2.2.2.2.2.2.2.2.2.1, x.2.2.2.2.2.2.2.2.2.2.2.2.1, x.2.2.2.2.2.2.2.2.2.2.2.2.2.1, x.2.2.2.2.2.2.2.2.2.2.2.2.2.2.1, x.2.2.2.2.2.2.2.2.2.2.2.2.2.2.2) : gX) o z)).bind fun h43 => (gv_gR h43 (some 188) 7 3).bind fun v44 => (gv_lI h43 v44 (Int32.ofNat k)).bind fun v45 => (gv_wI h43 v44 (Int32.ofNat k) (v45 + (1 : Int32))).bind fun h46 => mM_goesOn_179 (some 188) (Int32.ofNat D) h46) else some (1, gH y ((x.1, s, x.2.2.1, x.2.2.2.1, x.2.2.2.2.1, x.2.2.2.2.2.1, x.2.2.2.2.2.2.1, x.2.2.2.2.2.2.2.1, x.2.2.2.2.2.2.2.2.1, x.2.2.2.2.2.2.2.2.2.1, x.2.2.2.2.2.2.2.2.2.2.1, x.2.2.2.2.2.2.2.2.2.2.2.1, x.2.2.2.2.2.2.2.2.2.2.2.2.1, x.2.2.2.2.2.2.2.2.2.2.2.2.2.1, x.2.2.2.2.2.2.2.2.2.2.2.2.2.2.1, x.2.2.2.2.2.2.2.2.2.2.2.2.2.2.2) : gX) o z) := by
    intro y o z
    rw [r_go P hD hk ht]
    obtain ⟨p1, p2, p3, p4⟩ := P
    rw [mM_goesOn_28, if_neg (show ¬ Int32.ofNat 1 = 0 by decide), hr_188_20, Option.bind_some, ha_202 hD, Option.bind_some, hr_188_21, Option.bind_some, ha_203 hD, Option.bind_some, p3, p4, if_neg ne, if_pos (show Int32.ofNat 1 = 1 by decide), ho_188, Option.bind_some, hu, Option.bind_some]
  obtain ⟨p1, p2, p3, p4⟩ := P
  refine ⟨fun h y o z => ?_, fun h h0 y o z => ?_, fun h h0 y o z => ?_⟩
  · rw [top, if_neg h]
  · rw [top, if_pos h, hi_188_31, Option.bind_some, if_pos (show s 31 = 0 from h0)]
    simp only [mM_goesOn_179, hr_188_20, Option.bind_some, ha_202 hD, p3, hb_202 hD, n_succ]
  · rw [top, if_pos h, hi_188_31, Option.bind_some, if_neg (show ¬ s 31 = 0 by rw [h0]; exact i_10)]
    simp only [hr_188_3, Option.bind_some, ha_190 hk, hc, ho_188, n_8, r_setSlot hk i8, gup_eq, n_succ, hb_190 hk, gup_gup, mM_goesOn_179, hr_188_20, ha_202 hD, p3, hb_202 hD, gcn_m1]
    rfl
/-- one more place of the list -/
theorem gD_add {s k i : Nat} {kd nm w : Int32} {D : Nat} (G : gD n0 f q m N pos u x) (O : gO N s i (u.1 k) (x.1 k)) (hs : s = 1 ∨ s = 3) (c5 : i + 1 ≤ gcap s) (hv : gV N s kd nm) : gD n0 f q m N pos ((gup u.1 k (gq_add (u.1 k) i kd nm), u.2.1, u.2.2.1, u.2.2.2.1, u.2.2.2.2.1, u.2.2.2.2.2.1, u.2.2.2.2.2.2.1, u.2.2.2.2.2.2.2.1, u.2.2.2.2.2.2.2.2.1, u.2.2.2.2.2.2.2.2.2.1, u.2.2.2.2.2.2.2.2.2.2.1, u.2.2.2.2.2.2.2.2.2.2.2.1, u.2.2.2.2.2.2.2.2.2.2.2.2.1, u.2.2.2.2.2.2.2.2.2.2.2.2.2.1, u.2.2.2.2.2.2.2.2.2.2.2.2.2.2) : gU) ((gup x.1 k (gp_add (x.1 k) i kd nm), x.2.1, x.2.2.1, x.2.2.2.1, x.2.2.2.2.1, x.2.2.2.2.2.1, x.2.2.2.2.2.2.1, gup x.2.2.2.2.2.2.2.1 D w, x.2.2.2.2.2.2.2.2.1, x.2.2.2.2.2.2.2.2.2.1, x.2.2.2.2.2.2.2.2.2.2.1, x.2.2.2.2.2.2.2.2.2.2.2.1, x.2.2.2.2.2.2.2.2.2.2.2.2.1, x.2.2.2.2.2.2.2.2.2.2.2.2.2.1, x.2.2.2.2.2.2.2.2.2.2.2.2.2.2.1, x.2.2.2.2.2.2.2.2.2.2.2.2.2.2.2) : gX) ∧ gO N s (i + 1) (gup u.1 k (gq_add (u.1 k) i kd nm) k) (gup x.1 k (gp_add (x.1 k) i kd nm) k) := by
  have f6 : (u.1 k).2.2.2.2.1 6 = 0 := by rcases O.d4 with h | h; exact h; omega
  have O2 := gO_ad O hs c5 hv
  refine ⟨gD_x (gD_ob (k := k) G ⟨s, i + 1, O2⟩ f6) rfl rfl rfl rfl (fun _ _ _ => rfl) rfl (fun _ _ _ _ => rfl) rfl rfl, ?_⟩
  rw [gup_eq, gup_eq]
  exact O2
theorem rd_listL {D k c B : Nat} (hD : D + 1 ≤ 12) (hk0 : n0 ≤ k) (ih : gIR n0 f q m (D + 1) B W) (hc : c ≤ 8) : ∀ (r i g : Nat) (u : gU) (x : gX) (N pos : Nat), i + r = c → gD n0 f q m N pos u x → k < N → gO N 1 i (u.1 k) (x.1 k) → gPi D k i c x → gVal n0 f q m D (r * (B + 1) + 2) k 0 u x (fun h => (cR_readList_12 W (g + r + 1) (some 187) (some 1) (some 163) (some (3 + 5 * k)) (Int32.ofNat (D + 1)) (Int32.ofNat c) (Int32.ofNat i) h).bind fun h => cR_readObject_128 W (some 187) (Int32.ofNat k) h) := by
  have hD14 : D < 14 := by omega
  intro r
  induction r with
  | zero =>
    intro i g u x N pos e G hkN O P
    obtain rfl : i = c := by omega
    have hk : k < 32 := by have := G.hN; omega
    refine gVal_end G hk0 hkN (fun y o z => ?_) (gRT_mono (gRT_go2 G.gg (r_goEnd P hD14 hk O.et (by decide))) (by omega))
    simp only [cR_readList_12, if_neg (n_nltl (n := i) (m := i) (by omega) (by omega) (by omega)), Option.bind_some, k_128]
  | succ r IH =>
    intro i g u x N pos e G hkN O P
    have hk : k < 32 := by have := G.hN; omega
    have i8 : i < 8 := by omega
    have hic : i < c := by omega
    have ct : (x.1 k).2.2.2.2.2.1 = Int32.ofNat i := O.ep (by rcases O.d4 with h | h; exact h; omega)
    have wr0 : u.2.2.2.2.2.2.2.2.2.2.2.2.1 1 = 0 := G.wr
    have bd : 1 + B + (r * (B + 1) + 2) ≤ (r + 1) * (B + 1) + 2 := by rw [Nat.succ_mul]; omega
    have cl : ∀ y o z, cR_readList_12 W (g + (r + 1) + 1) (some 187) (some 1) (some 163) (some (3 + 5 * k)) (Int32.ofNat (D + 1)) (Int32.ofNat c) (Int32.ofNat i) (gH u y o z) = (cR_nextUpTo (some 187) (some 163) 1 (gH u y o z)).bind fun r7 => if r7.1 = (1 : Int32) then (gv_is r7.2 (some 187) 6).bind fun _ => (W (some 187) (some 1) (some 163) (Int32.ofNat (D + 1 + 1)) r7.2).bind fun h11 => (gv_gI h11 (some 187) 6 2).bind fun v12 => (gv_gI h11 (some 187) 6 3).bind fun v13 => (gv_is h11 (some (3 + 5 * k)) 2).bind fun _ => (cT_setPlace (some (3 + 5 * k)) (Int32.ofNat i) v12 v13 h11).bind fun h16 => cR_readList_12 W (g + r + 1) (some 187) (some 1) (some 163) (some (3 + 5 * k)) (Int32.ofNat (D + 1)) (Int32.ofNat c) (Int32.ofNat (i + 1)) h16 else (gv_is r7.2 (some (3 + 5 * k)) 2).bind fun _ => (cT_setPlace (some (3 + 5 * k)) (Int32.ofNat i) (-1 : Int32) (0 : Int32) r7.2).bind fun h19 => cR_readList_12 W (g + r + 1) (some 187) (some 1) (some 163) (some (3 + 5 * k)) (Int32.ofNat (D + 1)) (Int32.ofNat c) (Int32.ofNat (i + 1)) h19 := by
      intro y o z
      rw [show g + (r + 1) + 1 = (g + r + 1) + 1 by omega, cR_readList_12, if_pos (n_ltl (by omega) (by omega) hic), hi_187_1, Option.bind_some, if_pos wr0, ho_187, Option.bind_some]
      simp only [cR_readList_75, n_succ]
    by_cases c1 : pos < m ∧ ∃ j, j ≤ 1 ∧ u.2.2.2.2.1 pos = Int32.ofNat j
    · obtain ⟨p, t, ht, et⟩ := c1
      have D1 : gD n0 f q m N (pos + 1) (su u (pos + 1)) (sx x (pos + 1)) := gD_s G (by omega)
      have a1 := k_up (t := 1) G p ht (by omega) et
      have a2 := r_up (t := 1) G p ht (by omega) et
      obtain ⟨g1, g2, g3⟩ := r_listGo (t := Int32.ofNat t) (s := (sx x (pos + 1)).2.1) P hD14 hk hc hic O.et ct a2
      have ks : gKs x.2.1 (sx x (pos + 1)).2.1 := fun j hj => gup_ne (by omega)
      obtain rfl | rfl : t = 0 ∨ t = 1 := by omega
      · obtain ⟨D2, O2⟩ := gD_add (D := D) (w := Int32.ofNat (i + 1)) D1 O (Or.inl rfl) (show i + 1 ≤ 8 by omega) (kd := -1) (nm := 0) (Or.inl ⟨rfl, rfl, rfl⟩)
        have to := gTo_go0 G.gg (g3 rfl G.gg)
        have K := IH (i + 1) g _ _ N (pos + 1) (by omega) D2 hkN O2 ⟨P.1, P.2.1, gup_eq, P.2.2.2⟩
        refine gVal_mono (gVal_step to ?_ ?_ (fun y o z => ?_) K) (by omega)
        · exact ⟨fun j hj => gup_ne (by omega), rfl, rfl, rfl, rfl, rfl, rfl, rfl⟩
        · exact ⟨⟨fun j hj => gup_ne (by omega), fun j hj => ks j (by omega), rfl, rfl, rfl, rfl⟩, fun j hj => ⟨rfl, gup_ne (by omega), rfl⟩, fun _ _ => rfl, fun _ _ => ⟨rfl, rfl, rfl⟩⟩
        · show ((cR_readList_12 W (g + (r + 1) + 1) (some 187) (some 1) (some 163) (some (3 + 5 * k)) (Int32.ofNat (D + 1)) (Int32.ofNat c) (Int32.ofNat i) (gH u y o z)).bind _) = _
          rw [cl, show (1 : Int32) = Int32.ofNat 1 from rfl, a1, Option.bind_some, if_neg (show ¬ Int32.ofNat 0 = Int32.ofNat 1 by decide), ho_T hk, Option.bind_some, k_setP (u := su u (pos + 1)) hk i8 O.ec, Option.bind_some]
      · have to := gTo_go1 G.gg (g1 (by decide))
        obtain ⟨u', w1, w2, w3⟩ := ih (su u (pos + 1)) (sx x (pos + 1)) N (pos + 1) D1 P.1
        have uk : u'.1 k = u.1 k := w2.uC k hkN
        have h5 : (u'.1 k).2.2.2.2.1 5 = Int32.ofNat i := by rw [uk]; exact O.ec
        have cl2 : ∀ y o z, cR_readList_12 W (g + (r + 1) + 1) (some 187) (some 1) (some 163) (some (3 + 5 * k)) (Int32.ofNat (D + 1)) (Int32.ofNat c) (Int32.ofNat i) (gH u y o z) = cR_readList_12 W (g + r + 1) (some 187) (some 1) (some 163) (some (3 + 5 * k)) (Int32.ofNat (D + 1)) (Int32.ofNat c) (Int32.ofNat (i + 1)) (gH ((gup u'.1 k (gq_add (u'.1 k) i (u'.2.2.2.2.2.2.2.2.2.2.2.2.1 2) (u'.2.2.2.2.2.2.2.2.2.2.2.2.1 3)), u'.2.1, u'.2.2.1, u'.2.2.2.1, u'.2.2.2.2.1, u'.2.2.2.2.2.1, u'.2.2.2.2.2.2.1, u'.2.2.2.2.2.2.2.1, u'.2.2.2.2.2.2.2.2.1, u'.2.2.2.2.2.2.2.2.2.1, u'.2.2.2.2.2.2.2.2.2.2.1, u'.2.2.2.2.2.2.2.2.2.2.2.1, u'.2.2.2.2.2.2.2.2.2.2.2.2.1, u'.2.2.2.2.2.2.2.2.2.2.2.2.2.1, u'.2.2.2.2.2.2.2.2.2.2.2.2.2.2) : gU) y o z) := by
          intro y o z
          rw [cl, show (1 : Int32) = Int32.ofNat 1 from rfl, a1, Option.bind_some, if_pos rfl, ho_187, Option.bind_some, w1, Option.bind_some, hi_187_2, Option.bind_some, hi_187_3, Option.bind_some, ho_T hk, Option.bind_some, k_setP hk i8 h5, Option.bind_some]
        have fu : gUf k u ((gup u'.1 k (gq_add (u'.1 k) i (u'.2.2.2.2.2.2.2.2.2.2.2.2.1 2) (u'.2.2.2.2.2.2.2.2.2.2.2.2.1 3)), u'.2.1, u'.2.2.1, u'.2.2.2.1, u'.2.2.2.2.1, u'.2.2.2.2.2.1, u'.2.2.2.2.2.2.1, u'.2.2.2.2.2.2.2.1, u'.2.2.2.2.2.2.2.2.1, u'.2.2.2.2.2.2.2.2.2.1, u'.2.2.2.2.2.2.2.2.2.2.1, u'.2.2.2.2.2.2.2.2.2.2.2.1, u'.2.2.2.2.2.2.2.2.2.2.2.2.1, u'.2.2.2.2.2.2.2.2.2.2.2.2.2.1, u'.2.2.2.2.2.2.2.2.2.2.2.2.2.2) : gU) := ⟨fun j hj => (gup_ne (by omega)).trans (w2.uC j (by omega)), w2.u0, w2.u3, w2.u4, w2.u5, w2.u6, w2.u8, w2.uh⟩
        rcases w3 with ⟨x', l1, N', pos', l2, l3, l4, l5, l6, l7, l8⟩ | ⟨l0, x', l1, l2⟩
        · have xk : x'.1 k = x.1 k := l4.fd.dR k hkN
          have O' : gO N' 1 i (u'.1 k) (x'.1 k) := by rw [uk, xk]; exact gO_mono l3 O
          obtain ⟨q1, q2, q3⟩ := l4.f1 D (by omega)
          have P' : gPi D k i c x' := ⟨l5, q1.trans P.2.1, q2.trans P.2.2.1, q3.trans P.2.2.2⟩
          have e2 : gcn (x'.2.1 35) (x'.2.1 36) = u'.2.2.2.2.2.2.2.2.2.2.2.2.1 3 := by rw [l6, l7]; exact gV1_cn l8
          have dl : ∀ y o z, mM_deliver (some 188) (gH y x' o z) = some (gH y ((gup x'.1 k (gp_add (x'.1 k) i (u'.2.2.2.2.2.2.2.2.2.2.2.2.1 2) (u'.2.2.2.2.2.2.2.2.2.2.2.2.1 3)), x'.2.1, x'.2.2.1, x'.2.2.2.1, x'.2.2.2.2.1, x'.2.2.2.2.2.1, x'.2.2.2.2.2.2.1, gup x'.2.2.2.2.2.2.2.1 D (Int32.ofNat (i + 1)), x'.2.2.2.2.2.2.2.2.1, x'.2.2.2.2.2.2.2.2.2.1, x'.2.2.2.2.2.2.2.2.2.2.1, x'.2.2.2.2.2.2.2.2.2.2.2.1, x'.2.2.2.2.2.2.2.2.2.2.2.2.1, x'.2.2.2.2.2.2.2.2.2.2.2.2.2.1, x'.2.2.2.2.2.2.2.2.2.2.2.2.2.2.1, x'.2.2.2.2.2.2.2.2.2.2.2.2.2.2.2) : gX) o z) := by
            intro y o z
            rw [r_listDl P' hD14 hk i8 O'.et (by rw [xk]; exact ct), e2, l6]
          obtain ⟨D2, O2⟩ := gD_add (D := D) (w := Int32.ofNat (i + 1)) l2 O' (Or.inl rfl) (show i + 1 ≤ 8 by omega) (gV1_V l8)
          have to2 := gTo_trans to (gRT_dl l1 l2.gg l5 hD14 dl)
          have K := IH (i + 1) g ((gup u'.1 k (gq_add (u'.1 k) i (u'.2.2.2.2.2.2.2.2.2.2.2.2.1 2) (u'.2.2.2.2.2.2.2.2.2.2.2.2.1 3)), u'.2.1, u'.2.2.1, u'.2.2.2.1, u'.2.2.2.2.1, u'.2.2.2.2.2.1, u'.2.2.2.2.2.2.1, u'.2.2.2.2.2.2.2.1, u'.2.2.2.2.2.2.2.2.1, u'.2.2.2.2.2.2.2.2.2.1, u'.2.2.2.2.2.2.2.2.2.2.1, u'.2.2.2.2.2.2.2.2.2.2.2.1, u'.2.2.2.2.2.2.2.2.2.2.2.2.1, u'.2.2.2.2.2.2.2.2.2.2.2.2.2.1, u'.2.2.2.2.2.2.2.2.2.2.2.2.2.2) : gU) ((gup x'.1 k (gp_add (x'.1 k) i (u'.2.2.2.2.2.2.2.2.2.2.2.2.1 2) (u'.2.2.2.2.2.2.2.2.2.2.2.2.1 3)), x'.2.1, x'.2.2.1, x'.2.2.2.1, x'.2.2.2.2.1, x'.2.2.2.2.2.1, x'.2.2.2.2.2.2.1, gup x'.2.2.2.2.2.2.2.1 D (Int32.ofNat (i + 1)), x'.2.2.2.2.2.2.2.2.1, x'.2.2.2.2.2.2.2.2.2.1, x'.2.2.2.2.2.2.2.2.2.2.1, x'.2.2.2.2.2.2.2.2.2.2.2.1, x'.2.2.2.2.2.2.2.2.2.2.2.2.1, x'.2.2.2.2.2.2.2.2.2.2.2.2.2.1, x'.2.2.2.2.2.2.2.2.2.2.2.2.2.2.1, x'.2.2.2.2.2.2.2.2.2.2.2.2.2.2.2) : gX) N' pos' (by omega) D2 (by omega) O2 ⟨P'.1, P'.2.1, gup_eq, P'.2.2.2⟩
          refine gVal_mono (gVal_step to2 fu ?_ (fun y o z => ?_) K) (by omega)
          · have t1 : gXf k D x (sx x (pos + 1)) := gXf_s ks
            refine gXf_trans (gXf_trans t1 l4 (by omega) (by omega)) (D2 := D) (N2 := k) ?_ (Nat.le_refl _) (Nat.le_refl _)
            exact ⟨⟨fun j hj => gup_ne (by omega), fun _ _ => rfl, rfl, rfl, rfl, rfl⟩, fun j hj => ⟨rfl, gup_ne (by omega), rfl⟩, fun _ _ => rfl, fun _ _ => ⟨rfl, rfl, rfl⟩⟩
          · show ((cR_readList_12 W (g + (r + 1) + 1) (some 187) (some 1) (some 163) (some (3 + 5 * k)) (Int32.ofNat (D + 1)) (Int32.ofNat c) (Int32.ofNat i) (gH u y o z)).bind _) = _
            rw [cl2]
        · refine gVal_bad (u' := (((((gup u'.1 k (gq_add (u'.1 k) i (u'.2.2.2.2.2.2.2.2.2.2.2.2.1 2) (u'.2.2.2.2.2.2.2.2.2.2.2.2.1 3)), u'.2.1, u'.2.2.1, u'.2.2.2.1, u'.2.2.2.2.1, u'.2.2.2.2.2.1, u'.2.2.2.2.2.2.1, u'.2.2.2.2.2.2.2.1, u'.2.2.2.2.2.2.2.2.1, u'.2.2.2.2.2.2.2.2.2.1, u'.2.2.2.2.2.2.2.2.2.2.1, u'.2.2.2.2.2.2.2.2.2.2.2.1, u'.2.2.2.2.2.2.2.2.2.2.2.2.1, u'.2.2.2.2.2.2.2.2.2.2.2.2.2.1, u'.2.2.2.2.2.2.2.2.2.2.2.2.2.2) : gU)).1, (((gup u'.1 k (gq_add (u'.1 k) i (u'.2.2.2.2.2.2.2.2.2.2.2.2.1 2) (u'.2.2.2.2.2.2.2.2.2.2.2.2.1 3)), u'.2.1, u'.2.2.1, u'.2.2.2.1, u'.2.2.2.2.1, u'.2.2.2.2.2.1, u'.2.2.2.2.2.2.1, u'.2.2.2.2.2.2.2.1, u'.2.2.2.2.2.2.2.2.1, u'.2.2.2.2.2.2.2.2.2.1, u'.2.2.2.2.2.2.2.2.2.2.1, u'.2.2.2.2.2.2.2.2.2.2.2.1, u'.2.2.2.2.2.2.2.2.2.2.2.2.1, u'.2.2.2.2.2.2.2.2.2.2.2.2.2.1, u'.2.2.2.2.2.2.2.2.2.2.2.2.2.2) : gU)).2.1, (((gup u'.1 k (gq_add (u'.1 k) i (u'.2.2.2.2.2.2.2.2.2.2.2.2.1 2) (u'.2.2.2.2.2.2.2.2.2.2.2.2.1 3)), u'.2.1, u'.2.2.1, u'.2.2.2.1, u'.2.2.2.2.1, u'.2.2.2.2.2.1, u'.2.2.2.2.2.2.1, u'.2.2.2.2.2.2.2.1, u'.2.2.2.2.2.2.2.2.1, u'.2.2.2.2.2.2.2.2.2.1, u'.2.2.2.2.2.2.2.2.2.2.1, u'.2.2.2.2.2.2.2.2.2.2.2.1, u'.2.2.2.2.2.2.2.2.2.2.2.2.1, u'.2.2.2.2.2.2.2.2.2.2.2.2.2.1, u'.2.2.2.2.2.2.2.2.2.2.2.2.2.2) : gU)).2.2.1, (((gup u'.1 k (gq_add (u'.1 k) i (u'.2.2.2.2.2.2.2.2.2.2.2.2.1 2) (u'.2.2.2.2.2.2.2.2.2.2.2.2.1 3)), u'.2.1, u'.2.2.1, u'.2.2.2.1, u'.2.2.2.2.1, u'.2.2.2.2.2.1, u'.2.2.2.2.2.2.1, u'.2.2.2.2.2.2.2.1, u'.2.2.2.2.2.2.2.2.1, u'.2.2.2.2.2.2.2.2.2.1, u'.2.2.2.2.2.2.2.2.2.2.1, u'.2.2.2.2.2.2.2.2.2.2.2.1, u'.2.2.2.2.2.2.2.2.2.2.2.2.1, u'.2.2.2.2.2.2.2.2.2.2.2.2.2.1, u'.2.2.2.2.2.2.2.2.2.2.2.2.2.2) : gU)).2.2.2.1, (((gup u'.1 k (gq_add (u'.1 k) i (u'.2.2.2.2.2.2.2.2.2.2.2.2.1 2) (u'.2.2.2.2.2.2.2.2.2.2.2.2.1 3)), u'.2.1, u'.2.2.1, u'.2.2.2.1, u'.2.2.2.2.1, u'.2.2.2.2.2.1, u'.2.2.2.2.2.2.1, u'.2.2.2.2.2.2.2.1, u'.2.2.2.2.2.2.2.2.1, u'.2.2.2.2.2.2.2.2.2.1, u'.2.2.2.2.2.2.2.2.2.2.1, u'.2.2.2.2.2.2.2.2.2.2.2.1, u'.2.2.2.2.2.2.2.2.2.2.2.2.1, u'.2.2.2.2.2.2.2.2.2.2.2.2.2.1, u'.2.2.2.2.2.2.2.2.2.2.2.2.2.2) : gU)).2.2.2.2.1, (((gup u'.1 k (gq_add (u'.1 k) i (u'.2.2.2.2.2.2.2.2.2.2.2.2.1 2) (u'.2.2.2.2.2.2.2.2.2.2.2.2.1 3)), u'.2.1, u'.2.2.1, u'.2.2.2.1, u'.2.2.2.2.1, u'.2.2.2.2.2.1, u'.2.2.2.2.2.2.1, u'.2.2.2.2.2.2.2.1, u'.2.2.2.2.2.2.2.2.1, u'.2.2.2.2.2.2.2.2.2.1, u'.2.2.2.2.2.2.2.2.2.2.1, u'.2.2.2.2.2.2.2.2.2.2.2.1, u'.2.2.2.2.2.2.2.2.2.2.2.2.1, u'.2.2.2.2.2.2.2.2.2.2.2.2.2.1, u'.2.2.2.2.2.2.2.2.2.2.2.2.2.2) : gU)).2.2.2.2.2.1, (((gup u'.1 k (gq_add (u'.1 k) i (u'.2.2.2.2.2.2.2.2.2.2.2.2.1 2) (u'.2.2.2.2.2.2.2.2.2.2.2.2.1 3)), u'.2.1, u'.2.2.1, u'.2.2.2.1, u'.2.2.2.2.1, u'.2.2.2.2.2.1, u'.2.2.2.2.2.2.1, u'.2.2.2.2.2.2.2.1, u'.2.2.2.2.2.2.2.2.1, u'.2.2.2.2.2.2.2.2.2.1, u'.2.2.2.2.2.2.2.2.2.2.1, u'.2.2.2.2.2.2.2.2.2.2.2.1, u'.2.2.2.2.2.2.2.2.2.2.2.2.1, u'.2.2.2.2.2.2.2.2.2.2.2.2.2.1, u'.2.2.2.2.2.2.2.2.2.2.2.2.2.2) : gU)).2.2.2.2.2.2.1, (((gup u'.1 k (gq_add (u'.1 k) i (u'.2.2.2.2.2.2.2.2.2.2.2.2.1 2) (u'.2.2.2.2.2.2.2.2.2.2.2.2.1 3)), u'.2.1, u'.2.2.1, u'.2.2.2.1, u'.2.2.2.2.1, u'.2.2.2.2.2.1, u'.2.2.2.2.2.2.1, u'.2.2.2.2.2.2.2.1, u'.2.2.2.2.2.2.2.2.1, u'.2.2.2.2.2.2.2.2.2.1, u'.2.2.2.2.2.2.2.2.2.2.1, u'.2.2.2.2.2.2.2.2.2.2.2.1, u'.2.2.2.2.2.2.2.2.2.2.2.2.1, u'.2.2.2.2.2.2.2.2.2.2.2.2.2.1, u'.2.2.2.2.2.2.2.2.2.2.2.2.2.2) : gU)).2.2.2.2.2.2.2.1, (((gup u'.1 k (gq_add (u'.1 k) i (u'.2.2.2.2.2.2.2.2.2.2.2.2.1 2) (u'.2.2.2.2.2.2.2.2.2.2.2.2.1 3)), u'.2.1, u'.2.2.1, u'.2.2.2.1, u'.2.2.2.2.1, u'.2.2.2.2.2.1, u'.2.2.2.2.2.2.1, u'.2.2.2.2.2.2.2.1, u'.2.2.2.2.2.2.2.2.1, u'.2.2.2.2.2.2.2.2.2.1, u'.2.2.2.2.2.2.2.2.2.2.1, u'.2.2.2.2.2.2.2.2.2.2.2.1, u'.2.2.2.2.2.2.2.2.2.2.2.2.1, u'.2.2.2.2.2.2.2.2.2.2.2.2.2.1, u'.2.2.2.2.2.2.2.2.2.2.2.2.2.2) : gU)).2.2.2.2.2.2.2.2.1, (((gup u'.1 k (gq_add (u'.1 k) i (u'.2.2.2.2.2.2.2.2.2.2.2.2.1 2) (u'.2.2.2.2.2.2.2.2.2.2.2.2.1 3)), u'.2.1, u'.2.2.1, u'.2.2.2.1, u'.2.2.2.2.1, u'.2.2.2.2.2.1, u'.2.2.2.2.2.2.1, u'.2.2.2.2.2.2.2.1, u'.2.2.2.2.2.2.2.2.1, u'.2.2.2.2.2.2.2.2.2.1, u'.2.2.2.2.2.2.2.2.2.2.1, u'.2.2.2.2.2.2.2.2.2.2.2.1, u'.2.2.2.2.2.2.2.2.2.2.2.2.1, u'.2.2.2.2.2.2.2.2.2.2.2.2.2.1, u'.2.2.2.2.2.2.2.2.2.2.2.2.2.2) : gU)).2.2.2.2.2.2.2.2.2.1, (((gup u'.1 k (gq_add (u'.1 k) i (u'.2.2.2.2.2.2.2.2.2.2.2.2.1 2) (u'.2.2.2.2.2.2.2.2.2.2.2.2.1 3)), u'.2.1, u'.2.2.1, u'.2.2.2.1, u'.2.2.2.2.1, u'.2.2.2.2.2.1, u'.2.2.2.2.2.2.1, u'.2.2.2.2.2.2.2.1, u'.2.2.2.2.2.2.2.2.1, u'.2.2.2.2.2.2.2.2.2.1, u'.2.2.2.2.2.2.2.2.2.2.1, u'.2.2.2.2.2.2.2.2.2.2.2.1, u'.2.2.2.2.2.2.2.2.2.2.2.2.1, u'.2.2.2.2.2.2.2.2.2.2.2.2.2.1, u'.2.2.2.2.2.2.2.2.2.2.2.2.2.2) : gU)).2.2.2.2.2.2.2.2.2.2.1, (((gup u'.1 k (gq_add (u'.1 k) i (u'.2.2.2.2.2.2.2.2.2.2.2.2.1 2) (u'.2.2.2.2.2.2.2.2.2.2.2.2.1 3)), u'.2.1, u'.2.2.1, u'.2.2.2.1, u'.2.2.2.2.1, u'.2.2.2.2.2.1, u'.2.2.2.2.2.2.1, u'.2.2.2.2.2.2.2.1, u'.2.2.2.2.2.2.2.2.1, u'.2.2.2.2.2.2.2.2.2.1, u'.2.2.2.2.2.2.2.2.2.2.1, u'.2.2.2.2.2.2.2.2.2.2.2.1, u'.2.2.2.2.2.2.2.2.2.2.2.2.1, u'.2.2.2.2.2.2.2.2.2.2.2.2.2.1, u'.2.2.2.2.2.2.2.2.2.2.2.2.2.2) : gU)).2.2.2.2.2.2.2.2.2.2.2.1, gup (gup u'.2.2.2.2.2.2.2.2.2.2.2.2.1 2 6) 3 (Int32.ofNat k), (((gup u'.1 k (gq_add (u'.1 k) i (u'.2.2.2.2.2.2.2.2.2.2.2.2.1 2) (u'.2.2.2.2.2.2.2.2.2.2.2.2.1 3)), u'.2.1, u'.2.2.1, u'.2.2.2.1, u'.2.2.2.2.1, u'.2.2.2.2.2.1, u'.2.2.2.2.2.2.1, u'.2.2.2.2.2.2.2.1, u'.2.2.2.2.2.2.2.2.1, u'.2.2.2.2.2.2.2.2.2.1, u'.2.2.2.2.2.2.2.2.2.2.1, u'.2.2.2.2.2.2.2.2.2.2.2.1, u'.2.2.2.2.2.2.2.2.2.2.2.2.1, u'.2.2.2.2.2.2.2.2.2.2.2.2.2.1, u'.2.2.2.2.2.2.2.2.2.2.2.2.2.2) : gU)).2.2.2.2.2.2.2.2.2.2.2.2.2.1, (((gup u'.1 k (gq_add (u'.1 k) i (u'.2.2.2.2.2.2.2.2.2.2.2.2.1 2) (u'.2.2.2.2.2.2.2.2.2.2.2.2.1 3)), u'.2.1, u'.2.2.1, u'.2.2.2.1, u'.2.2.2.2.1, u'.2.2.2.2.2.1, u'.2.2.2.2.2.2.1, u'.2.2.2.2.2.2.2.1, u'.2.2.2.2.2.2.2.2.1, u'.2.2.2.2.2.2.2.2.2.1, u'.2.2.2.2.2.2.2.2.2.2.1, u'.2.2.2.2.2.2.2.2.2.2.2.1, u'.2.2.2.2.2.2.2.2.2.2.2.2.1, u'.2.2.2.2.2.2.2.2.2.2.2.2.2.1, u'.2.2.2.2.2.2.2.2.2.2.2.2.2.2) : gU)).2.2.2.2.2.2.2.2.2.2.2.2.2.2) : gU)) (fun y o z => ?_) (gUf_trans fu gUf_r (Nat.le_refl _)) l0 (gRF_mono (gTo_F to l1) (by omega)) (gXd_trans (gXd_s ks) l2 (by omega))
          show ((cR_readList_12 W (g + (r + 1) + 1) (some 187) (some 1) (some 163) (some (3 + 5 * k)) (Int32.ofNat (D + 1)) (Int32.ofNat c) (Int32.ofNat i) (gH u y o z)).bind _) = _
          rw [cl2, k_listD (u := ((gup u'.1 k (gq_add (u'.1 k) i (u'.2.2.2.2.2.2.2.2.2.2.2.2.1 2) (u'.2.2.2.2.2.2.2.2.2.2.2.2.1 3)), u'.2.1, u'.2.2.1, u'.2.2.2.1, u'.2.2.2.2.1, u'.2.2.2.2.2.1, u'.2.2.2.2.2.2.1, u'.2.2.2.2.2.2.2.1, u'.2.2.2.2.2.2.2.2.1, u'.2.2.2.2.2.2.2.2.2.1, u'.2.2.2.2.2.2.2.2.2.2.1, u'.2.2.2.2.2.2.2.2.2.2.2.1, u'.2.2.2.2.2.2.2.2.2.2.2.2.1, u'.2.2.2.2.2.2.2.2.2.2.2.2.2.1, u'.2.2.2.2.2.2.2.2.2.2.2.2.2.2) : gU)) l0, Option.bind_some, k_128]
    · obtain ⟨r1, r2, a1⟩ := k_up0 (t := 1) G (by omega) c1
      obtain ⟨s1, s2, s3, a2⟩ := r_up0 (t := 1) G (by omega) c1
      obtain ⟨g1, g2, g3⟩ := r_listGo (t := 0) (s := s1) P hD14 hk hc hic O.et ct a2
      refine gVal_bad (u' := ((gup u.1 k (gq_add (u.1 k) i (-1) 0), u.2.1, u.2.2.1, u.2.2.2.1, u.2.2.2.2.1, u.2.2.2.2.2.1, u.2.2.2.2.2.2.1, u.2.2.2.2.2.2.2.1, u.2.2.2.2.2.2.2.2.1, u.2.2.2.2.2.2.2.2.2.1, u.2.2.2.2.2.2.2.2.2.2.1, u.2.2.2.2.2.2.2.2.2.2.2.1, gup (gup r1 2 6) 3 (Int32.ofNat k), u.2.2.2.2.2.2.2.2.2.2.2.2.2.1, u.2.2.2.2.2.2.2.2.2.2.2.2.2.2) : gU)) (fun y o z => ?_) ⟨fun j hj => gup_ne (by omega), rfl, rfl, rfl, rfl, rfl, rfl, rfl⟩ r2 (gRF_mono (gRF_go G.gg (g2 rfl s2) s2) (by omega)) ⟨fun _ _ => rfl, fun j hj => s3 j (by omega), rfl, rfl, rfl, rfl⟩
      show ((cR_readList_12 W (g + (r + 1) + 1) (some 187) (some 1) (some 163) (some (3 + 5 * k)) (Int32.ofNat (D + 1)) (Int32.ofNat c) (Int32.ofNat i) (gH u y o z)).bind _) = _
      rw [cl, show (1 : Int32) = Int32.ofNat 1 from rfl, a1, Option.bind_some, if_neg (show ¬ (0 : Int32) = Int32.ofNat 1 by decide), ho_T hk, Option.bind_some, k_setP (u := ((u.1, u.2.1, u.2.2.1, u.2.2.2.1, u.2.2.2.2.1, u.2.2.2.2.2.1, u.2.2.2.2.2.2.1, u.2.2.2.2.2.2.2.1, u.2.2.2.2.2.2.2.2.1, u.2.2.2.2.2.2.2.2.2.1, u.2.2.2.2.2.2.2.2.2.2.1, u.2.2.2.2.2.2.2.2.2.2.2.1, r1, u.2.2.2.2.2.2.2.2.2.2.2.2.2.1, u.2.2.2.2.2.2.2.2.2.2.2.2.2.2) : gU)) hk i8 O.ec, Option.bind_some]
      show ((cR_readList_12 W (g + r + 1) _ _ _ _ _ _ _ (gH ((gup u.1 k (gq_add (u.1 k) i (-1) 0), u.2.1, u.2.2.1, u.2.2.2.1, u.2.2.2.2.1, u.2.2.2.2.2.1, u.2.2.2.2.2.2.1, u.2.2.2.2.2.2.2.1, u.2.2.2.2.2.2.2.2.1, u.2.2.2.2.2.2.2.2.2.1, u.2.2.2.2.2.2.2.2.2.2.1, u.2.2.2.2.2.2.2.2.2.2.2.1, r1, u.2.2.2.2.2.2.2.2.2.2.2.2.2.1, u.2.2.2.2.2.2.2.2.2.2.2.2.2.2) : gU) y o z)).bind _) = _
      rw [k_listD (u := ((gup u.1 k (gq_add (u.1 k) i (-1) 0), u.2.1, u.2.2.1, u.2.2.2.1, u.2.2.2.2.1, u.2.2.2.2.2.1, u.2.2.2.2.2.2.1, u.2.2.2.2.2.2.2.1, u.2.2.2.2.2.2.2.2.1, u.2.2.2.2.2.2.2.2.2.1, u.2.2.2.2.2.2.2.2.2.2.1, u.2.2.2.2.2.2.2.2.2.2.2.1, r1, u.2.2.2.2.2.2.2.2.2.2.2.2.2.1, u.2.2.2.2.2.2.2.2.2.2.2.2.2.2) : gU)) r2, Option.bind_some, k_128]
      rfl
end H
end
section
/-! read: sets -/
section H
variable {n0 f q m N pos : Nat} {u : gU} {x : gX} {W : gWr}
theorem k_setD {g : Nat} {t : Option Nat} {d c i : Int32} (h : u.2.2.2.2.2.2.2.2.2.2.2.2.1 1 = 1) : ∀ y o z, cR_readSet_11 W (g + 1) (some 187) (some 1) (some 163) t d c i (gH u y o z) = some (gH u y o z) := by
  intro y o z
  rw [cR_readSet_11, hi_187_1, Option.bind_some, if_neg (show ¬ u.2.2.2.2.2.2.2.2.2.2.2.2.1 1 = 0 by rw [h]; exact i_10)]
  split <;> rfl
theorem r_goVal {D k i c s : Nat} (P : gPi D k i c x) (hD : D < 14) (hk : k < 32) (hc8 : c ≤ 8) (hi : i < c) (ht : (x.1 k).2.2.2.2.1 = Int32.ofNat s) (hs : s = 2 ∨ s = 3) : ∀ y o z, mM_goesOn (some 188) (gH y x o z) = some (1, gH y x o z) := by
  intro y o z
  have ne : ¬ Int32.ofNat i = Int32.ofNat c := fun e => by have := (n_eq (by omega) (by omega)).mp e; omega
  rw [r_go P hD hk ht]
  obtain ⟨p1, p2, p3, p4⟩ := P
  have s0 : ¬ Int32.ofNat s = 0 := by rcases hs with rfl | rfl <;> decide
  have s1 : ¬ Int32.ofNat s = 1 := by rcases hs with rfl | rfl <;> decide
  rw [mM_goesOn_28, if_neg s0, hr_188_20, Option.bind_some, ha_202 hD, Option.bind_some, hr_188_21, Option.bind_some, ha_203 hD, Option.bind_some, p3, p4, if_neg ne, if_neg s1]
theorem r_151 {k i : Nat} {v : Int32} {b : Nat → Int32} (hk : k < 32) (hi : i < 8) (hv : v = 0 ∨ v = 1) (hc : (x.1 k).2.2.2.2.2.1 = Int32.ofNat i) : ∀ y o z, mM_deliver_151 (some 188) (Int32.ofNat k) (some 188) v (gH y ((x.1, x.2.1, x.2.2.1, x.2.2.2.1, x.2.2.2.2.1, x.2.2.2.2.2.1, x.2.2.2.2.2.2.1, b, x.2.2.2.2.2.2.2.2.1, x.2.2.2.2.2.2.2.2.2.1, x.2.2.2.2.2.2.2.2.2.2.1, x.2.2.2.2.2.2.2.2.2.2.2.1, x.2.2.2.2.2.2.2.2.2.2.2.2.1, x.2.2.2.2.2.2.2.2.2.2.2.2.2.1, x.2.2.2.2.2.2.2.2.2.2.2.2.2.2.1, x.2.2.2.2.2.2.2.2.2.2.2.2.2.2.2) : gX) o z) = some (gH y ((gup x.1 k (gp_add (x.1 k) i (x.2.1 35) (gcn (x.2.1 35) (x.2.1 36))), gup x.2.1 31 v, x.2.2.1, x.2.2.2.1, x.2.2.2.2.1, x.2.2.2.2.2.1, x.2.2.2.2.2.2.1, b, x.2.2.2.2.2.2.2.2.1, x.2.2.2.2.2.2.2.2.2.1, x.2.2.2.2.2.2.2.2.2.2.1, x.2.2.2.2.2.2.2.2.2.2.2.1, x.2.2.2.2.2.2.2.2.2.2.2.2.1, x.2.2.2.2.2.2.2.2.2.2.2.2.2.1, x.2.2.2.2.2.2.2.2.2.2.2.2.2.2.1, x.2.2.2.2.2.2.2.2.2.2.2.2.2.2.2) : gX) o z) := by
  intro y o z
  have e35 : gup x.2.1 31 v 35 = x.2.1 35 := rfl
  have e36 : gup x.2.1 31 v 36 = x.2.1 36 := rfl
  simp only [mM_deliver_151, not_or, if_neg (show ¬ (¬ v = 0 ∧ ¬ v = 1) from fun h => by rcases hv with e | e; exact h.1 e; exact h.2 e), hp_188_31, Option.bind_some, hr_188_3, ha_190 hk, hc, hi_188_35, hi_188_36, e35, e36, ho_188, n_8, r_setSlot hk hi, gup_eq, n_succ, hb_190 hk, gup_gup]
  rfl
theorem r_setDl {D k i c : Nat} (P : gPi D k i c x) (hD : D < 14) (hk : k < 32) (hi : i < 8) (hg : x.2.1 31 = 1) (ht : (x.1 k).2.2.2.2.1 = Int32.ofNat 3) (hc : (x.1 k).2.2.2.2.2.1 = Int32.ofNat i) : ∀ y o z, mM_deliver (some 188) (gH y x o z) = mM_deliver_151 (some 188) (Int32.ofNat k) (some 188) (if (gfi (fun j => decide ((x.1 k).2.2.1 j = x.2.1 35 ∧ (x.1 k).2.2.2.1 j = gcn (x.2.1 35) (x.2.1 36))) i 0).isSome then 0 else 1) (gH y ((x.1, x.2.1, x.2.2.1, x.2.2.2.1, x.2.2.2.2.1, x.2.2.2.2.2.1, x.2.2.2.2.2.2.1, gup x.2.2.2.2.2.2.2.1 D (Int32.ofNat (i + 1)), x.2.2.2.2.2.2.2.2.1, x.2.2.2.2.2.2.2.2.2.1, x.2.2.2.2.2.2.2.2.2.2.1, x.2.2.2.2.2.2.2.2.2.2.2.1, x.2.2.2.2.2.2.2.2.2.2.2.2.1, x.2.2.2.2.2.2.2.2.2.2.2.2.2.1, x.2.2.2.2.2.2.2.2.2.2.2.2.2.2.1, x.2.2.2.2.2.2.2.2.2.2.2.2.2.2.2) : gX) o z) := by
  intro y o z
  rw [r_dl P hD hk ht]
  obtain ⟨p1, p2, p3, p4⟩ := P
  have hm := fun a b => r_has (u := y) (x := ((x.1, x.2.1, x.2.2.1, x.2.2.2.1, x.2.2.2.2.1, x.2.2.2.2.2.1, x.2.2.2.2.2.2.1, gup x.2.2.2.2.2.2.2.1 D (Int32.ofNat (i + 1)), x.2.2.2.2.2.2.2.2.1, x.2.2.2.2.2.2.2.2.2.1, x.2.2.2.2.2.2.2.2.2.2.1, x.2.2.2.2.2.2.2.2.2.2.2.1, x.2.2.2.2.2.2.2.2.2.2.2.2.1, x.2.2.2.2.2.2.2.2.2.2.2.2.2.1, x.2.2.2.2.2.2.2.2.2.2.2.2.2.2.1, x.2.2.2.2.2.2.2.2.2.2.2.2.2.2.2) : gX)) (o := o) (z := z) (a := a) (b := b) hk hc (show i ≤ 8 by omega)
  simp only [mM_deliver_28, hr_188_20, Option.bind_some, ha_202 hD, p3, hb_202 hD, n_succ, if_neg (show ¬ Int32.ofNat 3 = 0 by decide), if_neg (show ¬ Int32.ofNat 3 = 1 by decide), if_pos (show Int32.ofNat 3 = 3 by decide), hi_188_31, if_neg (show ¬ x.2.1 31 = 0 by rw [hg]; exact i_10), hi_188_35, hi_188_36, ho_188, hm]
  cases gfi (fun j => decide ((x.1 k).2.2.1 j = x.2.1 35 ∧ (x.1 k).2.2.2.1 j = gcn (x.2.1 35) (x.2.1 36))) i 0 with
  | none => rfl
  | some j => rfl
theorem rd_setL {D k c B : Nat} (hD : D + 1 ≤ 12) (hk0 : n0 ≤ k) (ih : gIR n0 f q m (D + 1) B W) (hc : c ≤ 5) : ∀ (r i g : Nat) (u : gU) (x : gX) (N pos : Nat), i + r = c → gD n0 f q m N pos u x → k < N → gO N 3 i (u.1 k) (x.1 k) → gPi D k i c x → gVal n0 f q m D (r * (B + 1) + 2) k 0 u x (fun h => (cR_readSet_11 W (g + r + 1) (some 187) (some 1) (some 163) (some (3 + 5 * k)) (Int32.ofNat (D + 1)) (Int32.ofNat c) (Int32.ofNat i) h).bind fun h => cR_readObject_128 W (some 187) (Int32.ofNat k) h) := by
  have hD14 : D < 14 := by omega
  intro r
  induction r with
  | zero =>
    intro i g u x N pos e G hkN O P
    obtain rfl : i = c := by omega
    have hk : k < 32 := by have := G.hN; omega
    refine gVal_end G hk0 hkN (fun y o z => ?_) (gRT_mono (gRT_go2 G.gg (r_goEnd P hD14 hk O.et (by decide))) (by omega))
    simp only [cR_readSet_11, if_neg (n_nltl (n := i) (m := i) (by omega) (by omega) (by omega)), Option.bind_some, k_128]
  | succ r IH =>
    intro i g u x N pos e G hkN O P
    have hk : k < 32 := by have := G.hN; omega
    have i8 : i < 8 := by omega
    have hic : i < c := by omega
    have ct : (x.1 k).2.2.2.2.2.1 = Int32.ofNat i := O.ep (by rcases O.d4 with h | h; exact h; omega)
    have wr0 : u.2.2.2.2.2.2.2.2.2.2.2.2.1 1 = 0 := G.wr
    have bd : 1 + B + (r * (B + 1) + 2) ≤ (r + 1) * (B + 1) + 2 := by rw [Nat.succ_mul]; omega
    have to := gTo_go1 G.gg (r_goVal P hD14 hk (by omega) hic O.et (Or.inr rfl))
    obtain ⟨u', w1, w2, w3⟩ := ih u x N pos G P.1
    have uk : u'.1 k = u.1 k := w2.uC k hkN
    have h5 : (u'.1 k).2.2.2.2.1 5 = Int32.ofNat i := by rw [uk]; exact O.ec
    have cl : ∀ y o z, cR_readSet_11 W (g + (r + 1) + 1) (some 187) (some 1) (some 163) (some (3 + 5 * k)) (Int32.ofNat (D + 1)) (Int32.ofNat c) (Int32.ofNat i) (gH u y o z) = if u'.2.2.2.2.2.2.2.2.2.2.2.2.1 1 = 0 ∧ gfi (fun j => decide ((u'.1 k).2.2.1 j = u'.2.2.2.2.2.2.2.2.2.2.2.2.1 2 ∧ (u'.1 k).2.2.2.1 j = u'.2.2.2.2.2.2.2.2.2.2.2.2.1 3)) i 0 = none then cR_readSet_11 W (g + r + 1) (some 187) (some 1) (some 163) (some (3 + 5 * k)) (Int32.ofNat (D + 1)) (Int32.ofNat c) (Int32.ofNat (i + 1)) (gH ((gup u'.1 k (gq_add (u'.1 k) i (u'.2.2.2.2.2.2.2.2.2.2.2.2.1 2) (u'.2.2.2.2.2.2.2.2.2.2.2.2.1 3)), u'.2.1, u'.2.2.1, u'.2.2.2.1, u'.2.2.2.2.1, u'.2.2.2.2.2.1, u'.2.2.2.2.2.2.1, u'.2.2.2.2.2.2.2.1, u'.2.2.2.2.2.2.2.2.1, u'.2.2.2.2.2.2.2.2.2.1, u'.2.2.2.2.2.2.2.2.2.2.1, u'.2.2.2.2.2.2.2.2.2.2.2.1, u'.2.2.2.2.2.2.2.2.2.2.2.2.1, u'.2.2.2.2.2.2.2.2.2.2.2.2.2.1, u'.2.2.2.2.2.2.2.2.2.2.2.2.2.2) : gU) y o z) else some (gH ((u'.1, u'.2.1, u'.2.2.1, u'.2.2.2.1, u'.2.2.2.2.1, u'.2.2.2.2.2.1, u'.2.2.2.2.2.2.1, u'.2.2.2.2.2.2.2.1, u'.2.2.2.2.2.2.2.2.1, u'.2.2.2.2.2.2.2.2.2.1, u'.2.2.2.2.2.2.2.2.2.2.1, u'.2.2.2.2.2.2.2.2.2.2.2.1, gup u'.2.2.2.2.2.2.2.2.2.2.2.2.1 1 1, u'.2.2.2.2.2.2.2.2.2.2.2.2.2.1, u'.2.2.2.2.2.2.2.2.2.2.2.2.2.2) : gU) y o z) := by
      intro y o z
      have dd := fun d => k_setD (W := W) (g := g + r) (t := some (3 + 5 * k)) (d := Int32.ofNat (D + 1)) (c := Int32.ofNat c) (i := d) (u := ((u'.1, u'.2.1, u'.2.2.1, u'.2.2.2.1, u'.2.2.2.2.1, u'.2.2.2.2.2.1, u'.2.2.2.2.2.2.1, u'.2.2.2.2.2.2.2.1, u'.2.2.2.2.2.2.2.2.1, u'.2.2.2.2.2.2.2.2.2.1, u'.2.2.2.2.2.2.2.2.2.2.1, u'.2.2.2.2.2.2.2.2.2.2.2.1, gup u'.2.2.2.2.2.2.2.2.2.2.2.2.1 1 1, u'.2.2.2.2.2.2.2.2.2.2.2.2.2.1, u'.2.2.2.2.2.2.2.2.2.2.2.2.2.2) : gU)) rfl y o z
      rw [show g + (r + 1) + 1 = (g + r + 1) + 1 by omega, cR_readSet_11, if_pos (n_ltl (by omega) (by omega) hic), hi_187_1, Option.bind_some, if_pos wr0, ho_187, Option.bind_some, n_succ, w1, Option.bind_some, hi_187_1, Option.bind_some]
      by_cases c0 : u'.2.2.2.2.2.2.2.2.2.2.2.2.1 1 = 0
      · rw [if_pos c0, hi_187_2, Option.bind_some, hi_187_3, Option.bind_some, ho_T hk, Option.bind_some, k_has hk h5 (by omega), Option.bind_some]
        cases hf : gfi (fun j => decide ((u'.1 k).2.2.1 j = u'.2.2.2.2.2.2.2.2.2.2.2.2.1 2 ∧ (u'.1 k).2.2.2.1 j = u'.2.2.2.2.2.2.2.2.2.2.2.2.1 3)) i 0 with
        | none =>
          rw [if_pos (show u'.2.2.2.2.2.2.2.2.2.2.2.2.1 1 = 0 ∧ (none : Option Nat) = none from ⟨c0, rfl⟩)]
          simp only [Option.isSome_none, Bool.false_eq_true, if_false, if_true, hi_187_2, hi_187_3, Option.bind_some, ho_T hk, k_app hk h5 (show i ≤ 5 by omega), if_pos (show i < 5 by omega), if_neg i_10, cR_readSet_77, n_succ]
        | some j =>
          rw [if_neg (show ¬ (u'.2.2.2.2.2.2.2.2.2.2.2.2.1 1 = 0 ∧ some j = none) from fun h => by have := h.2; simp at this)]
          simp only [Option.isSome_some, if_true, if_neg i_10, cR_readSet_72, hp_187_1, Option.bind_some, cR_readSet_77]
          exact dd _
      · rw [if_neg c0, if_neg (fun h => c0 h.1)]
        simp only [cR_readSet_72, hp_187_1, Option.bind_some, cR_readSet_77]
        exact dd _
    have bad : ¬ (u'.2.2.2.2.2.2.2.2.2.2.2.2.1 1 = 0 ∧ gfi (fun j => decide ((u'.1 k).2.2.1 j = u'.2.2.2.2.2.2.2.2.2.2.2.2.1 2 ∧ (u'.1 k).2.2.2.1 j = u'.2.2.2.2.2.2.2.2.2.2.2.2.1 3)) i 0 = none) → ∀ x', gRF (1 + B + 2) 0 x x' → gXd k x x' → gVal n0 f q m D ((r + 1) * (B + 1) + 2) k 0 u x (fun h => (cR_readSet_11 W (g + (r + 1) + 1) (some 187) (some 1) (some 163) (some (3 + 5 * k)) (Int32.ofNat (D + 1)) (Int32.ofNat c) (Int32.ofNat i) h).bind fun h => cR_readObject_128 W (some 187) (Int32.ofNat k) h) := by
      intro h x' h1 h2
      refine gVal_bad (u' := ((u'.1, u'.2.1, u'.2.2.1, u'.2.2.2.1, u'.2.2.2.2.1, u'.2.2.2.2.2.1, u'.2.2.2.2.2.2.1, u'.2.2.2.2.2.2.2.1, u'.2.2.2.2.2.2.2.2.1, u'.2.2.2.2.2.2.2.2.2.1, u'.2.2.2.2.2.2.2.2.2.2.1, u'.2.2.2.2.2.2.2.2.2.2.2.1, gup (gup (gup u'.2.2.2.2.2.2.2.2.2.2.2.2.1 1 1) 2 6) 3 (Int32.ofNat k), u'.2.2.2.2.2.2.2.2.2.2.2.2.2.1, u'.2.2.2.2.2.2.2.2.2.2.2.2.2.2) : gU)) (fun y o z => ?_) (gUf_trans (gUf_mono w2 (by omega)) gUf_r (Nat.le_refl k)) rfl (gRF_mono h1 (by omega)) h2
      show ((cR_readSet_11 W (g + (r + 1) + 1) (some 187) (some 1) (some 163) (some (3 + 5 * k)) (Int32.ofNat (D + 1)) (Int32.ofNat c) (Int32.ofNat i) (gH u y o z)).bind _) = _
      rw [cl, if_neg h, Option.bind_some, k_128]
    rcases w3 with ⟨x', l1, N', pos', l2, l3, l4, l5, l6, l7, l8⟩ | ⟨l0, x', l1, l2⟩
    · have xk : x'.1 k = x.1 k := l4.fd.dR k hkN
      have O' : gO N' 3 i (u'.1 k) (x'.1 k) := by rw [uk, xk]; exact gO_mono l3 O
      obtain ⟨q1, q2, q3⟩ := l4.f1 D (by omega)
      have P' : gPi D k i c x' := ⟨l5, q1.trans P.2.1, q2.trans P.2.2.1, q3.trans P.2.2.2⟩
      have ct' : (x'.1 k).2.2.2.2.2.1 = Int32.ofNat i := by rw [xk]; exact ct
      have e2 : gcn (x'.2.1 35) (x'.2.1 36) = u'.2.2.2.2.2.2.2.2.2.2.2.2.1 3 := by rw [l6, l7]; exact gV1_cn l8
      have t1 : gXf k D x x' := gXf_trans gXf_refl l4 (by omega) (by omega)
      have fnd : gfi (fun j => decide ((x'.1 k).2.2.1 j = x'.2.1 35 ∧ (x'.1 k).2.2.2.1 j = gcn (x'.2.1 35) (x'.2.1 36))) i 0 = gfi (fun j => decide ((u'.1 k).2.2.1 j = u'.2.2.2.2.2.2.2.2.2.2.2.2.1 2 ∧ (u'.1 k).2.2.2.1 j = u'.2.2.2.2.2.2.2.2.2.2.2.2.1 3)) i 0 := by
        rw [e2, l6]
        exact (set_find O').symm
      by_cases hn : gfi (fun j => decide ((u'.1 k).2.2.1 j = u'.2.2.2.2.2.2.2.2.2.2.2.2.1 2 ∧ (u'.1 k).2.2.2.1 j = u'.2.2.2.2.2.2.2.2.2.2.2.2.1 3)) i 0 = none
      · have dl : ∀ y o z, mM_deliver (some 188) (gH y x' o z) = some (gH y ((gup x'.1 k (gp_add (x'.1 k) i (u'.2.2.2.2.2.2.2.2.2.2.2.2.1 2) (u'.2.2.2.2.2.2.2.2.2.2.2.2.1 3)), x'.2.1, x'.2.2.1, x'.2.2.2.1, x'.2.2.2.2.1, x'.2.2.2.2.2.1, x'.2.2.2.2.2.2.1, gup x'.2.2.2.2.2.2.2.1 D (Int32.ofNat (i + 1)), x'.2.2.2.2.2.2.2.2.1, x'.2.2.2.2.2.2.2.2.2.1, x'.2.2.2.2.2.2.2.2.2.2.1, x'.2.2.2.2.2.2.2.2.2.2.2.1, x'.2.2.2.2.2.2.2.2.2.2.2.2.1, x'.2.2.2.2.2.2.2.2.2.2.2.2.2.1, x'.2.2.2.2.2.2.2.2.2.2.2.2.2.2.1, x'.2.2.2.2.2.2.2.2.2.2.2.2.2.2.2) : gX) o z) := by
          intro y o z
          rw [r_setDl P' hD14 hk i8 l2.gg O'.et ct', fnd, hn]
          simp only [Option.isSome_none, Bool.false_eq_true, if_false]
          rw [r_151 hk i8 (Or.inr rfl) ct', gup_same l2.gg, e2, l6]
        obtain ⟨D2, O2⟩ := gD_add (D := D) (w := Int32.ofNat (i + 1)) l2 O' (Or.inr rfl) (show i + 1 ≤ 5 by omega) (gV1_V l8)
        have to2 := gTo_trans to (gRT_dl l1 l2.gg l5 hD14 dl)
        have fu : gUf k u ((gup u'.1 k (gq_add (u'.1 k) i (u'.2.2.2.2.2.2.2.2.2.2.2.2.1 2) (u'.2.2.2.2.2.2.2.2.2.2.2.2.1 3)), u'.2.1, u'.2.2.1, u'.2.2.2.1, u'.2.2.2.2.1, u'.2.2.2.2.2.1, u'.2.2.2.2.2.2.1, u'.2.2.2.2.2.2.2.1, u'.2.2.2.2.2.2.2.2.1, u'.2.2.2.2.2.2.2.2.2.1, u'.2.2.2.2.2.2.2.2.2.2.1, u'.2.2.2.2.2.2.2.2.2.2.2.1, u'.2.2.2.2.2.2.2.2.2.2.2.2.1, u'.2.2.2.2.2.2.2.2.2.2.2.2.2.1, u'.2.2.2.2.2.2.2.2.2.2.2.2.2.2) : gU) := ⟨fun j hj => (gup_ne (by omega)).trans (w2.uC j (by omega)), w2.u0, w2.u3, w2.u4, w2.u5, w2.u6, w2.u8, w2.uh⟩
        have K := IH (i + 1) g ((gup u'.1 k (gq_add (u'.1 k) i (u'.2.2.2.2.2.2.2.2.2.2.2.2.1 2) (u'.2.2.2.2.2.2.2.2.2.2.2.2.1 3)), u'.2.1, u'.2.2.1, u'.2.2.2.1, u'.2.2.2.2.1, u'.2.2.2.2.2.1, u'.2.2.2.2.2.2.1, u'.2.2.2.2.2.2.2.1, u'.2.2.2.2.2.2.2.2.1, u'.2.2.2.2.2.2.2.2.2.1, u'.2.2.2.2.2.2.2.2.2.2.1, u'.2.2.2.2.2.2.2.2.2.2.2.1, u'.2.2.2.2.2.2.2.2.2.2.2.2.1, u'.2.2.2.2.2.2.2.2.2.2.2.2.2.1, u'.2.2.2.2.2.2.2.2.2.2.2.2.2.2) : gU) ((gup x'.1 k (gp_add (x'.1 k) i (u'.2.2.2.2.2.2.2.2.2.2.2.2.1 2) (u'.2.2.2.2.2.2.2.2.2.2.2.2.1 3)), x'.2.1, x'.2.2.1, x'.2.2.2.1, x'.2.2.2.2.1, x'.2.2.2.2.2.1, x'.2.2.2.2.2.2.1, gup x'.2.2.2.2.2.2.2.1 D (Int32.ofNat (i + 1)), x'.2.2.2.2.2.2.2.2.1, x'.2.2.2.2.2.2.2.2.2.1, x'.2.2.2.2.2.2.2.2.2.2.1, x'.2.2.2.2.2.2.2.2.2.2.2.1, x'.2.2.2.2.2.2.2.2.2.2.2.2.1, x'.2.2.2.2.2.2.2.2.2.2.2.2.2.1, x'.2.2.2.2.2.2.2.2.2.2.2.2.2.2.1, x'.2.2.2.2.2.2.2.2.2.2.2.2.2.2.2) : gX) N' pos' (by omega) D2 (by omega) O2 ⟨P'.1, P'.2.1, gup_eq, P'.2.2.2⟩
        refine gVal_mono (gVal_step to2 fu ?_ (fun y o z => ?_) K) (by omega)
        · refine gXf_trans t1 (D2 := D) (N2 := k) ?_ (Nat.le_refl _) (Nat.le_refl _)
          exact ⟨⟨fun j hj => gup_ne (by omega), fun _ _ => rfl, rfl, rfl, rfl, rfl⟩, fun j hj => ⟨rfl, gup_ne (by omega), rfl⟩, fun _ _ => rfl, fun _ _ => ⟨rfl, rfl, rfl⟩⟩
        · show ((cR_readSet_11 W (g + (r + 1) + 1) (some 187) (some 1) (some 163) (some (3 + 5 * k)) (Int32.ofNat (D + 1)) (Int32.ofNat c) (Int32.ofNat i) (gH u y o z)).bind _) = _
          rw [cl, if_pos ⟨l2.wr, hn⟩]
      · have dl : ∀ y o z, mM_deliver (some 188) (gH y x' o z) = some (gH y ((gup x'.1 k (gp_add (x'.1 k) i (x'.2.1 35) (gcn (x'.2.1 35) (x'.2.1 36))), gup x'.2.1 31 0, x'.2.2.1, x'.2.2.2.1, x'.2.2.2.2.1, x'.2.2.2.2.2.1, x'.2.2.2.2.2.2.1, gup x'.2.2.2.2.2.2.2.1 D (Int32.ofNat (i + 1)), x'.2.2.2.2.2.2.2.2.1, x'.2.2.2.2.2.2.2.2.2.1, x'.2.2.2.2.2.2.2.2.2.2.1, x'.2.2.2.2.2.2.2.2.2.2.2.1, x'.2.2.2.2.2.2.2.2.2.2.2.2.1, x'.2.2.2.2.2.2.2.2.2.2.2.2.2.1, x'.2.2.2.2.2.2.2.2.2.2.2.2.2.2.1, x'.2.2.2.2.2.2.2.2.2.2.2.2.2.2.2) : gX) o z) := by
          intro y o z
          rw [r_setDl P' hD14 hk i8 l2.gg O'.et ct', fnd]
          cases hf : gfi (fun j => decide ((u'.1 k).2.2.1 j = u'.2.2.2.2.2.2.2.2.2.2.2.2.1 2 ∧ (u'.1 k).2.2.2.1 j = u'.2.2.2.2.2.2.2.2.2.2.2.2.1 3)) i 0 with
          | none => exact absurd hf hn
          | some j =>
            simp only [Option.isSome_some, if_true]
            rw [r_151 hk i8 (Or.inl rfl) ct']
        refine bad (fun h => hn h.2) _ (gRF_mono (gTo_F (gTo_trans to (gRT_dl l1 l2.gg l5 hD14 dl)) (gRF_dead rfl)) (by omega)) (gXd_trans t1.fd (N2 := k) ⟨fun j hj => gup_ne (by omega), fun j hj => gup_ne (by omega), rfl, rfl, rfl, rfl⟩ (Nat.le_refl _))
    · exact bad (fun h => by rw [l0] at h; exact absurd h.1 i_10) x' (gRF_mono (gTo_F to l1) (by omega)) (gXd_trans gXd_refl l2 (by omega))
end H
end
section
/-! read: maps -/
def gp_key (p : gP) (c : Nat) (a b : Int32) : gP := ((gup p.1 c a, gup p.2.1 c b, p.2.2.1, p.2.2.2.1, p.2.2.2.2.1, p.2.2.2.2.2.1, p.2.2.2.2.2.2.1, p.2.2.2.2.2.2.2) : gP)
theorem gO_key {n c : Nat} {q : gQ} {p : gP} {a b : Int32} (O : gO n 2 c q p) : gO n 2 c q (gp_key p c a b) := by
  refine ⟨O.s8, O.es, O.et, O.ec, O.c8, O.ed, O.d4, O.ep, O.e0, fun h i hi => ?_, fun h i hi => ?_, O.k4, O.vs, O.vv, O.kv, O.so, fun h => by omega, fun h => by omega, fun h => by omega⟩
  · show gup p.2.1 c b i = _
    rw [gup_ne (by omega)]; exact O.kE h i hi
  · show gup p.1 c a i = _
    rw [gup_ne (by omega)]; exact O.kK h i hi
section H
variable {n0 f q m N pos : Nat} {u : gU} {x : gX} {W : gWr}
theorem k_mapD {g : Nat} {t : Option Nat} {d c i : Int32} (h : u.2.2.2.2.2.2.2.2.2.2.2.2.1 1 = 1) : ∀ y o z, cR_readMap_11 W (g + 1) (some 187) (some 1) (some 163) t d c i (gH u y o z) = some (gH u y o z) := by
  intro y o z
  rw [cR_readMap_11, hi_187_1, Option.bind_some, if_neg (show ¬ u.2.2.2.2.2.2.2.2.2.2.2.2.1 1 = 0 by rw [h]; exact i_10)]
  split <;> rfl
theorem k_mapStep {D k i c g : Nat} {u1 u2 : gU} (hk : k < 32) (hc : c ≤ 4) (hi : i < c) (hd : D < 14) (h0 : u.2.2.2.2.2.2.2.2.2.2.2.2.1 1 = 0) (w1 : ∀ y o z, W (some 187) (some 1) (some 163) (Int32.ofNat (D + 1 + 1)) (gH u y o z) = some (gH u1 y o z)) (w2 : ∀ y o z, W (some 187) (some 1) (some 163) (Int32.ofNat (D + 1 + 1)) (gH u1 y o z) = some (gH u2 y o z)) (h5 : (u2.1 k).2.2.2.2.1 5 = Int32.ofNat i) : ∀ y o z, cR_readMap_11 W (g + 1 + 1) (some 187) (some 1) (some 163) (some (3 + 5 * k)) (Int32.ofNat (D + 1)) (Int32.ofNat c) (Int32.ofNat i) (gH u y o z) = if u2.2.2.2.2.2.2.2.2.2.2.2.2.1 1 = 0 ∧ gfi (fun j => decide ((u2.1 k).1 j = u1.2.2.2.2.2.2.2.2.2.2.2.2.1 2 ∧ (u2.1 k).2.1 j = u1.2.2.2.2.2.2.2.2.2.2.2.2.1 3)) i 0 = none then cR_readMap_11 W (g + 1) (some 187) (some 1) (some 163) (some (3 + 5 * k)) (Int32.ofNat (D + 1)) (Int32.ofNat c) (Int32.ofNat (i + 1)) (gH ((gup u2.1 k (gq_ent (u2.1 k) i (u1.2.2.2.2.2.2.2.2.2.2.2.2.1 2) (u1.2.2.2.2.2.2.2.2.2.2.2.2.1 3) (u2.2.2.2.2.2.2.2.2.2.2.2.2.1 2) (u2.2.2.2.2.2.2.2.2.2.2.2.2.1 3)), u2.2.1, u2.2.2.1, u2.2.2.2.1, u2.2.2.2.2.1, u2.2.2.2.2.2.1, u2.2.2.2.2.2.2.1, u2.2.2.2.2.2.2.2.1, u2.2.2.2.2.2.2.2.2.1, u2.2.2.2.2.2.2.2.2.2.1, u2.2.2.2.2.2.2.2.2.2.2.1, u2.2.2.2.2.2.2.2.2.2.2.2.1, u2.2.2.2.2.2.2.2.2.2.2.2.2.1, u2.2.2.2.2.2.2.2.2.2.2.2.2.2.1, u2.2.2.2.2.2.2.2.2.2.2.2.2.2.2) : gU) y o z) else some (gH ((u2.1, u2.2.1, u2.2.2.1, u2.2.2.2.1, u2.2.2.2.2.1, u2.2.2.2.2.2.1, u2.2.2.2.2.2.2.1, u2.2.2.2.2.2.2.2.1, u2.2.2.2.2.2.2.2.2.1, u2.2.2.2.2.2.2.2.2.2.1, u2.2.2.2.2.2.2.2.2.2.2.1, u2.2.2.2.2.2.2.2.2.2.2.2.1, gup u2.2.2.2.2.2.2.2.2.2.2.2.2.1 1 1, u2.2.2.2.2.2.2.2.2.2.2.2.2.2.1, u2.2.2.2.2.2.2.2.2.2.2.2.2.2.2) : gU) y o z) := by
  intro y o z
  have dd := fun d => k_mapD (W := W) (g := g) (t := some (3 + 5 * k)) (d := Int32.ofNat (D + 1)) (c := Int32.ofNat c) (i := d) (u := ((u2.1, u2.2.1, u2.2.2.1, u2.2.2.2.1, u2.2.2.2.2.1, u2.2.2.2.2.2.1, u2.2.2.2.2.2.2.1, u2.2.2.2.2.2.2.2.1, u2.2.2.2.2.2.2.2.2.1, u2.2.2.2.2.2.2.2.2.2.1, u2.2.2.2.2.2.2.2.2.2.2.1, u2.2.2.2.2.2.2.2.2.2.2.2.1, gup u2.2.2.2.2.2.2.2.2.2.2.2.2.1 1 1, u2.2.2.2.2.2.2.2.2.2.2.2.2.2.1, u2.2.2.2.2.2.2.2.2.2.2.2.2.2.2) : gU)) rfl y o z
  have l : Int32.ofNat i < Int32.ofNat c := n_ltl (by omega) (by omega) hi
  rw [cR_readMap_11, if_pos l, hi_187_1, Option.bind_some, if_pos h0, ho_187, Option.bind_some, n_succ, w1, Option.bind_some, hi_187_2, Option.bind_some, hi_187_3, Option.bind_some, ho_187, Option.bind_some, w2, Option.bind_some, hi_187_1, Option.bind_some]
  by_cases c0 : u2.2.2.2.2.2.2.2.2.2.2.2.2.1 1 = 0
  · rw [if_pos c0, ho_T hk, Option.bind_some, k_index hk h5 (by omega), Option.bind_some]
    have se := fun a b => k_setEntry (u := u2) (x := y) (o := o) (z := z) (a := u1.2.2.2.2.2.2.2.2.2.2.2.2.1 2) (b := u1.2.2.2.2.2.2.2.2.2.2.2.2.1 3) (kd := a) (nm := b) hk h5 (show i ≤ 4 by omega)
    cases hf : gfi (fun j => decide ((u2.1 k).1 j = u1.2.2.2.2.2.2.2.2.2.2.2.2.1 2 ∧ (u2.1 k).2.1 j = u1.2.2.2.2.2.2.2.2.2.2.2.2.1 3)) i 0 with
    | none =>
      rw [hf] at se
      rw [if_pos (show u2.2.2.2.2.2.2.2.2.2.2.2.2.1 1 = 0 ∧ (none : Option Nat) = none from ⟨c0, rfl⟩)]
      simp only [gio, if_true, hi_187_2, hi_187_3, Option.bind_some, ho_T hk, se, if_pos (show i < 4 by omega), if_neg i_10, cR_readMap_100, n_succ]
    | some j =>
      have hj := (gfi_some _ _ _ hf).2.1
      rw [if_neg (show ¬ (u2.2.2.2.2.2.2.2.2.2.2.2.2.1 1 = 0 ∧ some j = none) from fun h => by have := h.2; simp at this)]
      simp only [gio, if_neg (n_ne1 (n := j) (by omega)), cR_readMap_95, hp_187_1, Option.bind_some, cR_readMap_100]
      exact dd _
  · rw [if_neg c0, if_neg (fun h => c0 h.1)]
    simp only [cR_readMap_95, hp_187_1, Option.bind_some, cR_readMap_100]
    exact dd _
theorem r_mapDl1 {D k i c : Nat} (P : gPi D k (2 * i) c x) (hD : D < 14) (hk : k < 32) (hi : i < 4) (hg : x.2.1 31 = 1) (ht : (x.1 k).2.2.2.2.1 = Int32.ofNat 2) (hc : (x.1 k).2.2.2.2.2.1 = Int32.ofNat i) : ∀ y o z, mM_deliver (some 188) (gH y x o z) = some (gH y ((gup x.1 k (gp_key (x.1 k) i (x.2.1 35) (x.2.1 36)), gup x.2.1 31 (if gfi (fun j => decide ((x.1 k).1 j = x.2.1 35 ∧ (x.1 k).2.1 j = gcn (x.2.1 35) (x.2.1 36))) i 0 = none then 1 else 0), x.2.2.1, x.2.2.2.1, x.2.2.2.2.1, x.2.2.2.2.2.1, x.2.2.2.2.2.2.1, gup x.2.2.2.2.2.2.2.1 D (Int32.ofNat (2 * i + 1)), x.2.2.2.2.2.2.2.2.1, x.2.2.2.2.2.2.2.2.2.1, x.2.2.2.2.2.2.2.2.2.2.1, x.2.2.2.2.2.2.2.2.2.2.2.1, x.2.2.2.2.2.2.2.2.2.2.2.2.1, x.2.2.2.2.2.2.2.2.2.2.2.2.2.1, x.2.2.2.2.2.2.2.2.2.2.2.2.2.2.1, x.2.2.2.2.2.2.2.2.2.2.2.2.2.2.2) : gX) o z) := by
  intro y o z
  rw [r_dl P hD hk ht]
  obtain ⟨p1, p2, p3, p4⟩ := P
  obtain ⟨h1, h2, _, _⟩ := n_half i hi
  have i8 : i < 8 := by omega
  have he := fun a b => r_ent (u := y) (x := ((x.1, x.2.1, x.2.2.1, x.2.2.2.1, x.2.2.2.2.1, x.2.2.2.2.2.1, x.2.2.2.2.2.2.1, gup x.2.2.2.2.2.2.2.1 D (Int32.ofNat (2 * i + 1)), x.2.2.2.2.2.2.2.2.1, x.2.2.2.2.2.2.2.2.2.1, x.2.2.2.2.2.2.2.2.2.2.1, x.2.2.2.2.2.2.2.2.2.2.2.1, x.2.2.2.2.2.2.2.2.2.2.2.2.1, x.2.2.2.2.2.2.2.2.2.2.2.2.2.1, x.2.2.2.2.2.2.2.2.2.2.2.2.2.2.1, x.2.2.2.2.2.2.2.2.2.2.2.2.2.2.2) : gX)) (o := o) (z := z) (a := a) (b := b) hk hc (show i ≤ 8 by omega)
  have e35 : ∀ v, gup x.2.1 31 v 35 = x.2.1 35 := fun _ => rfl
  have e36 : ∀ v, gup x.2.1 31 v 36 = x.2.1 36 := fun _ => rfl
  have st : ∀ v, v = 0 ∨ v = 1 → mM_deliver_231 (some 188) (Int32.ofNat k) (Int32.ofNat (2 * i)) (some 188) v (gH y ((x.1, x.2.1, x.2.2.1, x.2.2.2.1, x.2.2.2.2.1, x.2.2.2.2.2.1, x.2.2.2.2.2.2.1, gup x.2.2.2.2.2.2.2.1 D (Int32.ofNat (2 * i + 1)), x.2.2.2.2.2.2.2.2.1, x.2.2.2.2.2.2.2.2.2.1, x.2.2.2.2.2.2.2.2.2.2.1, x.2.2.2.2.2.2.2.2.2.2.2.1, x.2.2.2.2.2.2.2.2.2.2.2.2.1, x.2.2.2.2.2.2.2.2.2.2.2.2.2.1, x.2.2.2.2.2.2.2.2.2.2.2.2.2.2.1, x.2.2.2.2.2.2.2.2.2.2.2.2.2.2.2) : gX) o z) = some (gH y ((gup x.1 k (gp_key (x.1 k) i (x.2.1 35) (x.2.1 36)), gup x.2.1 31 v, x.2.2.1, x.2.2.2.1, x.2.2.2.2.1, x.2.2.2.2.2.1, x.2.2.2.2.2.2.1, gup x.2.2.2.2.2.2.2.1 D (Int32.ofNat (2 * i + 1)), x.2.2.2.2.2.2.2.2.1, x.2.2.2.2.2.2.2.2.2.1, x.2.2.2.2.2.2.2.2.2.2.1, x.2.2.2.2.2.2.2.2.2.2.2.1, x.2.2.2.2.2.2.2.2.2.2.2.2.1, x.2.2.2.2.2.2.2.2.2.2.2.2.2.1, x.2.2.2.2.2.2.2.2.2.2.2.2.2.2.1, x.2.2.2.2.2.2.2.2.2.2.2.2.2.2.2) : gX) o z) := by
    intro v hv
    simp only [mM_deliver_231, not_or, if_neg (show ¬ (¬ v = 0 ∧ ¬ v = 1) from fun h => by rcases hv with e | e; exact h.1 e; exact h.2 e), hp_188_31, Option.bind_some, hr_188_7, hi_188_35, h1, n_8, e35, hb_194 hk i8, hr_188_6, hi_188_36, e36, hb_193 hk i8, gup_eq, gup_gup]
    rfl
  simp only [mM_deliver_28, hr_188_20, Option.bind_some, ha_202 hD, p3, hb_202 hD, n_succ, if_neg (show ¬ Int32.ofNat 2 = 0 by decide), if_neg (show ¬ Int32.ofNat 2 = 1 by decide), if_neg (show ¬ Int32.ofNat 2 = 3 by decide), if_pos (show Int32.ofNat 2 = 2 by decide), h1, h2, if_true, hi_188_31, if_neg (show ¬ x.2.1 31 = 0 by rw [hg]; exact i_10), hi_188_35, hi_188_36, ho_188, he]
  cases hf : gfi (fun j => decide ((x.1 k).1 j = x.2.1 35 ∧ (x.1 k).2.1 j = gcn (x.2.1 35) (x.2.1 36))) i 0 with
  | none =>
    simp only [gio, if_pos (show (-1 : Int32) < 0 by decide), if_true]
    exact st 1 (Or.inr rfl)
  | some j =>
    have hj := (gfi_some _ _ _ hf).2.1
    simp only [gio, if_neg (n_nn (n := j) (by omega)), mM_deliver_230, reduceCtorEq, if_false]
    have s0 := st 0 (Or.inl rfl)
    exact (if_neg (n_nn (n := j) (by omega))).trans s0
theorem r_mapDl2 {D k i c : Nat} (P : gPi D k (2 * i + 1) c x) (hD : D < 14) (hk : k < 32) (hi : i < 4) (ht : (x.1 k).2.2.2.2.1 = Int32.ofNat 2) (hc : (x.1 k).2.2.2.2.2.1 = Int32.ofNat i) : ∀ y o z, mM_deliver (some 188) (gH y x o z) = some (gH y ((gup x.1 k (gp_add (x.1 k) i (x.2.1 35) (gcn (x.2.1 35) (x.2.1 36))), x.2.1, x.2.2.1, x.2.2.2.1, x.2.2.2.2.1, x.2.2.2.2.2.1, x.2.2.2.2.2.2.1, gup x.2.2.2.2.2.2.2.1 D (Int32.ofNat (2 * i + 1 + 1)), x.2.2.2.2.2.2.2.2.1, x.2.2.2.2.2.2.2.2.2.1, x.2.2.2.2.2.2.2.2.2.2.1, x.2.2.2.2.2.2.2.2.2.2.2.1, x.2.2.2.2.2.2.2.2.2.2.2.2.1, x.2.2.2.2.2.2.2.2.2.2.2.2.2.1, x.2.2.2.2.2.2.2.2.2.2.2.2.2.2.1, x.2.2.2.2.2.2.2.2.2.2.2.2.2.2.2) : gX) o z) := by
  intro y o z
  rw [r_dl P hD hk ht]
  obtain ⟨p1, p2, p3, p4⟩ := P
  obtain ⟨_, _, h1, h2⟩ := n_half i hi
  have i8 : i < 8 := by omega
  simp only [mM_deliver_28, hr_188_20, Option.bind_some, ha_202 hD, p3, hb_202 hD, n_succ, if_neg (show ¬ Int32.ofNat 2 = 0 by decide), if_neg (show ¬ Int32.ofNat 2 = 1 by decide), if_neg (show ¬ Int32.ofNat 2 = 3 by decide), if_pos (show Int32.ofNat 2 = 2 by decide), h1, if_neg h2, mM_deliver_273, hi_188_35, hi_188_36, ho_188, n_8, r_setSlot hk i8, hr_188_3, ha_190 hk, gup_eq, hc, hb_190 hk, gup_gup]
  rfl
theorem rd_mapL {D k c B : Nat} (hD : D + 1 ≤ 12) (hk0 : n0 ≤ k) (ih : gIR n0 f q m (D + 1) B W) (dead : gDe W) (hc : c ≤ 4) : ∀ (r i g : Nat) (u : gU) (x : gX) (N pos : Nat), i + r = c → gD n0 f q m N pos u x → k < N → gO N 2 i (u.1 k) (x.1 k) → gPi D k (2 * i) (2 * c) x → gVal n0 f q m D (r * (2 * (B + 1)) + 2) k 0 u x (fun h => (cR_readMap_11 W (g + r + 1) (some 187) (some 1) (some 163) (some (3 + 5 * k)) (Int32.ofNat (D + 1)) (Int32.ofNat c) (Int32.ofNat i) h).bind fun h => cR_readObject_128 W (some 187) (Int32.ofNat k) h) := by
  have hD14 : D < 14 := by omega
  intro r
  induction r with
  | zero =>
    intro i g u x N pos e G hkN O P
    obtain rfl : i = c := by omega
    have hk : k < 32 := by have := G.hN; omega
    refine gVal_end G hk0 hkN (fun y o z => ?_) (gRT_mono (gRT_go2 G.gg (r_goEnd P hD14 hk O.et (by decide))) (by omega))
    simp only [cR_readMap_11, if_neg (n_nltl (n := i) (m := i) (by omega) (by omega) (by omega)), Option.bind_some, k_128]
  | succ r IH =>
    intro i g u x N pos e G hkN O P
    have hk : k < 32 := by have := G.hN; omega
    have i8 : i < 8 := by omega
    have i4 : i < 4 := by omega
    have hic : i < c := by omega
    have ct : (x.1 k).2.2.2.2.2.1 = Int32.ofNat i := O.ep (by rcases O.d4 with h | h; exact h; omega)
    have bd : 2 * (B + 1) + (r * (2 * (B + 1)) + 2) ≤ (r + 1) * (2 * (B + 1)) + 2 := by rw [Nat.add_mul r 1, Nat.one_mul]; omega
    have to := gTo_go1 G.gg (r_goVal P hD14 hk (by omega) (by omega) O.et (Or.inl rfl))
    obtain ⟨u1, w1, w2, w3⟩ := ih u x N pos G P.1
    have uk : u1.1 k = u.1 k := w2.uC k hkN
    have bad : ∀ u2, (∀ y o z, W (some 187) (some 1) (some 163) (Int32.ofNat (D + 1 + 1)) (gH u1 y o z) = some (gH u2 y o z)) → gUf N u1 u2 → ¬ (u2.2.2.2.2.2.2.2.2.2.2.2.2.1 1 = 0 ∧ gfi (fun j => decide ((u2.1 k).1 j = u1.2.2.2.2.2.2.2.2.2.2.2.2.1 2 ∧ (u2.1 k).2.1 j = u1.2.2.2.2.2.2.2.2.2.2.2.2.1 3)) i 0 = none) → ∀ x', gRF (2 * (B + 1) + 2) 0 x x' → gXd k x x' → gVal n0 f q m D ((r + 1) * (2 * (B + 1)) + 2) k 0 u x (fun h => (cR_readMap_11 W (g + (r + 1) + 1) (some 187) (some 1) (some 163) (some (3 + 5 * k)) (Int32.ofNat (D + 1)) (Int32.ofNat c) (Int32.ofNat i) h).bind fun h => cR_readObject_128 W (some 187) (Int32.ofNat k) h) := by
      intro u2 v1 v2 h x' h1 h2
      have h5 : (u2.1 k).2.2.2.2.1 5 = Int32.ofNat i := by rw [v2.uC k hkN, uk]; exact O.ec
      refine gVal_bad (u' := ((u2.1, u2.2.1, u2.2.2.1, u2.2.2.2.1, u2.2.2.2.2.1, u2.2.2.2.2.2.1, u2.2.2.2.2.2.2.1, u2.2.2.2.2.2.2.2.1, u2.2.2.2.2.2.2.2.2.1, u2.2.2.2.2.2.2.2.2.2.1, u2.2.2.2.2.2.2.2.2.2.2.1, u2.2.2.2.2.2.2.2.2.2.2.2.1, gup (gup (gup u2.2.2.2.2.2.2.2.2.2.2.2.2.1 1 1) 2 6) 3 (Int32.ofNat k), u2.2.2.2.2.2.2.2.2.2.2.2.2.2.1, u2.2.2.2.2.2.2.2.2.2.2.2.2.2.2) : gU)) (fun y o z => ?_) (gUf_trans (gUf_mono (gUf_trans w2 v2 (Nat.le_refl _)) (by omega)) gUf_r (Nat.le_refl k)) rfl (gRF_mono h1 (by omega)) h2
      show ((cR_readMap_11 W (g + r + 1 + 1) (some 187) (some 1) (some 163) (some (3 + 5 * k)) (Int32.ofNat (D + 1)) (Int32.ofNat c) (Int32.ofNat i) (gH u y o z)).bind _) = _
      rw [k_mapStep hk hc hic hD14 G.wr w1 v1 h5, if_neg h, Option.bind_some, k_128]
    rcases w3 with ⟨x1, l1, N1, pos1, l2, l3, l4, l5, l6, l7, l8⟩ | ⟨l0, x1, l1, l2⟩
    · have xk : x1.1 k = x.1 k := l4.fd.dR k hkN
      have O1 : gO N1 2 i (u1.1 k) (x1.1 k) := by rw [uk, xk]; exact gO_mono l3 O
      obtain ⟨q1, q2, q3⟩ := l4.f1 D (by omega)
      have P1 : gPi D k (2 * i) (2 * c) x1 := ⟨l5, q1.trans P.2.1, q2.trans P.2.2.1, q3.trans P.2.2.2⟩
      have ct1 : (x1.1 k).2.2.2.2.2.1 = Int32.ofNat i := by rw [xk]; exact ct
      have e2 : gcn (x1.2.1 35) (x1.2.1 36) = u1.2.2.2.2.2.2.2.2.2.2.2.2.1 3 := by rw [l6, l7]; exact gV1_cn l8
      have t1 : gXf k D x x1 := gXf_trans gXf_refl l4 (by omega) (by omega)
      have fnd : gfi (fun j => decide ((x1.1 k).1 j = x1.2.1 35 ∧ (x1.1 k).2.1 j = gcn (x1.2.1 35) (x1.2.1 36))) i 0 = gfi (fun j => decide ((u1.1 k).1 j = u1.2.2.2.2.2.2.2.2.2.2.2.2.1 2 ∧ (u1.1 k).2.1 j = u1.2.2.2.2.2.2.2.2.2.2.2.2.1 3)) i 0 := by
        rw [e2, l6]
        exact (map_find O1).symm
      have dl0 := r_mapDl1 P1 hD14 hk i4 l2.gg O1.et ct1
      by_cases hn : gfi (fun j => decide ((u1.1 k).1 j = u1.2.2.2.2.2.2.2.2.2.2.2.2.1 2 ∧ (u1.1 k).2.1 j = u1.2.2.2.2.2.2.2.2.2.2.2.2.1 3)) i 0 = none
      · have dl : ∀ y o z, mM_deliver (some 188) (gH y x1 o z) = some (gH y ((gup x1.1 k (gp_key (x1.1 k) i (u1.2.2.2.2.2.2.2.2.2.2.2.2.1 2) (u1.2.2.2.2.2.2.2.2.2.2.2.2.1 3)), x1.2.1, x1.2.2.1, x1.2.2.2.1, x1.2.2.2.2.1, x1.2.2.2.2.2.1, x1.2.2.2.2.2.2.1, gup x1.2.2.2.2.2.2.2.1 D (Int32.ofNat (2 * i + 1)), x1.2.2.2.2.2.2.2.2.1, x1.2.2.2.2.2.2.2.2.2.1, x1.2.2.2.2.2.2.2.2.2.2.1, x1.2.2.2.2.2.2.2.2.2.2.2.1, x1.2.2.2.2.2.2.2.2.2.2.2.2.1, x1.2.2.2.2.2.2.2.2.2.2.2.2.2.1, x1.2.2.2.2.2.2.2.2.2.2.2.2.2.2.1, x1.2.2.2.2.2.2.2.2.2.2.2.2.2.2.2) : gX) o z) := by
          intro y o z
          rw [dl0, fnd, if_pos hn, gup_same l2.gg, l6, l7]
        have D2 : gD n0 f q m N1 pos1 u1 ((gup x1.1 k (gp_key (x1.1 k) i (u1.2.2.2.2.2.2.2.2.2.2.2.2.1 2) (u1.2.2.2.2.2.2.2.2.2.2.2.2.1 3)), x1.2.1, x1.2.2.1, x1.2.2.2.1, x1.2.2.2.2.1, x1.2.2.2.2.2.1, x1.2.2.2.2.2.2.1, gup x1.2.2.2.2.2.2.2.1 D (Int32.ofNat (2 * i + 1)), x1.2.2.2.2.2.2.2.2.1, x1.2.2.2.2.2.2.2.2.2.1, x1.2.2.2.2.2.2.2.2.2.2.1, x1.2.2.2.2.2.2.2.2.2.2.2.1, x1.2.2.2.2.2.2.2.2.2.2.2.2.1, x1.2.2.2.2.2.2.2.2.2.2.2.2.2.1, x1.2.2.2.2.2.2.2.2.2.2.2.2.2.2.1, x1.2.2.2.2.2.2.2.2.2.2.2.2.2.2.2) : gX) := by
          have f6 : (u1.1 k).2.2.2.2.1 6 = 0 := by rcases O1.d4 with h | h; exact h; omega
          have := gD_ob (k := k) (q' := u1.1 k) (p' := gp_key (x1.1 k) i (u1.2.2.2.2.2.2.2.2.2.2.2.2.1 2) (u1.2.2.2.2.2.2.2.2.2.2.2.2.1 3)) l2 ⟨2, i, gO_key O1⟩ f6
          exact gD_x this (by show u1.1 = gup u1.1 k (u1.1 k); rw [gup_self]) rfl rfl rfl (fun _ _ _ => rfl) rfl (fun _ _ _ _ => rfl) rfl rfl
        have t2 : gXf k D x1 ((gup x1.1 k (gp_key (x1.1 k) i (u1.2.2.2.2.2.2.2.2.2.2.2.2.1 2) (u1.2.2.2.2.2.2.2.2.2.2.2.2.1 3)), x1.2.1, x1.2.2.1, x1.2.2.2.1, x1.2.2.2.2.1, x1.2.2.2.2.2.1, x1.2.2.2.2.2.2.1, gup x1.2.2.2.2.2.2.2.1 D (Int32.ofNat (2 * i + 1)), x1.2.2.2.2.2.2.2.2.1, x1.2.2.2.2.2.2.2.2.2.1, x1.2.2.2.2.2.2.2.2.2.2.1, x1.2.2.2.2.2.2.2.2.2.2.2.1, x1.2.2.2.2.2.2.2.2.2.2.2.2.1, x1.2.2.2.2.2.2.2.2.2.2.2.2.2.1, x1.2.2.2.2.2.2.2.2.2.2.2.2.2.2.1, x1.2.2.2.2.2.2.2.2.2.2.2.2.2.2.2) : gX) := ⟨⟨fun j hj => gup_ne (by omega), fun _ _ => rfl, rfl, rfl, rfl, rfl⟩, fun j hj => ⟨rfl, gup_ne (by omega), rfl⟩, fun _ _ => rfl, fun _ _ => ⟨rfl, rfl, rfl⟩⟩
        have P2 : gPi D k (2 * i + 1) (2 * c) ((gup x1.1 k (gp_key (x1.1 k) i (u1.2.2.2.2.2.2.2.2.2.2.2.2.1 2) (u1.2.2.2.2.2.2.2.2.2.2.2.2.1 3)), x1.2.1, x1.2.2.1, x1.2.2.2.1, x1.2.2.2.2.1, x1.2.2.2.2.2.1, x1.2.2.2.2.2.2.1, gup x1.2.2.2.2.2.2.2.1 D (Int32.ofNat (2 * i + 1)), x1.2.2.2.2.2.2.2.2.1, x1.2.2.2.2.2.2.2.2.2.1, x1.2.2.2.2.2.2.2.2.2.2.1, x1.2.2.2.2.2.2.2.2.2.2.2.1, x1.2.2.2.2.2.2.2.2.2.2.2.2.1, x1.2.2.2.2.2.2.2.2.2.2.2.2.2.1, x1.2.2.2.2.2.2.2.2.2.2.2.2.2.2.1, x1.2.2.2.2.2.2.2.2.2.2.2.2.2.2.2) : gX) := ⟨P1.1, P1.2.1, gup_eq, P1.2.2.2⟩
        have to2 := gTo_trans to (gRT_dl l1 l2.gg l5 hD14 dl)
        generalize hx2 : (((gup x1.1 k (gp_key (x1.1 k) i (u1.2.2.2.2.2.2.2.2.2.2.2.2.1 2) (u1.2.2.2.2.2.2.2.2.2.2.2.2.1 3)), x1.2.1, x1.2.2.1, x1.2.2.2.1, x1.2.2.2.2.1, x1.2.2.2.2.2.1, x1.2.2.2.2.2.2.1, gup x1.2.2.2.2.2.2.2.1 D (Int32.ofNat (2 * i + 1)), x1.2.2.2.2.2.2.2.2.1, x1.2.2.2.2.2.2.2.2.2.1, x1.2.2.2.2.2.2.2.2.2.2.1, x1.2.2.2.2.2.2.2.2.2.2.2.1, x1.2.2.2.2.2.2.2.2.2.2.2.2.1, x1.2.2.2.2.2.2.2.2.2.2.2.2.2.1, x1.2.2.2.2.2.2.2.2.2.2.2.2.2.2.1, x1.2.2.2.2.2.2.2.2.2.2.2.2.2.2.2) : gX) : gX) = x2 at dl D2 t2 P2 to2
        have x2k : x2.1 k = gp_key (x1.1 k) i (u1.2.2.2.2.2.2.2.2.2.2.2.2.1 2) (u1.2.2.2.2.2.2.2.2.2.2.2.2.1 3) := by rw [← hx2]; exact gup_eq
        have et2 : (x2.1 k).2.2.2.2.1 = Int32.ofNat 2 := by rw [x2k]; exact O1.et
        have to3 := gTo_trans to2 (gTo_go1 D2.gg (r_goVal P2 hD14 hk (by omega) (by omega) et2 (Or.inl rfl)))
        obtain ⟨u2, v1, v2, v3⟩ := ih u1 x2 N1 pos1 D2 P2.1
        have u2k : u2.1 k = u1.1 k := v2.uC k (by omega)
        rcases v3 with ⟨x3, n1, N3, pos3, n2, n3, n4, n5, n6, n7, n8⟩ | ⟨n0', x3, n1, n2⟩
        · have x3k : x3.1 k = gp_key (x1.1 k) i (u1.2.2.2.2.2.2.2.2.2.2.2.2.1 2) (u1.2.2.2.2.2.2.2.2.2.2.2.2.1 3) := (n4.fd.dR k (by omega)).trans x2k
          obtain ⟨q1, q2, q3⟩ := n4.f1 D (by omega)
          have P3 : gPi D k (2 * i + 1) (2 * c) x3 := ⟨n5, q1.trans P2.2.1, q2.trans P2.2.2.1, q3.trans P2.2.2.2⟩
          have e3 : gcn (x3.2.1 35) (x3.2.1 36) = u2.2.2.2.2.2.2.2.2.2.2.2.2.1 3 := by rw [n6, n7]; exact gV1_cn n8
          have dl3 : ∀ y o z, mM_deliver (some 188) (gH y x3 o z) = some (gH y ((gup x3.1 k (gp_ent (x1.1 k) i (u1.2.2.2.2.2.2.2.2.2.2.2.2.1 2) (u1.2.2.2.2.2.2.2.2.2.2.2.2.1 3) (u2.2.2.2.2.2.2.2.2.2.2.2.2.1 2) (u2.2.2.2.2.2.2.2.2.2.2.2.2.1 3)), x3.2.1, x3.2.2.1, x3.2.2.2.1, x3.2.2.2.2.1, x3.2.2.2.2.2.1, x3.2.2.2.2.2.2.1, gup x3.2.2.2.2.2.2.2.1 D (Int32.ofNat (2 * (i + 1))), x3.2.2.2.2.2.2.2.2.1, x3.2.2.2.2.2.2.2.2.2.1, x3.2.2.2.2.2.2.2.2.2.2.1, x3.2.2.2.2.2.2.2.2.2.2.2.1, x3.2.2.2.2.2.2.2.2.2.2.2.2.1, x3.2.2.2.2.2.2.2.2.2.2.2.2.2.1, x3.2.2.2.2.2.2.2.2.2.2.2.2.2.2.1, x3.2.2.2.2.2.2.2.2.2.2.2.2.2.2.2) : gX) o z) := by
            intro y o z
            rw [r_mapDl2 P3 hD14 hk i4 (by rw [x3k]; exact O1.et) (by rw [x3k]; exact ct1), e3, n6, x3k]
            rfl
          have O3 : gO N3 2 (i + 1) (gq_ent (u2.1 k) i (u1.2.2.2.2.2.2.2.2.2.2.2.2.1 2) (u1.2.2.2.2.2.2.2.2.2.2.2.2.1 3) (u2.2.2.2.2.2.2.2.2.2.2.2.2.1 2) (u2.2.2.2.2.2.2.2.2.2.2.2.2.1 3)) (gp_ent (x1.1 k) i (u1.2.2.2.2.2.2.2.2.2.2.2.2.1 2) (u1.2.2.2.2.2.2.2.2.2.2.2.2.1 3) (u2.2.2.2.2.2.2.2.2.2.2.2.2.1 2) (u2.2.2.2.2.2.2.2.2.2.2.2.2.1 3)) := by
            rw [u2k]
            exact gO_ent (gO_mono n3 O1) i4 (gV_mono n3 (gV1_V l8)) (gV1_V n8)
          have f6 : (gq_ent (u2.1 k) i (u1.2.2.2.2.2.2.2.2.2.2.2.2.1 2) (u1.2.2.2.2.2.2.2.2.2.2.2.2.1 3) (u2.2.2.2.2.2.2.2.2.2.2.2.2.1 2) (u2.2.2.2.2.2.2.2.2.2.2.2.2.1 3)).2.2.2.2.1 6 = 0 := by
            rcases O3.d4 with h | h; exact h; omega
          have D4 : gD n0 f q m N3 pos3 ((gup u2.1 k (gq_ent (u2.1 k) i (u1.2.2.2.2.2.2.2.2.2.2.2.2.1 2) (u1.2.2.2.2.2.2.2.2.2.2.2.2.1 3) (u2.2.2.2.2.2.2.2.2.2.2.2.2.1 2) (u2.2.2.2.2.2.2.2.2.2.2.2.2.1 3)), u2.2.1, u2.2.2.1, u2.2.2.2.1, u2.2.2.2.2.1, u2.2.2.2.2.2.1, u2.2.2.2.2.2.2.1, u2.2.2.2.2.2.2.2.1, u2.2.2.2.2.2.2.2.2.1, u2.2.2.2.2.2.2.2.2.2.1, u2.2.2.2.2.2.2.2.2.2.2.1, u2.2.2.2.2.2.2.2.2.2.2.2.1, u2.2.2.2.2.2.2.2.2.2.2.2.2.1, u2.2.2.2.2.2.2.2.2.2.2.2.2.2.1, u2.2.2.2.2.2.2.2.2.2.2.2.2.2.2) : gU) ((gup x3.1 k (gp_ent (x1.1 k) i (u1.2.2.2.2.2.2.2.2.2.2.2.2.1 2) (u1.2.2.2.2.2.2.2.2.2.2.2.2.1 3) (u2.2.2.2.2.2.2.2.2.2.2.2.2.1 2) (u2.2.2.2.2.2.2.2.2.2.2.2.2.1 3)), x3.2.1, x3.2.2.1, x3.2.2.2.1, x3.2.2.2.2.1, x3.2.2.2.2.2.1, x3.2.2.2.2.2.2.1, gup x3.2.2.2.2.2.2.2.1 D (Int32.ofNat (2 * (i + 1))), x3.2.2.2.2.2.2.2.2.1, x3.2.2.2.2.2.2.2.2.2.1, x3.2.2.2.2.2.2.2.2.2.2.1, x3.2.2.2.2.2.2.2.2.2.2.2.1, x3.2.2.2.2.2.2.2.2.2.2.2.2.1, x3.2.2.2.2.2.2.2.2.2.2.2.2.2.1, x3.2.2.2.2.2.2.2.2.2.2.2.2.2.2.1, x3.2.2.2.2.2.2.2.2.2.2.2.2.2.2.2) : gX) := gD_x (gD_ob (k := k) n2 ⟨2, i + 1, O3⟩ f6) rfl rfl rfl rfl (fun _ _ _ => rfl) rfl (fun _ _ _ _ => rfl) rfl rfl
          have to4 := gTo_trans to3 (gRT_dl n1 n2.gg n5 hD14 dl3)
          have K := IH (i + 1) g ((gup u2.1 k (gq_ent (u2.1 k) i (u1.2.2.2.2.2.2.2.2.2.2.2.2.1 2) (u1.2.2.2.2.2.2.2.2.2.2.2.2.1 3) (u2.2.2.2.2.2.2.2.2.2.2.2.2.1 2) (u2.2.2.2.2.2.2.2.2.2.2.2.2.1 3)), u2.2.1, u2.2.2.1, u2.2.2.2.1, u2.2.2.2.2.1, u2.2.2.2.2.2.1, u2.2.2.2.2.2.2.1, u2.2.2.2.2.2.2.2.1, u2.2.2.2.2.2.2.2.2.1, u2.2.2.2.2.2.2.2.2.2.1, u2.2.2.2.2.2.2.2.2.2.2.1, u2.2.2.2.2.2.2.2.2.2.2.2.1, u2.2.2.2.2.2.2.2.2.2.2.2.2.1, u2.2.2.2.2.2.2.2.2.2.2.2.2.2.1, u2.2.2.2.2.2.2.2.2.2.2.2.2.2.2) : gU) ((gup x3.1 k (gp_ent (x1.1 k) i (u1.2.2.2.2.2.2.2.2.2.2.2.2.1 2) (u1.2.2.2.2.2.2.2.2.2.2.2.2.1 3) (u2.2.2.2.2.2.2.2.2.2.2.2.2.1 2) (u2.2.2.2.2.2.2.2.2.2.2.2.2.1 3)), x3.2.1, x3.2.2.1, x3.2.2.2.1, x3.2.2.2.2.1, x3.2.2.2.2.2.1, x3.2.2.2.2.2.2.1, gup x3.2.2.2.2.2.2.2.1 D (Int32.ofNat (2 * (i + 1))), x3.2.2.2.2.2.2.2.2.1, x3.2.2.2.2.2.2.2.2.2.1, x3.2.2.2.2.2.2.2.2.2.2.1, x3.2.2.2.2.2.2.2.2.2.2.2.1, x3.2.2.2.2.2.2.2.2.2.2.2.2.1, x3.2.2.2.2.2.2.2.2.2.2.2.2.2.1, x3.2.2.2.2.2.2.2.2.2.2.2.2.2.2.1, x3.2.2.2.2.2.2.2.2.2.2.2.2.2.2.2) : gX) N3 pos3 (by omega) D4 (by omega) (by show gO N3 2 (i + 1) (gup _ _ _ k) (gup _ _ _ k); rw [gup_eq, gup_eq]; exact O3) ⟨P3.1, P3.2.1, gup_eq, P3.2.2.2⟩
          have h5 : (u2.1 k).2.2.2.2.1 5 = Int32.ofNat i := by rw [u2k, uk]; exact O.ec
          have fu : gUf k u ((gup u2.1 k (gq_ent (u2.1 k) i (u1.2.2.2.2.2.2.2.2.2.2.2.2.1 2) (u1.2.2.2.2.2.2.2.2.2.2.2.2.1 3) (u2.2.2.2.2.2.2.2.2.2.2.2.2.1 2) (u2.2.2.2.2.2.2.2.2.2.2.2.2.1 3)), u2.2.1, u2.2.2.1, u2.2.2.2.1, u2.2.2.2.2.1, u2.2.2.2.2.2.1, u2.2.2.2.2.2.2.1, u2.2.2.2.2.2.2.2.1, u2.2.2.2.2.2.2.2.2.1, u2.2.2.2.2.2.2.2.2.2.1, u2.2.2.2.2.2.2.2.2.2.2.1, u2.2.2.2.2.2.2.2.2.2.2.2.1, u2.2.2.2.2.2.2.2.2.2.2.2.2.1, u2.2.2.2.2.2.2.2.2.2.2.2.2.2.1, u2.2.2.2.2.2.2.2.2.2.2.2.2.2.2) : gU) := gUf_trans (gUf_mono (gUf_trans w2 v2 l3) (by omega)) ⟨fun j hj => gup_ne (by omega), rfl, rfl, rfl, rfl, rfl, rfl, rfl⟩ (Nat.le_refl k)
          have t4 : gXf k D x ((gup x3.1 k (gp_ent (x1.1 k) i (u1.2.2.2.2.2.2.2.2.2.2.2.2.1 2) (u1.2.2.2.2.2.2.2.2.2.2.2.2.1 3) (u2.2.2.2.2.2.2.2.2.2.2.2.2.1 2) (u2.2.2.2.2.2.2.2.2.2.2.2.2.1 3)), x3.2.1, x3.2.2.1, x3.2.2.2.1, x3.2.2.2.2.1, x3.2.2.2.2.2.1, x3.2.2.2.2.2.2.1, gup x3.2.2.2.2.2.2.2.1 D (Int32.ofNat (2 * (i + 1))), x3.2.2.2.2.2.2.2.2.1, x3.2.2.2.2.2.2.2.2.2.1, x3.2.2.2.2.2.2.2.2.2.2.1, x3.2.2.2.2.2.2.2.2.2.2.2.1, x3.2.2.2.2.2.2.2.2.2.2.2.2.1, x3.2.2.2.2.2.2.2.2.2.2.2.2.2.1, x3.2.2.2.2.2.2.2.2.2.2.2.2.2.2.1, x3.2.2.2.2.2.2.2.2.2.2.2.2.2.2.2) : gX) := by
            refine gXf_trans (gXf_trans (gXf_trans t1 t2 (Nat.le_refl _) (Nat.le_refl _)) n4 (by omega) (by omega)) (D2 := D) (N2 := k) ?_ (Nat.le_refl _) (Nat.le_refl _)
            exact ⟨⟨fun j hj => gup_ne (by omega), fun _ _ => rfl, rfl, rfl, rfl, rfl⟩, fun j hj => ⟨rfl, gup_ne (by omega), rfl⟩, fun _ _ => rfl, fun _ _ => ⟨rfl, rfl, rfl⟩⟩
          refine gVal_mono (gVal_step to4 fu t4 (fun y o z => ?_) K) (by omega)
          show ((cR_readMap_11 W (g + r + 1 + 1) (some 187) (some 1) (some 163) (some (3 + 5 * k)) (Int32.ofNat (D + 1)) (Int32.ofNat c) (Int32.ofNat i) (gH u y o z)).bind _) = _
          rw [k_mapStep hk hc hic hD14 G.wr w1 v1 h5, if_pos ⟨n2.wr, by rw [u2k]; exact hn⟩]
        · exact bad u2 v1 (gUf_mono v2 l3) (fun h => by rw [n0'] at h; exact absurd h.1 i_10) x3 (gRF_mono (gTo_F to3 n1) (by omega)) (gXd_trans (gXf_trans t1 t2 (Nat.le_refl _) (Nat.le_refl _)).fd n2 (by omega))
      · obtain ⟨u2, v1, v2, v3⟩ := ih u1 x1 N1 pos1 l2 l5
        have u2k : u2.1 k = u1.1 k := v2.uC k (by omega)
        have dl : ∀ y o z, mM_deliver (some 188) (gH y x1 o z) = some (gH y ((gup x1.1 k (gp_key (x1.1 k) i (x1.2.1 35) (x1.2.1 36)), gup x1.2.1 31 0, x1.2.2.1, x1.2.2.2.1, x1.2.2.2.2.1, x1.2.2.2.2.2.1, x1.2.2.2.2.2.2.1, gup x1.2.2.2.2.2.2.2.1 D (Int32.ofNat (2 * i + 1)), x1.2.2.2.2.2.2.2.2.1, x1.2.2.2.2.2.2.2.2.2.1, x1.2.2.2.2.2.2.2.2.2.2.1, x1.2.2.2.2.2.2.2.2.2.2.2.1, x1.2.2.2.2.2.2.2.2.2.2.2.2.1, x1.2.2.2.2.2.2.2.2.2.2.2.2.2.1, x1.2.2.2.2.2.2.2.2.2.2.2.2.2.2.1, x1.2.2.2.2.2.2.2.2.2.2.2.2.2.2.2) : gX) o z) := by
          intro y o z
          rw [dl0, fnd, if_neg hn]
        refine bad u2 v1 (gUf_mono v2 l3) (fun h => hn (by have := h.2; rw [u2k] at this; exact this)) _ (gRF_mono (gTo_F (gTo_trans to (gRT_dl l1 l2.gg l5 hD14 dl)) (gRF_dead rfl)) (by omega)) (gXd_trans t1.fd (N2 := k) ⟨fun j hj => gup_ne (by omega), fun j hj => gup_ne (by omega), rfl, rfl, rfl, rfl⟩ (Nat.le_refl _))
    · exact bad u1 (fun y o z => dead u1 y o z _ l0) gUf_refl (fun h => by rw [l0] at h; exact absurd h.1 i_10) x1 (gRF_mono (gTo_F to l1) (by omega)) (gXd_trans gXd_refl l2 (by omega))
end H
end
section
/-! read: records -/
section H
variable {n0 f q m N pos : Nat} {u : gU} {x : gX} {W : gWr}
theorem gVal_endG {D k B : Nat} {u0 : gU} {x0 : gX} {F : gx_H → Option gx_H} (G : gD n0 f q m N pos u x) (hk : n0 ≤ k) (hkN : k < N) (hu : gUf k u0 u) (hx : gXf k D x0 x) (hF : ∀ y o z, F (gH u0 y o z) = some (gH ((u.1, u.2.1, u.2.2.1, u.2.2.2.1, u.2.2.2.2.1, u.2.2.2.2.2.1, u.2.2.2.2.2.2.1, u.2.2.2.2.2.2.2.1, u.2.2.2.2.2.2.2.2.1, u.2.2.2.2.2.2.2.2.2.1, u.2.2.2.2.2.2.2.2.2.2.1, u.2.2.2.2.2.2.2.2.2.2.2.1, gup (gup u.2.2.2.2.2.2.2.2.2.2.2.2.1 2 6) 3 (Int32.ofNat k), u.2.2.2.2.2.2.2.2.2.2.2.2.2.1, u.2.2.2.2.2.2.2.2.2.2.2.2.2.2) : gU) y o z)) (hr : gRT B 0 x0 ((x.1, gup (gup (gup x.2.1 18 (Int32.ofNat D)) 35 6) 36 (Int32.ofNat k), x.2.2.1, x.2.2.2.1, x.2.2.2.2.1, x.2.2.2.2.2.1, x.2.2.2.2.2.2.1, x.2.2.2.2.2.2.2.1, x.2.2.2.2.2.2.2.2.1, x.2.2.2.2.2.2.2.2.2.1, x.2.2.2.2.2.2.2.2.2.2.1, x.2.2.2.2.2.2.2.2.2.2.2.1, x.2.2.2.2.2.2.2.2.2.2.2.2.1, x.2.2.2.2.2.2.2.2.2.2.2.2.2.1, x.2.2.2.2.2.2.2.2.2.2.2.2.2.2.1, x.2.2.2.2.2.2.2.2.2.2.2.2.2.2.2) : gX)) : gVal n0 f q m D B k 0 u0 x0 F := by
  refine ⟨_, hF, gUf_trans hu gUf_r (Nat.le_refl _), Or.inl ⟨_, hr, N, pos, gD_x G rfl rfl rfl rfl (fun i a b => ?_) rfl (fun i a b c => ?_) rfl rfl, by omega, gXf_trans hx ⟨⟨fun _ _ => rfl, fun i hi => ?_, rfl, rfl, rfl, rfl⟩, fun _ _ => ⟨rfl, rfl, rfl⟩, fun _ _ => rfl, fun _ _ => ⟨rfl, rfl, rfl⟩⟩ (Nat.le_refl _) (Nat.le_refl _), rfl, rfl, rfl, ⟨6, by omega, rfl, rfl, fun _ => ⟨k, hk, hkN, rfl⟩⟩⟩⟩
  · show gup (gup u.2.2.2.2.2.2.2.2.2.2.2.2.1 2 6) 3 (Int32.ofNat k) i = _
    rw [gup_ne b, gup_ne a]
  · show gup (gup (gup x.2.1 18 (Int32.ofNat D)) 35 6) 36 (Int32.ofNat k) i = _
    rw [gup_ne c, gup_ne b, gup_ne a]
  · show gup (gup (gup x.2.1 18 (Int32.ofNat D)) 35 6) 36 (Int32.ofNat k) i = _
    rw [gup_ne (by omega), gup_ne (by omega), gup_ne (by omega)]
theorem k_recTop {D k i g : Nat} {t : Int32} {u1 : gU} (hi : i ≤ 6) (h : ∀ y o z, cR_nextUpTo (some 187) (some 163) 1 (gH u y o z) = some (t, gH u1 y o z)) : (¬ u1.2.2.2.2.2.2.2.2.2.2.2.2.1 1 = 0 → ∀ y o z, cR_readRecord_3 W (g + 1) (some 187) (some 1) (some 163) (some (3 + 5 * k)) (Int32.ofNat (D + 1)) (Int32.ofNat i) (gH u y o z) = some (gH u1 y o z)) ∧ (u1.2.2.2.2.2.2.2.2.2.2.2.2.1 1 = 0 → t = 0 → ∀ y o z, cR_readRecord_3 W (g + 1) (some 187) (some 1) (some 163) (some (3 + 5 * k)) (Int32.ofNat (D + 1)) (Int32.ofNat i) (gH u y o z) = some (gH u1 y o z)) := by
  have l6 : ¬ (6 : Int32) < Int32.ofNat i := n_nltl (n := 6) (by omega) (by omega) hi
  refine ⟨fun h1 y o z => ?_, fun h1 h2 y o z => ?_⟩
  · rw [cR_readRecord_3, if_neg l6, ho_187, Option.bind_some, h, Option.bind_some, hi_187_1, Option.bind_some, if_neg h1]
  · rw [cR_readRecord_3, if_neg l6, ho_187, Option.bind_some, h, Option.bind_some, hi_187_1, Option.bind_some, if_pos h1, if_pos h2]
theorem k_recStep {D k i g : Nat} {a : Int32} {u1 u2 u' : gU} (hk : k < 32) (hi : i ≤ 6) (hd : D < 14) (h : ∀ y o z, cR_nextUpTo (some 187) (some 163) 1 (gH u y o z) = some (1, gH u1 y o z)) (h1 : u1.2.2.2.2.2.2.2.2.2.2.2.2.1 1 = 0) (h2 : ∀ y o z, cR_nextInt (some 187) (some 163) (gH u1 y o z) = some (a, gH u2 y o z)) (w1 : ∀ y o z, W (some 187) (some 1) (some 163) (Int32.ofNat (D + 1 + 1)) (gH u2 y o z) = some (gH u' y o z)) (h5 : (u'.1 k).2.2.2.2.1 5 = Int32.ofNat i) : ∀ y o z, cR_readRecord_3 W (g + 1) (some 187) (some 1) (some 163) (some (3 + 5 * k)) (Int32.ofNat (D + 1)) (Int32.ofNat i) (gH u y o z) = if u'.2.2.2.2.2.2.2.2.2.2.2.2.1 1 = 0 ∧ gfi (fun j => decide ((u'.1 k).1 j = 4 ∧ (u'.1 k).2.1 j = a)) i 0 = none ∧ i < 6 then cR_readRecord_3 W g (some 187) (some 1) (some 163) (some (3 + 5 * k)) (Int32.ofNat (D + 1)) (Int32.ofNat (i + 1)) (gH ((gup u'.1 k (gq_ins (u'.1 k) i (gat (u'.1 k).2.1 i a) a (u'.2.2.2.2.2.2.2.2.2.2.2.2.1 2) (u'.2.2.2.2.2.2.2.2.2.2.2.2.1 3)), u'.2.1, u'.2.2.1, u'.2.2.2.1, u'.2.2.2.2.1, u'.2.2.2.2.2.1, u'.2.2.2.2.2.2.1, u'.2.2.2.2.2.2.2.1, u'.2.2.2.2.2.2.2.2.1, u'.2.2.2.2.2.2.2.2.2.1, u'.2.2.2.2.2.2.2.2.2.2.1, u'.2.2.2.2.2.2.2.2.2.2.2.1, u'.2.2.2.2.2.2.2.2.2.2.2.2.1, u'.2.2.2.2.2.2.2.2.2.2.2.2.2.1, u'.2.2.2.2.2.2.2.2.2.2.2.2.2.2) : gU) y o z) else some (gH ((u'.1, u'.2.1, u'.2.2.1, u'.2.2.2.1, u'.2.2.2.2.1, u'.2.2.2.2.2.1, u'.2.2.2.2.2.2.1, u'.2.2.2.2.2.2.2.1, u'.2.2.2.2.2.2.2.2.1, u'.2.2.2.2.2.2.2.2.2.1, u'.2.2.2.2.2.2.2.2.2.2.1, u'.2.2.2.2.2.2.2.2.2.2.2.1, gup u'.2.2.2.2.2.2.2.2.2.2.2.2.1 1 1, u'.2.2.2.2.2.2.2.2.2.2.2.2.2.1, u'.2.2.2.2.2.2.2.2.2.2.2.2.2.2) : gU) y o z) := by
  intro y o z
  have l6 : ¬ (6 : Int32) < Int32.ofNat i := n_nltl (n := 6) (by omega) (by omega) hi
  rw [cR_readRecord_3, if_neg l6, ho_187, Option.bind_some, h, Option.bind_some, hi_187_1, Option.bind_some, if_pos h1, if_neg i_10, ho_187, Option.bind_some, h2, Option.bind_some, ho_187, Option.bind_some, n_succ, w1, Option.bind_some, hi_187_1, Option.bind_some]
  by_cases c0 : u'.2.2.2.2.2.2.2.2.2.2.2.2.1 1 = 0
  · rw [if_pos c0, ho_T hk, Option.bind_some, k_index hk h5 (by omega), Option.bind_some]
    have se := fun p r => k_setProp (u := u') (x := y) (o := o) (z := z) (a := a) (kd := p) (nm := r) hk h5 hi
    cases hf : gfi (fun j => decide ((u'.1 k).1 j = 4 ∧ (u'.1 k).2.1 j = a)) i 0 with
    | none =>
      rw [hf] at se
      by_cases c6 : i < 6
      · rw [if_pos (show u'.2.2.2.2.2.2.2.2.2.2.2.2.1 1 = 0 ∧ (none : Option Nat) = none ∧ i < 6 from ⟨c0, rfl, c6⟩)]
        simp only [gio, if_true, hi_187_2, hi_187_3, Option.bind_some, ho_T hk, se, if_pos c6, if_neg i_10, n_succ]
      · rw [if_neg (show ¬ (u'.2.2.2.2.2.2.2.2.2.2.2.2.1 1 = 0 ∧ (none : Option Nat) = none ∧ i < 6) from fun h => c6 h.2.2)]
        simp only [gio, if_true, hi_187_2, hi_187_3, Option.bind_some, ho_T hk, se, if_neg c6, hp_187_1]
    | some j =>
      have hj := (gfi_some _ _ _ hf).2.1
      rw [if_neg (show ¬ (u'.2.2.2.2.2.2.2.2.2.2.2.2.1 1 = 0 ∧ some j = none ∧ i < 6) from fun h => by have := h.2.1; simp at this)]
      simp only [gio, if_neg (n_ne1 (n := j) (by omega)), hp_187_1, Option.bind_some]
  · rw [if_neg c0, if_neg (fun h => c0 h.1), hp_187_1, Option.bind_some]
theorem r_recGo {D k i c : Nat} {t : Int32} {s : Nat → Int32} (P : gPi D k i c x) (hD : D < 14) (hk : k < 32) (ht : (x.1 k).2.2.2.2.1 = Int32.ofNat 0) (hu : ∀ y o z, mM_nextUpTo (some 188) 1 (gH y x o z) = some (t, gH y ((x.1, s, x.2.2.1, x.2.2.2.1, x.2.2.2.2.1, x.2.2.2.2.2.1, x.2.2.2.2.2.2.1, x.2.2.2.2.2.2.2.1, x.2.2.2.2.2.2.2.2.1, x.2.2.2.2.2.2.2.2.2.1, x.2.2.2.2.2.2.2.2.2.2.1, x.2.2.2.2.2.2.2.2.2.2.2.1, x.2.2.2.2.2.2.2.2.2.2.2.2.1, x.2.2.2.2.2.2.2.2.2.2.2.2.2.1, x.2.2.2.2.2.2.2.2.2.2.2.2.2.2.1, x.2.2.2.2.2.2.2.2.2.2.2.2.2.2.2) : gX) o z)) (h18 : s 18 = Int32.ofNat (D + 1)) : (t = 0 → ∀ y o z, mM_goesOn (some 188) (gH y x o z) = some (2, gH y ((x.1, gup (gup (gup s 18 (Int32.ofNat D)) 35 6) 36 (Int32.ofNat k), x.2.2.1, x.2.2.2.1, x.2.2.2.2.1, x.2.2.2.2.2.1, x.2.2.2.2.2.2.1, x.2.2.2.2.2.2.2.1, x.2.2.2.2.2.2.2.2.1, x.2.2.2.2.2.2.2.2.2.1, x.2.2.2.2.2.2.2.2.2.2.1, x.2.2.2.2.2.2.2.2.2.2.2.1, x.2.2.2.2.2.2.2.2.2.2.2.2.1, x.2.2.2.2.2.2.2.2.2.2.2.2.2.1, x.2.2.2.2.2.2.2.2.2.2.2.2.2.2.1, x.2.2.2.2.2.2.2.2.2.2.2.2.2.2.2) : gX) o z)) ∧ (¬ t = 0 → ∀ y o z, mM_goesOn (some 188) (gH y x o z) = (mM_lengthy (some 188) 32 (gH y ((x.1, s, x.2.2.1, x.2.2.2.1, x.2.2.2.2.1, x.2.2.2.2.2.1, x.2.2.2.2.2.2.1, x.2.2.2.2.2.2.2.1, x.2.2.2.2.2.2.2.2.1, x.2.2.2.2.2.2.2.2.2.1, x.2.2.2.2.2.2.2.2.2.2.1, x.2.2.2.2.2.2.2.2.2.2.2.1, x.2.2.2.2.2.2.2.2.2.2.2.2.1, x.2.2.2.2.2.2.2.2.2.2.2.2.2.1, x.2.2.2.2.2.2.2.2.2.2.2.2.2.2.1, x.2.2.2.2.2.2.2.2.2.2.2.2.2.2.2) : gX) o z)).bind fun r13 => (mM_plain r13.1).bind fun v14 => (gv_gI r13.2 (some 188) 7 31).bind fun v15 => if v15 = 0 then mM_goesOn_93 (some 188) (Int32.ofNat D) (Int64.toInt32 v14) (some 188) r13.2 else (gv_gR r13.2 (some 188) 7 3).bind fun v17 => (gv_lI r13.2 v17 (Int32.ofNat k)).bind fun v18 => if v18 < (6 : Int32) then ((gv_is r13.2 (some 188) 7).bind fun _ => (mM_slotOf (some 188) (Int32.ofNat k) (Int64.toInt32 v14) r13.2).bind fun v21 => if v21 < 0 then mM_goesOn_94 (some 188) (Int32.ofNat D) (Int64.toInt32 v14) (some 188) (1 : Int32) r13.2 else mM_goesOn_93 (some 188) (Int32.ofNat D) (Int64.toInt32 v14) (some 188) r13.2) else mM_goesOn_93 (some 188) (Int32.ofNat D) (Int64.toInt32 v14) (some 188) r13.2) := by
  refine ⟨fun h y o z => ?_, fun h y o z => ?_⟩
  · rw [r_go P hD hk ht, mM_goesOn_28, if_pos (show Int32.ofNat 0 = 0 by decide), ho_188, Option.bind_some, hu, Option.bind_some, if_pos h, ho_188, Option.bind_some, r_fin (x := ((x.1, s, x.2.2.1, x.2.2.2.1, x.2.2.2.2.1, x.2.2.2.2.2.1, x.2.2.2.2.2.2.1, x.2.2.2.2.2.2.2.1, x.2.2.2.2.2.2.2.2.1, x.2.2.2.2.2.2.2.2.2.1, x.2.2.2.2.2.2.2.2.2.2.1, x.2.2.2.2.2.2.2.2.2.2.2.1, x.2.2.2.2.2.2.2.2.2.2.2.2.1, x.2.2.2.2.2.2.2.2.2.2.2.2.2.1, x.2.2.2.2.2.2.2.2.2.2.2.2.2.2.1, x.2.2.2.2.2.2.2.2.2.2.2.2.2.2.2) : gX)) h18 hk, Option.bind_some]
  · rw [r_go P hD hk ht, mM_goesOn_28, if_pos (show Int32.ofNat 0 = 0 by decide), ho_188, Option.bind_some, hu, Option.bind_some, if_neg h, ho_188, Option.bind_some]
theorem r_94 {D : Nat} {a v : Int32} (hD : D < 14) (hv : v = 0 ∨ v = 1) : ∀ y o z, mM_goesOn_94 (some 188) (Int32.ofNat D) a (some 188) v (gH y x o z) = some (1, gH y ((x.1, gup x.2.1 31 v, x.2.2.1, x.2.2.2.1, x.2.2.2.2.1, x.2.2.2.2.2.1, x.2.2.2.2.2.2.1, x.2.2.2.2.2.2.2.1, x.2.2.2.2.2.2.2.2.1, gup x.2.2.2.2.2.2.2.2.2.1 (6 * D) a, x.2.2.2.2.2.2.2.2.2.2.1, x.2.2.2.2.2.2.2.2.2.2.2.1, x.2.2.2.2.2.2.2.2.2.2.2.2.1, x.2.2.2.2.2.2.2.2.2.2.2.2.2.1, x.2.2.2.2.2.2.2.2.2.2.2.2.2.2.1, x.2.2.2.2.2.2.2.2.2.2.2.2.2.2.2) : gX) o z) := by
  intro y o z
  simp only [mM_goesOn_94, not_or, if_neg (show ¬ (¬ v = 0 ∧ ¬ v = 1) from fun h => by rcases hv with e | e; exact h.1 e; exact h.2 e), hp_188_31, Option.bind_some, hr_188_22, n_60, hb_204 (show 6 * D < 84 by omega)]
theorem r_recDl {D k i c : Nat} {a : Int32} {p' : gP} (P : gPi D k i c x) (hD : D < 14) (hk : k < 32) (ht : (x.1 k).2.2.2.2.1 = Int32.ofNat 0) (h204 : x.2.2.2.2.2.2.2.2.2.1 (6 * D) = a) (hp : ∀ y o z, mM_setProperty (some 188) (Int32.ofNat k) a (x.2.1 35) (x.2.1 36) (gH y ((x.1, x.2.1, x.2.2.1, x.2.2.2.1, x.2.2.2.2.1, x.2.2.2.2.2.1, x.2.2.2.2.2.2.1, gup x.2.2.2.2.2.2.2.1 D (Int32.ofNat (i + 1)), x.2.2.2.2.2.2.2.2.1, x.2.2.2.2.2.2.2.2.2.1, x.2.2.2.2.2.2.2.2.2.2.1, x.2.2.2.2.2.2.2.2.2.2.2.1, x.2.2.2.2.2.2.2.2.2.2.2.2.1, x.2.2.2.2.2.2.2.2.2.2.2.2.2.1, x.2.2.2.2.2.2.2.2.2.2.2.2.2.2.1, x.2.2.2.2.2.2.2.2.2.2.2.2.2.2.2) : gX) o z) = some (gH y ((gup x.1 k p', x.2.1, x.2.2.1, x.2.2.2.1, x.2.2.2.2.1, x.2.2.2.2.2.1, x.2.2.2.2.2.2.1, gup x.2.2.2.2.2.2.2.1 D (Int32.ofNat (i + 1)), x.2.2.2.2.2.2.2.2.1, x.2.2.2.2.2.2.2.2.2.1, x.2.2.2.2.2.2.2.2.2.2.1, x.2.2.2.2.2.2.2.2.2.2.2.1, x.2.2.2.2.2.2.2.2.2.2.2.2.1, x.2.2.2.2.2.2.2.2.2.2.2.2.2.1, x.2.2.2.2.2.2.2.2.2.2.2.2.2.2.1, x.2.2.2.2.2.2.2.2.2.2.2.2.2.2.2) : gX) o z)) : ∀ y o z, mM_deliver (some 188) (gH y x o z) = some (gH y ((gup x.1 k p', x.2.1, x.2.2.1, x.2.2.2.1, x.2.2.2.2.1, x.2.2.2.2.2.1, x.2.2.2.2.2.2.1, gup x.2.2.2.2.2.2.2.1 D (Int32.ofNat (i + 1)), x.2.2.2.2.2.2.2.2.1, x.2.2.2.2.2.2.2.2.2.1, x.2.2.2.2.2.2.2.2.2.2.1, x.2.2.2.2.2.2.2.2.2.2.2.1, x.2.2.2.2.2.2.2.2.2.2.2.2.1, x.2.2.2.2.2.2.2.2.2.2.2.2.2.1, x.2.2.2.2.2.2.2.2.2.2.2.2.2.2.1, x.2.2.2.2.2.2.2.2.2.2.2.2.2.2.2) : gX) o z) := by
  intro y o z
  rw [r_dl P hD hk ht]
  obtain ⟨p1, p2, p3, p4⟩ := P
  simp only [mM_deliver_28, hr_188_20, Option.bind_some, ha_202 hD, p3, hb_202 hD, n_succ, if_pos (show Int32.ofNat 0 = 0 by decide), hr_188_22, n_60, ha_204 (show 6 * D < 84 by omega), h204, hi_188_35, hi_188_36, ho_188, hp]
theorem rd_rec1 {D k B Bc Bt i g : Nat} (hD : D + 1 ≤ 12) (hk0 : n0 ≤ k) (ih : gIR n0 f q m (D + 1) B W) (dead : gDe W) (i6 : i ≤ 6) (b2 : 2 ≤ Bt) (b3 : i < 6 → 1 + B + Bc ≤ Bt ∧ 1 + B + 2 ≤ Bt) (cont : i < 6 → ∀ (u : gU) (x : gX) (N pos : Nat), gD n0 f q m N pos u x → k < N → gO N 0 (i + 1) (u.1 k) (x.1 k) → gPi D k (i + 1) 0 x → gVal n0 f q m D Bc k 0 u x (fun h => (cR_readRecord_3 W g (some 187) (some 1) (some 163) (some (3 + 5 * k)) (Int32.ofNat (D + 1)) (Int32.ofNat (i + 1)) h).bind fun h => cR_readObject_128 W (some 187) (Int32.ofNat k) h)) (G : gD n0 f q m N pos u x) (hkN : k < N) (O : gO N 0 i (u.1 k) (x.1 k)) (P : gPi D k i 0 x) : gVal n0 f q m D Bt k 0 u x (fun h => (cR_readRecord_3 W (g + 1) (some 187) (some 1) (some 163) (some (3 + 5 * k)) (Int32.ofNat (D + 1)) (Int32.ofNat i) h).bind fun h => cR_readObject_128 W (some 187) (Int32.ofNat k) h) := by
  have hD14 : D < 14 := by omega
  have hk : k < 32 := by have := G.hN; omega
  have f6 : (u.1 k).2.2.2.2.1 6 = 0 := by rcases O.d4 with h | h; exact h; omega
  have ct : (x.1 k).2.2.2.2.2.1 = Int32.ofNat i := O.ep f6
  by_cases c1 : pos < m ∧ ∃ j, j ≤ 1 ∧ u.2.2.2.2.1 pos = Int32.ofNat j
  · obtain ⟨p, t, ht, et⟩ := c1
    have D1 : gD n0 f q m N (pos + 1) (su u (pos + 1)) (sx x (pos + 1)) := gD_s G (by omega)
    have a1 := k_up (t := 1) G p ht (by omega) et
    have a2 := r_up (t := 1) G p ht (by omega) et
    have ks : gKs x.2.1 (sx x (pos + 1)).2.1 := fun j hj => gup_ne (by omega)
    obtain ⟨k1, k2⟩ := k_recTop (W := W) (D := D) (k := k) (i := i) (g := g) (t := Int32.ofNat t) (u1 := su u (pos + 1)) i6 a1
    obtain ⟨g1, g2⟩ := r_recGo (t := Int32.ofNat t) (s := (sx x (pos + 1)).2.1) P hD14 hk O.et a2 P.1
    obtain rfl | rfl : t = 0 ∨ t = 1 := by omega
    · refine gVal_mono (gVal_endG (B := 1) D1 hk0 hkN gUf_r (gXf_s ks) (fun y o z => ?_) (gRT_go2 G.gg (g1 rfl))) (by omega)
      show ((cR_readRecord_3 W (g + 1) (some 187) (some 1) (some 163) (some (3 + 5 * k)) (Int32.ofNat (D + 1)) (Int32.ofNat i) (gH u y o z)).bind _) = _
      rw [k2 D1.wr rfl, Option.bind_some, k_128]
    · have go := g2 (by decide)
      have bad : ∀ (a : Int32) (u2 u' : gU), (∀ y o z, cR_nextInt (some 187) (some 163) (gH (su u (pos + 1)) y o z) = some (a, gH u2 y o z)) → (∀ y o z, W (some 187) (some 1) (some 163) (Int32.ofNat (D + 1 + 1)) (gH u2 y o z) = some (gH u' y o z)) → gUf N u u' → ¬ (u'.2.2.2.2.2.2.2.2.2.2.2.2.1 1 = 0 ∧ gfi (fun j => decide ((u'.1 k).1 j = 4 ∧ (u'.1 k).2.1 j = a)) i 0 = none ∧ i < 6) → ∀ x', gRF Bt 0 x x' → gXd k x x' → gVal n0 f q m D Bt k 0 u x (fun h => (cR_readRecord_3 W (g + 1) (some 187) (some 1) (some 163) (some (3 + 5 * k)) (Int32.ofNat (D + 1)) (Int32.ofNat i) h).bind fun h => cR_readObject_128 W (some 187) (Int32.ofNat k) h) := by
        intro a u2 u' v1 v2 v3 h x' h1 h2
        have h5 : (u'.1 k).2.2.2.2.1 5 = Int32.ofNat i := by rw [v3.uC k hkN]; exact O.ec
        refine gVal_bad (u' := ((u'.1, u'.2.1, u'.2.2.1, u'.2.2.2.1, u'.2.2.2.2.1, u'.2.2.2.2.2.1, u'.2.2.2.2.2.2.1, u'.2.2.2.2.2.2.2.1, u'.2.2.2.2.2.2.2.2.1, u'.2.2.2.2.2.2.2.2.2.1, u'.2.2.2.2.2.2.2.2.2.2.1, u'.2.2.2.2.2.2.2.2.2.2.2.1, gup (gup (gup u'.2.2.2.2.2.2.2.2.2.2.2.2.1 1 1) 2 6) 3 (Int32.ofNat k), u'.2.2.2.2.2.2.2.2.2.2.2.2.2.1, u'.2.2.2.2.2.2.2.2.2.2.2.2.2.2) : gU)) (fun y o z => ?_) (gUf_trans (gUf_mono v3 (by omega)) gUf_r (Nat.le_refl k)) rfl h1 h2
        show ((cR_readRecord_3 W (g + 1) (some 187) (some 1) (some 163) (some (3 + 5 * k)) (Int32.ofNat (D + 1)) (Int32.ofNat i) (gH u y o z)).bind _) = _
        rw [k_recStep hk i6 hD14 a1 D1.wr v1 v2 h5, if_neg h, Option.bind_some, k_128]
      rcases d_int D1 with ⟨a, b, r, s, pos2, e1, e2, e3, D2, e5, e6, e7⟩ | ⟨a, b, r, s, e1, e2, e3, e4, e5⟩
      · have e2 : ∀ y o z, mM_lengthy (some 188) 32 (gH y ((x.1, (sx x (pos + 1)).2.1, x.2.2.1, x.2.2.2.1, x.2.2.2.2.1, x.2.2.2.2.2.1, x.2.2.2.2.2.2.1, x.2.2.2.2.2.2.2.1, x.2.2.2.2.2.2.2.2.1, x.2.2.2.2.2.2.2.2.2.1, x.2.2.2.2.2.2.2.2.2.2.1, x.2.2.2.2.2.2.2.2.2.2.2.1, x.2.2.2.2.2.2.2.2.2.2.2.2.1, x.2.2.2.2.2.2.2.2.2.2.2.2.2.1, x.2.2.2.2.2.2.2.2.2.2.2.2.2.2.1, x.2.2.2.2.2.2.2.2.2.2.2.2.2.2.2) : gX) o z) = some (b, gH y ((x.1, s, x.2.2.1, x.2.2.2.1, x.2.2.2.2.1, x.2.2.2.2.2.1, x.2.2.2.2.2.2.1, x.2.2.2.2.2.2.2.1, x.2.2.2.2.2.2.2.2.1, x.2.2.2.2.2.2.2.2.2.1, x.2.2.2.2.2.2.2.2.2.2.1, x.2.2.2.2.2.2.2.2.2.2.2.1, x.2.2.2.2.2.2.2.2.2.2.2.2.1, x.2.2.2.2.2.2.2.2.2.2.2.2.2.1, x.2.2.2.2.2.2.2.2.2.2.2.2.2.2.1, x.2.2.2.2.2.2.2.2.2.2.2.2.2.2.2) : gX) o z) := e2
        have ks2 : gKs x.2.1 s := gKs_trans ks e5
        have s31 : s 31 = 1 := D2.gg
        have sl := fun (y : gU) (o : Nat → Int64) (z : gx_H) => r_slot (u := y) (x := ((x.1, s, x.2.2.1, x.2.2.2.1, x.2.2.2.2.1, x.2.2.2.2.2.1, x.2.2.2.2.2.2.1, x.2.2.2.2.2.2.2.1, x.2.2.2.2.2.2.2.2.1, x.2.2.2.2.2.2.2.2.2.1, x.2.2.2.2.2.2.2.2.2.2.1, x.2.2.2.2.2.2.2.2.2.2.2.1, x.2.2.2.2.2.2.2.2.2.2.2.2.1, x.2.2.2.2.2.2.2.2.2.2.2.2.2.1, x.2.2.2.2.2.2.2.2.2.2.2.2.2.2.1, x.2.2.2.2.2.2.2.2.2.2.2.2.2.2.2) : gX)) (o := o) (z := z) (b := Int64.toInt32 (gzz b)) hk ct (show i ≤ 8 by omega)
        have go2 : ∀ y o z, mM_goesOn (some 188) (gH y x o z) = mM_goesOn_94 (some 188) (Int32.ofNat D) a (some 188) (if i < 6 ∧ gfi (fun j => decide ((x.1 k).2.1 j = a)) i 0 = none then 1 else 0) (gH y ((x.1, s, x.2.2.1, x.2.2.2.1, x.2.2.2.2.1, x.2.2.2.2.2.1, x.2.2.2.2.2.2.1, x.2.2.2.2.2.2.2.1, x.2.2.2.2.2.2.2.2.1, x.2.2.2.2.2.2.2.2.2.1, x.2.2.2.2.2.2.2.2.2.2.1, x.2.2.2.2.2.2.2.2.2.2.2.1, x.2.2.2.2.2.2.2.2.2.2.2.2.1, x.2.2.2.2.2.2.2.2.2.2.2.2.2.1, x.2.2.2.2.2.2.2.2.2.2.2.2.2.2.1, x.2.2.2.2.2.2.2.2.2.2.2.2.2.2.2) : gX) o z) := by
          intro y o z
          rw [go, e2, Option.bind_some, m_plain, Option.bind_some, hi_188_31, Option.bind_some, if_neg (show ¬ s 31 = 0 by rw [s31]; exact i_10), hr_188_3, Option.bind_some, ha_190 hk, Option.bind_some]
          show (if (x.1 k).2.2.2.2.2.1 < 6 then _ else _) = _
          rw [ct]
          by_cases c6 : i < 6
          · rw [if_pos (show Int32.ofNat i < 6 from n_ltl (m := 6) (by omega) (by omega) c6), ho_188, Option.bind_some]
            show ((mM_slotOf (some 188) (Int32.ofNat k) (Int64.toInt32 (gzz b)) (gH y ((x.1, s, x.2.2.1, x.2.2.2.1, x.2.2.2.2.1, x.2.2.2.2.2.1, x.2.2.2.2.2.2.1, x.2.2.2.2.2.2.2.1, x.2.2.2.2.2.2.2.2.1, x.2.2.2.2.2.2.2.2.2.1, x.2.2.2.2.2.2.2.2.2.2.1, x.2.2.2.2.2.2.2.2.2.2.2.1, x.2.2.2.2.2.2.2.2.2.2.2.2.1, x.2.2.2.2.2.2.2.2.2.2.2.2.2.1, x.2.2.2.2.2.2.2.2.2.2.2.2.2.2.1, x.2.2.2.2.2.2.2.2.2.2.2.2.2.2.2) : gX) o z)).bind _) = _
            rw [sl, Option.bind_some, e3]
            cases hf : gfi (fun j => decide ((x.1 k).2.1 j = Int64.toInt32 (gzz b))) i 0 with
            | none =>
              rw [if_pos (show i < 6 ∧ (none : Option Nat) = none from ⟨c6, rfl⟩)]
              exact if_pos (show (-1 : Int32) < 0 by decide)
            | some j =>
              have hj := (gfi_some _ _ _ hf).2.1
              rw [if_neg (show ¬ (i < 6 ∧ some j = none) from fun h => by have := h.2; simp at this)]
              exact if_neg (gis_neg (by omega))
          · rw [if_neg (show ¬ Int32.ofNat i < 6 from n_nltl (m := 6) (by omega) (by omega) (by omega)), if_neg (fun h => c6 h.1), e3]
            rfl
        have fu2 : gUf N u (((su u (pos + 1)).1, (su u (pos + 1)).2.1, (su u (pos + 1)).2.2.1, (su u (pos + 1)).2.2.2.1, (su u (pos + 1)).2.2.2.2.1, (su u (pos + 1)).2.2.2.2.2.1, (su u (pos + 1)).2.2.2.2.2.2.1, (su u (pos + 1)).2.2.2.2.2.2.2.1, (su u (pos + 1)).2.2.2.2.2.2.2.2.1, (su u (pos + 1)).2.2.2.2.2.2.2.2.2.1, (su u (pos + 1)).2.2.2.2.2.2.2.2.2.2.1, (su u (pos + 1)).2.2.2.2.2.2.2.2.2.2.2.1, r, (su u (pos + 1)).2.2.2.2.2.2.2.2.2.2.2.2.2.1, (su u (pos + 1)).2.2.2.2.2.2.2.2.2.2.2.2.2.2) : gU) := gUf_r
        by_cases ok : i < 6 ∧ gfi (fun j => decide ((x.1 k).2.1 j = a)) i 0 = none
        · have go3 : ∀ y o z, mM_goesOn (some 188) (gH y x o z) = some (1, gH y ((x.1, s, x.2.2.1, x.2.2.2.1, x.2.2.2.2.1, x.2.2.2.2.2.1, x.2.2.2.2.2.2.1, x.2.2.2.2.2.2.2.1, x.2.2.2.2.2.2.2.2.1, gup x.2.2.2.2.2.2.2.2.2.1 (6 * D) a, x.2.2.2.2.2.2.2.2.2.2.1, x.2.2.2.2.2.2.2.2.2.2.2.1, x.2.2.2.2.2.2.2.2.2.2.2.2.1, x.2.2.2.2.2.2.2.2.2.2.2.2.2.1, x.2.2.2.2.2.2.2.2.2.2.2.2.2.2.1, x.2.2.2.2.2.2.2.2.2.2.2.2.2.2.2) : gX) o z) := by
            intro y o z
            rw [go2, if_pos ok, r_94 hD14 (Or.inr rfl)]
            show some (1, gH y ((x.1, gup s 31 1, x.2.2.1, x.2.2.2.1, x.2.2.2.2.1, x.2.2.2.2.2.1, x.2.2.2.2.2.2.1, x.2.2.2.2.2.2.2.1, x.2.2.2.2.2.2.2.2.1, gup x.2.2.2.2.2.2.2.2.2.1 (6 * D) a, x.2.2.2.2.2.2.2.2.2.2.1, x.2.2.2.2.2.2.2.2.2.2.2.1, x.2.2.2.2.2.2.2.2.2.2.2.2.1, x.2.2.2.2.2.2.2.2.2.2.2.2.2.1, x.2.2.2.2.2.2.2.2.2.2.2.2.2.2.1, x.2.2.2.2.2.2.2.2.2.2.2.2.2.2.2) : gX) o z) = _
            rw [gup_same s31]
          have to := gTo_go1 G.gg go3
          have D3 : gD n0 f q m N pos2 (((su u (pos + 1)).1, (su u (pos + 1)).2.1, (su u (pos + 1)).2.2.1, (su u (pos + 1)).2.2.2.1, (su u (pos + 1)).2.2.2.2.1, (su u (pos + 1)).2.2.2.2.2.1, (su u (pos + 1)).2.2.2.2.2.2.1, (su u (pos + 1)).2.2.2.2.2.2.2.1, (su u (pos + 1)).2.2.2.2.2.2.2.2.1, (su u (pos + 1)).2.2.2.2.2.2.2.2.2.1, (su u (pos + 1)).2.2.2.2.2.2.2.2.2.2.1, (su u (pos + 1)).2.2.2.2.2.2.2.2.2.2.2.1, r, (su u (pos + 1)).2.2.2.2.2.2.2.2.2.2.2.2.2.1, (su u (pos + 1)).2.2.2.2.2.2.2.2.2.2.2.2.2.2) : gU) ((x.1, s, x.2.2.1, x.2.2.2.1, x.2.2.2.2.1, x.2.2.2.2.2.1, x.2.2.2.2.2.2.1, x.2.2.2.2.2.2.2.1, x.2.2.2.2.2.2.2.2.1, gup x.2.2.2.2.2.2.2.2.2.1 (6 * D) a, x.2.2.2.2.2.2.2.2.2.2.1, x.2.2.2.2.2.2.2.2.2.2.2.1, x.2.2.2.2.2.2.2.2.2.2.2.2.1, x.2.2.2.2.2.2.2.2.2.2.2.2.2.1, x.2.2.2.2.2.2.2.2.2.2.2.2.2.2.1, x.2.2.2.2.2.2.2.2.2.2.2.2.2.2.2) : gX) := gD_x D2 rfl rfl rfl rfl (fun _ _ _ => rfl) rfl (fun _ _ _ _ => rfl) rfl rfl
          have t1 : gXf k D x ((x.1, s, x.2.2.1, x.2.2.2.1, x.2.2.2.2.1, x.2.2.2.2.2.1, x.2.2.2.2.2.2.1, x.2.2.2.2.2.2.2.1, x.2.2.2.2.2.2.2.2.1, gup x.2.2.2.2.2.2.2.2.2.1 (6 * D) a, x.2.2.2.2.2.2.2.2.2.2.1, x.2.2.2.2.2.2.2.2.2.2.2.1, x.2.2.2.2.2.2.2.2.2.2.2.2.1, x.2.2.2.2.2.2.2.2.2.2.2.2.2.1, x.2.2.2.2.2.2.2.2.2.2.2.2.2.2.1, x.2.2.2.2.2.2.2.2.2.2.2.2.2.2.2) : gX) := ⟨⟨fun _ _ => rfl, fun j hj => ks2 j (by omega), rfl, rfl, rfl, rfl⟩, fun _ _ => ⟨rfl, rfl, rfl⟩, fun j hj => gup_ne (by omega), fun _ _ => ⟨rfl, rfl, rfl⟩⟩
          have P3 : gPi D k i 0 ((x.1, s, x.2.2.1, x.2.2.2.1, x.2.2.2.2.1, x.2.2.2.2.2.1, x.2.2.2.2.2.2.1, x.2.2.2.2.2.2.2.1, x.2.2.2.2.2.2.2.2.1, gup x.2.2.2.2.2.2.2.2.2.1 (6 * D) a, x.2.2.2.2.2.2.2.2.2.2.1, x.2.2.2.2.2.2.2.2.2.2.2.1, x.2.2.2.2.2.2.2.2.2.2.2.2.1, x.2.2.2.2.2.2.2.2.2.2.2.2.2.1, x.2.2.2.2.2.2.2.2.2.2.2.2.2.2.1, x.2.2.2.2.2.2.2.2.2.2.2.2.2.2.2) : gX) := ⟨(ks2 18 (by omega)).trans P.1, P.2.1, P.2.2.1, P.2.2.2⟩
          have e204 : (((x.1, s, x.2.2.1, x.2.2.2.1, x.2.2.2.2.1, x.2.2.2.2.2.1, x.2.2.2.2.2.2.1, x.2.2.2.2.2.2.2.1, x.2.2.2.2.2.2.2.2.1, gup x.2.2.2.2.2.2.2.2.2.1 (6 * D) a, x.2.2.2.2.2.2.2.2.2.2.1, x.2.2.2.2.2.2.2.2.2.2.2.1, x.2.2.2.2.2.2.2.2.2.2.2.2.1, x.2.2.2.2.2.2.2.2.2.2.2.2.2.1, x.2.2.2.2.2.2.2.2.2.2.2.2.2.2.1, x.2.2.2.2.2.2.2.2.2.2.2.2.2.2.2) : gX) : gX).2.2.2.2.2.2.2.2.2.1 (6 * D) = a := gup_eq
          have eR : (((x.1, s, x.2.2.1, x.2.2.2.1, x.2.2.2.2.1, x.2.2.2.2.2.1, x.2.2.2.2.2.2.1, x.2.2.2.2.2.2.2.1, x.2.2.2.2.2.2.2.2.1, gup x.2.2.2.2.2.2.2.2.2.1 (6 * D) a, x.2.2.2.2.2.2.2.2.2.2.1, x.2.2.2.2.2.2.2.2.2.2.2.1, x.2.2.2.2.2.2.2.2.2.2.2.2.1, x.2.2.2.2.2.2.2.2.2.2.2.2.2.1, x.2.2.2.2.2.2.2.2.2.2.2.2.2.2.1, x.2.2.2.2.2.2.2.2.2.2.2.2.2.2.2) : gX) : gX).1 k = x.1 k := rfl
          generalize (((x.1, s, x.2.2.1, x.2.2.2.1, x.2.2.2.2.1, x.2.2.2.2.2.1, x.2.2.2.2.2.2.1, x.2.2.2.2.2.2.2.1, x.2.2.2.2.2.2.2.2.1, gup x.2.2.2.2.2.2.2.2.2.1 (6 * D) a, x.2.2.2.2.2.2.2.2.2.2.1, x.2.2.2.2.2.2.2.2.2.2.2.1, x.2.2.2.2.2.2.2.2.2.2.2.2.1, x.2.2.2.2.2.2.2.2.2.2.2.2.2.1, x.2.2.2.2.2.2.2.2.2.2.2.2.2.2.1, x.2.2.2.2.2.2.2.2.2.2.2.2.2.2.2) : gX) : gX) = x3 at to D3 t1 P3 e204 eR
          obtain ⟨u', w1, w2, w3⟩ := ih (((su u (pos + 1)).1, (su u (pos + 1)).2.1, (su u (pos + 1)).2.2.1, (su u (pos + 1)).2.2.2.1, (su u (pos + 1)).2.2.2.2.1, (su u (pos + 1)).2.2.2.2.2.1, (su u (pos + 1)).2.2.2.2.2.2.1, (su u (pos + 1)).2.2.2.2.2.2.2.1, (su u (pos + 1)).2.2.2.2.2.2.2.2.1, (su u (pos + 1)).2.2.2.2.2.2.2.2.2.1, (su u (pos + 1)).2.2.2.2.2.2.2.2.2.2.1, (su u (pos + 1)).2.2.2.2.2.2.2.2.2.2.2.1, r, (su u (pos + 1)).2.2.2.2.2.2.2.2.2.2.2.2.2.1, (su u (pos + 1)).2.2.2.2.2.2.2.2.2.2.2.2.2.2) : gU) x3 N pos2 D3 P3.1
          have uk : u'.1 k = u.1 k := w2.uC k hkN
          have fu : gUf N u u' := gUf_trans fu2 w2 (Nat.le_refl _)
          rcases w3 with ⟨x', l1, N', pos', l2, l3, l4, l5, l6, l7, l8⟩ | ⟨l0, x', l1, l2⟩
          · have xk : x'.1 k = x.1 k := (l4.fd.dR k hkN).trans eR
            have O' : gO N' 0 i (u'.1 k) (x'.1 k) := by rw [uk, xk]; exact gO_mono l3 O
            obtain ⟨q1, q2, q3⟩ := l4.f1 D (by omega)
            have P' : gPi D k i 0 x' := ⟨l5, q1.trans P3.2.1, q2.trans P3.2.2.1, q3.trans P3.2.2.2⟩
            have e4 : gcn (x'.2.1 35) (x'.2.1 36) = u'.2.2.2.2.2.2.2.2.2.2.2.2.1 3 := by rw [l6, l7]; exact gV1_cn l8
            have hn : gfi (fun j => decide ((u'.1 k).1 j = 4 ∧ (u'.1 k).2.1 j = a)) i 0 = none := by
              rw [rec_find O', xk]; exact ok.2
            have dl : ∀ y o z, mM_deliver (some 188) (gH y x' o z) = some (gH y ((gup x'.1 k (gp_ins (x'.1 k) i (gat (u'.1 k).2.1 i a) a (u'.2.2.2.2.2.2.2.2.2.2.2.2.1 2) (u'.2.2.2.2.2.2.2.2.2.2.2.2.1 3)), x'.2.1, x'.2.2.1, x'.2.2.2.1, x'.2.2.2.2.1, x'.2.2.2.2.2.1, x'.2.2.2.2.2.2.1, gup x'.2.2.2.2.2.2.2.1 D (Int32.ofNat (i + 1)), x'.2.2.2.2.2.2.2.2.1, x'.2.2.2.2.2.2.2.2.2.1, x'.2.2.2.2.2.2.2.2.2.2.1, x'.2.2.2.2.2.2.2.2.2.2.2.1, x'.2.2.2.2.2.2.2.2.2.2.2.2.1, x'.2.2.2.2.2.2.2.2.2.2.2.2.2.1, x'.2.2.2.2.2.2.2.2.2.2.2.2.2.2.1, x'.2.2.2.2.2.2.2.2.2.2.2.2.2.2.2) : gX) o z) := by
              refine r_recDl P' hD14 hk O'.et ((l4.f4 (6 * D) (by omega)).trans e204) (fun y o z => ?_)
              have := r_setProp (x := ((x'.1, x'.2.1, x'.2.2.1, x'.2.2.2.1, x'.2.2.2.2.1, x'.2.2.2.2.2.1, x'.2.2.2.2.2.2.1, gup x'.2.2.2.2.2.2.2.1 D (Int32.ofNat (i + 1)), x'.2.2.2.2.2.2.2.2.1, x'.2.2.2.2.2.2.2.2.2.1, x'.2.2.2.2.2.2.2.2.2.2.1, x'.2.2.2.2.2.2.2.2.2.2.2.1, x'.2.2.2.2.2.2.2.2.2.2.2.2.1, x'.2.2.2.2.2.2.2.2.2.2.2.2.2.1, x'.2.2.2.2.2.2.2.2.2.2.2.2.2.2.1, x'.2.2.2.2.2.2.2.2.2.2.2.2.2.2.2) : gX)) (a := a) (kd := x'.2.1 35) (nm := x'.2.1 36) (q := u'.1 k) hk O' y o z
              rw [hn, e4] at this
              rw [this, l6]
            have nf := gfi_none _ _ hn
            have O2 : gO N' 0 (i + 1) (gq_ins (u'.1 k) i (gat (u'.1 k).2.1 i a) a (u'.2.2.2.2.2.2.2.2.2.2.2.2.1 2) (u'.2.2.2.2.2.2.2.2.2.2.2.2.1 3)) (gp_ins (x'.1 k) i (gat (u'.1 k).2.1 i a) a (u'.2.2.2.2.2.2.2.2.2.2.2.2.1 2) (u'.2.2.2.2.2.2.2.2.2.2.2.2.1 3)) := gO_ins O' ok.1 (fun j hj e => by
              have := nf j (by omega) (by omega)
              simp only [decide_eq_false_iff_not, not_and] at this
              exact this (O'.k4 rfl j hj) e) (gV1_V l8)
            have D4 : gD n0 f q m N' pos' ((gup u'.1 k (gq_ins (u'.1 k) i (gat (u'.1 k).2.1 i a) a (u'.2.2.2.2.2.2.2.2.2.2.2.2.1 2) (u'.2.2.2.2.2.2.2.2.2.2.2.2.1 3)), u'.2.1, u'.2.2.1, u'.2.2.2.1, u'.2.2.2.2.1, u'.2.2.2.2.2.1, u'.2.2.2.2.2.2.1, u'.2.2.2.2.2.2.2.1, u'.2.2.2.2.2.2.2.2.1, u'.2.2.2.2.2.2.2.2.2.1, u'.2.2.2.2.2.2.2.2.2.2.1, u'.2.2.2.2.2.2.2.2.2.2.2.1, u'.2.2.2.2.2.2.2.2.2.2.2.2.1, u'.2.2.2.2.2.2.2.2.2.2.2.2.2.1, u'.2.2.2.2.2.2.2.2.2.2.2.2.2.2) : gU) ((gup x'.1 k (gp_ins (x'.1 k) i (gat (u'.1 k).2.1 i a) a (u'.2.2.2.2.2.2.2.2.2.2.2.2.1 2) (u'.2.2.2.2.2.2.2.2.2.2.2.2.1 3)), x'.2.1, x'.2.2.1, x'.2.2.2.1, x'.2.2.2.2.1, x'.2.2.2.2.2.1, x'.2.2.2.2.2.2.1, gup x'.2.2.2.2.2.2.2.1 D (Int32.ofNat (i + 1)), x'.2.2.2.2.2.2.2.2.1, x'.2.2.2.2.2.2.2.2.2.1, x'.2.2.2.2.2.2.2.2.2.2.1, x'.2.2.2.2.2.2.2.2.2.2.2.1, x'.2.2.2.2.2.2.2.2.2.2.2.2.1, x'.2.2.2.2.2.2.2.2.2.2.2.2.2.1, x'.2.2.2.2.2.2.2.2.2.2.2.2.2.2.1, x'.2.2.2.2.2.2.2.2.2.2.2.2.2.2.2) : gX) := gD_x (gD_ob (k := k) l2 ⟨0, i + 1, O2⟩ (by rcases O2.d4 with h | h; exact h; omega)) rfl rfl rfl rfl (fun _ _ _ => rfl) rfl (fun _ _ _ _ => rfl) rfl rfl
            have to2 := gTo_trans to (gRT_dl l1 l2.gg l5 hD14 dl)
            have K := cont ok.1 ((gup u'.1 k (gq_ins (u'.1 k) i (gat (u'.1 k).2.1 i a) a (u'.2.2.2.2.2.2.2.2.2.2.2.2.1 2) (u'.2.2.2.2.2.2.2.2.2.2.2.2.1 3)), u'.2.1, u'.2.2.1, u'.2.2.2.1, u'.2.2.2.2.1, u'.2.2.2.2.2.1, u'.2.2.2.2.2.2.1, u'.2.2.2.2.2.2.2.1, u'.2.2.2.2.2.2.2.2.1, u'.2.2.2.2.2.2.2.2.2.1, u'.2.2.2.2.2.2.2.2.2.2.1, u'.2.2.2.2.2.2.2.2.2.2.2.1, u'.2.2.2.2.2.2.2.2.2.2.2.2.1, u'.2.2.2.2.2.2.2.2.2.2.2.2.2.1, u'.2.2.2.2.2.2.2.2.2.2.2.2.2.2) : gU) ((gup x'.1 k (gp_ins (x'.1 k) i (gat (u'.1 k).2.1 i a) a (u'.2.2.2.2.2.2.2.2.2.2.2.2.1 2) (u'.2.2.2.2.2.2.2.2.2.2.2.2.1 3)), x'.2.1, x'.2.2.1, x'.2.2.2.1, x'.2.2.2.2.1, x'.2.2.2.2.2.1, x'.2.2.2.2.2.2.1, gup x'.2.2.2.2.2.2.2.1 D (Int32.ofNat (i + 1)), x'.2.2.2.2.2.2.2.2.1, x'.2.2.2.2.2.2.2.2.2.1, x'.2.2.2.2.2.2.2.2.2.2.1, x'.2.2.2.2.2.2.2.2.2.2.2.1, x'.2.2.2.2.2.2.2.2.2.2.2.2.1, x'.2.2.2.2.2.2.2.2.2.2.2.2.2.1, x'.2.2.2.2.2.2.2.2.2.2.2.2.2.2.1, x'.2.2.2.2.2.2.2.2.2.2.2.2.2.2.2) : gX) N' pos' D4 (by omega) (by show gO N' 0 (i + 1) (gup _ _ _ k) (gup _ _ _ k); rw [gup_eq, gup_eq]; exact O2) ⟨P'.1, P'.2.1, gup_eq, P'.2.2.2⟩
            have h5 : (u'.1 k).2.2.2.2.1 5 = Int32.ofNat i := by rw [uk]; exact O.ec
            have fu4 : gUf k u ((gup u'.1 k (gq_ins (u'.1 k) i (gat (u'.1 k).2.1 i a) a (u'.2.2.2.2.2.2.2.2.2.2.2.2.1 2) (u'.2.2.2.2.2.2.2.2.2.2.2.2.1 3)), u'.2.1, u'.2.2.1, u'.2.2.2.1, u'.2.2.2.2.1, u'.2.2.2.2.2.1, u'.2.2.2.2.2.2.1, u'.2.2.2.2.2.2.2.1, u'.2.2.2.2.2.2.2.2.1, u'.2.2.2.2.2.2.2.2.2.1, u'.2.2.2.2.2.2.2.2.2.2.1, u'.2.2.2.2.2.2.2.2.2.2.2.1, u'.2.2.2.2.2.2.2.2.2.2.2.2.1, u'.2.2.2.2.2.2.2.2.2.2.2.2.2.1, u'.2.2.2.2.2.2.2.2.2.2.2.2.2.2) : gU) := gUf_trans (gUf_mono fu (by omega)) ⟨fun j hj => gup_ne (by omega), rfl, rfl, rfl, rfl, rfl, rfl, rfl⟩ (Nat.le_refl k)
            have t4 : gXf k D x ((gup x'.1 k (gp_ins (x'.1 k) i (gat (u'.1 k).2.1 i a) a (u'.2.2.2.2.2.2.2.2.2.2.2.2.1 2) (u'.2.2.2.2.2.2.2.2.2.2.2.2.1 3)), x'.2.1, x'.2.2.1, x'.2.2.2.1, x'.2.2.2.2.1, x'.2.2.2.2.2.1, x'.2.2.2.2.2.2.1, gup x'.2.2.2.2.2.2.2.1 D (Int32.ofNat (i + 1)), x'.2.2.2.2.2.2.2.2.1, x'.2.2.2.2.2.2.2.2.2.1, x'.2.2.2.2.2.2.2.2.2.2.1, x'.2.2.2.2.2.2.2.2.2.2.2.1, x'.2.2.2.2.2.2.2.2.2.2.2.2.1, x'.2.2.2.2.2.2.2.2.2.2.2.2.2.1, x'.2.2.2.2.2.2.2.2.2.2.2.2.2.2.1, x'.2.2.2.2.2.2.2.2.2.2.2.2.2.2.2) : gX) := by
              refine gXf_trans (gXf_trans t1 l4 (by omega) (by omega)) (D2 := D) (N2 := k) ?_ (Nat.le_refl _) (Nat.le_refl _)
              exact ⟨⟨fun j hj => gup_ne (by omega), fun _ _ => rfl, rfl, rfl, rfl, rfl⟩, fun j hj => ⟨rfl, gup_ne (by omega), rfl⟩, fun _ _ => rfl, fun _ _ => ⟨rfl, rfl, rfl⟩⟩
            refine gVal_mono (gVal_step to2 fu4 t4 (fun y o z => ?_) K) (b3 ok.1).1
            show ((cR_readRecord_3 W (g + 1) (some 187) (some 1) (some 163) (some (3 + 5 * k)) (Int32.ofNat (D + 1)) (Int32.ofNat i) (gH u y o z)).bind _) = _
            rw [k_recStep hk i6 hD14 a1 D1.wr e1 w1 h5, if_pos ⟨l2.wr, hn, ok.1⟩]
          · have := b3 ok.1
            exact bad a _ u' e1 w1 fu (fun h => by rw [l0] at h; exact absurd h.1 i_10) x' (gRF_mono (gTo_F to l1) (by omega)) (gXd_trans t1.fd l2 (by omega))
        · obtain ⟨u', w1, w2, w3⟩ := ih (((su u (pos + 1)).1, (su u (pos + 1)).2.1, (su u (pos + 1)).2.2.1, (su u (pos + 1)).2.2.2.1, (su u (pos + 1)).2.2.2.2.1, (su u (pos + 1)).2.2.2.2.2.1, (su u (pos + 1)).2.2.2.2.2.2.1, (su u (pos + 1)).2.2.2.2.2.2.2.1, (su u (pos + 1)).2.2.2.2.2.2.2.2.1, (su u (pos + 1)).2.2.2.2.2.2.2.2.2.1, (su u (pos + 1)).2.2.2.2.2.2.2.2.2.2.1, (su u (pos + 1)).2.2.2.2.2.2.2.2.2.2.2.1, r, (su u (pos + 1)).2.2.2.2.2.2.2.2.2.2.2.2.2.1, (su u (pos + 1)).2.2.2.2.2.2.2.2.2.2.2.2.2.2) : gU) ((x.1, s, x.2.2.1, x.2.2.2.1, x.2.2.2.2.1, x.2.2.2.2.2.1, x.2.2.2.2.2.2.1, x.2.2.2.2.2.2.2.1, x.2.2.2.2.2.2.2.2.1, x.2.2.2.2.2.2.2.2.2.1, x.2.2.2.2.2.2.2.2.2.2.1, x.2.2.2.2.2.2.2.2.2.2.2.1, x.2.2.2.2.2.2.2.2.2.2.2.2.1, x.2.2.2.2.2.2.2.2.2.2.2.2.2.1, x.2.2.2.2.2.2.2.2.2.2.2.2.2.2.1, x.2.2.2.2.2.2.2.2.2.2.2.2.2.2.2) : gX) N pos2 D2 ((ks2 18 (by omega)).trans P.1)
          have uk : u'.1 k = u.1 k := w2.uC k hkN
          have go3 : ∀ y o z, mM_goesOn (some 188) (gH y x o z) = some (1, gH y ((x.1, gup s 31 0, x.2.2.1, x.2.2.2.1, x.2.2.2.2.1, x.2.2.2.2.2.1, x.2.2.2.2.2.2.1, x.2.2.2.2.2.2.2.1, x.2.2.2.2.2.2.2.2.1, gup x.2.2.2.2.2.2.2.2.2.1 (6 * D) a, x.2.2.2.2.2.2.2.2.2.2.1, x.2.2.2.2.2.2.2.2.2.2.2.1, x.2.2.2.2.2.2.2.2.2.2.2.2.1, x.2.2.2.2.2.2.2.2.2.2.2.2.2.1, x.2.2.2.2.2.2.2.2.2.2.2.2.2.2.1, x.2.2.2.2.2.2.2.2.2.2.2.2.2.2.2) : gX) o z) := by
            intro y o z
            rw [go2, if_neg ok, r_94 hD14 (Or.inl rfl)]
          refine bad a _ u' e1 w1 (gUf_trans fu2 w2 (Nat.le_refl _)) (fun h => ok ⟨h.2.2, ?_⟩) _ (gRF_mono (gRF_go G.gg go3 rfl) b2) ⟨fun _ _ => rfl, fun j hj => (gup_ne (by omega)).trans (ks2 j (by omega)), rfl, rfl, rfl, rfl⟩
          have := h.2.1
          rw [uk, rec_find O] at this
          exact this
      · have e2 : ∀ y o z, mM_lengthy (some 188) 32 (gH y ((x.1, (sx x (pos + 1)).2.1, x.2.2.1, x.2.2.2.1, x.2.2.2.2.1, x.2.2.2.2.2.1, x.2.2.2.2.2.2.1, x.2.2.2.2.2.2.2.1, x.2.2.2.2.2.2.2.2.1, x.2.2.2.2.2.2.2.2.2.1, x.2.2.2.2.2.2.2.2.2.2.1, x.2.2.2.2.2.2.2.2.2.2.2.1, x.2.2.2.2.2.2.2.2.2.2.2.2.1, x.2.2.2.2.2.2.2.2.2.2.2.2.2.1, x.2.2.2.2.2.2.2.2.2.2.2.2.2.2.1, x.2.2.2.2.2.2.2.2.2.2.2.2.2.2.2) : gX) o z) = some (b, gH y ((x.1, s, x.2.2.1, x.2.2.2.1, x.2.2.2.2.1, x.2.2.2.2.2.1, x.2.2.2.2.2.2.1, x.2.2.2.2.2.2.2.1, x.2.2.2.2.2.2.2.2.1, x.2.2.2.2.2.2.2.2.2.1, x.2.2.2.2.2.2.2.2.2.2.1, x.2.2.2.2.2.2.2.2.2.2.2.1, x.2.2.2.2.2.2.2.2.2.2.2.2.1, x.2.2.2.2.2.2.2.2.2.2.2.2.2.1, x.2.2.2.2.2.2.2.2.2.2.2.2.2.2.1, x.2.2.2.2.2.2.2.2.2.2.2.2.2.2.2) : gX) o z) := e2
        have go3 : ∀ y o z, mM_goesOn (some 188) (gH y x o z) = some (1, gH y ((x.1, gup s 31 0, x.2.2.1, x.2.2.2.1, x.2.2.2.2.1, x.2.2.2.2.2.1, x.2.2.2.2.2.2.1, x.2.2.2.2.2.2.2.1, x.2.2.2.2.2.2.2.2.1, gup x.2.2.2.2.2.2.2.2.2.1 (6 * D) (Int64.toInt32 (gzz b)), x.2.2.2.2.2.2.2.2.2.2.1, x.2.2.2.2.2.2.2.2.2.2.2.1, x.2.2.2.2.2.2.2.2.2.2.2.2.1, x.2.2.2.2.2.2.2.2.2.2.2.2.2.1, x.2.2.2.2.2.2.2.2.2.2.2.2.2.2.1, x.2.2.2.2.2.2.2.2.2.2.2.2.2.2.2) : gX) o z) := by
          intro y o z
          rw [go, e2, Option.bind_some, m_plain, Option.bind_some, hi_188_31, Option.bind_some, if_pos (show s 31 = 0 from e4), mM_goesOn_93]
          exact r_94 (x := ((x.1, s, x.2.2.1, x.2.2.2.1, x.2.2.2.2.1, x.2.2.2.2.2.1, x.2.2.2.2.2.2.1, x.2.2.2.2.2.2.2.1, x.2.2.2.2.2.2.2.2.1, x.2.2.2.2.2.2.2.2.2.1, x.2.2.2.2.2.2.2.2.2.2.1, x.2.2.2.2.2.2.2.2.2.2.2.1, x.2.2.2.2.2.2.2.2.2.2.2.2.1, x.2.2.2.2.2.2.2.2.2.2.2.2.2.1, x.2.2.2.2.2.2.2.2.2.2.2.2.2.2.1, x.2.2.2.2.2.2.2.2.2.2.2.2.2.2.2) : gX)) hD14 (Or.inl rfl) y o z
        refine bad a _ _ e1 (fun y o z => dead (((su u (pos + 1)).1, (su u (pos + 1)).2.1, (su u (pos + 1)).2.2.1, (su u (pos + 1)).2.2.2.1, (su u (pos + 1)).2.2.2.2.1, (su u (pos + 1)).2.2.2.2.2.1, (su u (pos + 1)).2.2.2.2.2.2.1, (su u (pos + 1)).2.2.2.2.2.2.2.1, (su u (pos + 1)).2.2.2.2.2.2.2.2.1, (su u (pos + 1)).2.2.2.2.2.2.2.2.2.1, (su u (pos + 1)).2.2.2.2.2.2.2.2.2.2.1, (su u (pos + 1)).2.2.2.2.2.2.2.2.2.2.2.1, r, (su u (pos + 1)).2.2.2.2.2.2.2.2.2.2.2.2.2.1, (su u (pos + 1)).2.2.2.2.2.2.2.2.2.2.2.2.2.2) : gU) y o z _ e3) gUf_r (fun h => by have := h.1; exact absurd (e3.symm.trans this) i_10) _ (gRF_mono (gRF_go G.gg go3 rfl) b2) ⟨fun _ _ => rfl, fun j hj => (gup_ne (by omega)).trans ((gKs_trans ks e5) j (by omega)), rfl, rfl, rfl, rfl⟩
  · obtain ⟨r1, r2, a1⟩ := k_up0 (t := 1) G (by omega) c1
    obtain ⟨s1, s2, s3, a2⟩ := r_up0 (t := 1) G (by omega) c1
    obtain ⟨k1, k2⟩ := k_recTop (W := W) (D := D) (k := k) (i := i) (g := g) (t := 0) (u1 := ((u.1, u.2.1, u.2.2.1, u.2.2.2.1, u.2.2.2.2.1, u.2.2.2.2.2.1, u.2.2.2.2.2.2.1, u.2.2.2.2.2.2.2.1, u.2.2.2.2.2.2.2.2.1, u.2.2.2.2.2.2.2.2.2.1, u.2.2.2.2.2.2.2.2.2.2.1, u.2.2.2.2.2.2.2.2.2.2.2.1, r1, u.2.2.2.2.2.2.2.2.2.2.2.2.2.1, u.2.2.2.2.2.2.2.2.2.2.2.2.2.2) : gU)) i6 a1
    obtain ⟨g1, g2⟩ := r_recGo (t := 0) (s := s1) P hD14 hk O.et a2 ((s3 18 (by omega)).trans P.1)
    refine gVal_bad (u' := ((u.1, u.2.1, u.2.2.1, u.2.2.2.1, u.2.2.2.2.1, u.2.2.2.2.2.1, u.2.2.2.2.2.2.1, u.2.2.2.2.2.2.2.1, u.2.2.2.2.2.2.2.2.1, u.2.2.2.2.2.2.2.2.2.1, u.2.2.2.2.2.2.2.2.2.2.1, u.2.2.2.2.2.2.2.2.2.2.2.1, gup (gup r1 2 6) 3 (Int32.ofNat k), u.2.2.2.2.2.2.2.2.2.2.2.2.2.1, u.2.2.2.2.2.2.2.2.2.2.2.2.2.2) : gU)) (fun y o z => ?_) gUf_r r2 (gRF_mono (gRF_go G.gg (g1 rfl) s2) b2) ⟨fun _ _ => rfl, fun j hj => ?_, rfl, rfl, rfl, rfl⟩
    · show ((cR_readRecord_3 W (g + 1) (some 187) (some 1) (some 163) (some (3 + 5 * k)) (Int32.ofNat (D + 1)) (Int32.ofNat i) (gH u y o z)).bind _) = _
      rw [k1 (show ¬ r1 1 = 0 by rw [r2]; exact i_10), Option.bind_some, k_128]
    · show gup (gup (gup s1 18 (Int32.ofNat D)) 35 6) 36 (Int32.ofNat k) j = _
      rw [gup_ne (by omega), gup_ne (by omega), gup_ne (by omega)]
      exact s3 j (by omega)
theorem rd_recL {D k B : Nat} (hD : D + 1 ≤ 12) (hk0 : n0 ≤ k) (ih : gIR n0 f q m (D + 1) B W) (dead : gDe W) : ∀ (r i g : Nat) (u : gU) (x : gX) (N pos : Nat), i + r = 6 → gD n0 f q m N pos u x → k < N → gO N 0 i (u.1 k) (x.1 k) → gPi D k i 0 x → gVal n0 f q m D (r * (B + 1) + 2) k 0 u x (fun h => (cR_readRecord_3 W (g + r + 1) (some 187) (some 1) (some 163) (some (3 + 5 * k)) (Int32.ofNat (D + 1)) (Int32.ofNat i) h).bind fun h => cR_readObject_128 W (some 187) (Int32.ofNat k) h) := by
  intro r
  induction r with
  | zero =>
    intro i g u x N pos e G hkN O P
    exact rd_rec1 (Bc := 0) hD hk0 ih dead (by omega) (by omega) (fun h => by omega) (fun h => by omega) G hkN O P
  | succ r IH =>
    intro i g u x N pos e G hkN O P
    have bd : 1 + B + (r * (B + 1) + 2) ≤ (r + 1) * (B + 1) + 2 := by rw [Nat.add_mul r 1, Nat.one_mul]; omega
    exact rd_rec1 (Bc := r * (B + 1) + 2) hD hk0 ih dead (by omega) (by omega) (fun h => ⟨bd, by omega⟩) (fun h u x N pos G hkN O P => IH (i + 1) g u x N pos (by omega) G hkN O P) G hkN O P
end H
end
section
/-! read: buffers, stamps -/
def gOb2 (n0 f q m D N : Nat) (u : gU) (x : gX) (A M : gx_H → Option gx_H) : Prop := ∃ u', (∀ y o z, A (gH u y o z) = some (gH u' y o z)) ∧ gUf N u u' ∧ ((∃ x', (∀ y o z, M (gH y x o z) = some (gH y x' o z)) ∧ gOk n0 f q m D N u' x x') ∨ (u'.2.2.2.2.2.2.2.2.2.2.2.2.1 1 = 1 ∧ ∃ x', (∀ y o z, M (gH y x o z) = some (gH y x' o z)) ∧ x'.2.1 31 = 0 ∧ gXd N x x'))
theorem gOb2_pr {n0 f q m D N : Nat} {u : gU} {x : gX} {A M : gx_H → Option gx_H} (h : gPr n0 f q m N u x A M) (h18 : x.2.1 18 = Int32.ofNat D) : gOb2 n0 f q m D N u x A M := by
  rcases h with ⟨pos', r, s, h1, h2, h3, h4, h5, h6, h7⟩ | ⟨r, s, h1, h2, h3, h4, h5⟩
  · exact ⟨_, h1, gUf_r, Or.inl ⟨_, h2, N, pos', h3, Nat.le_refl _, gXf_s h4, (h4 18 (by omega)).trans h18, h5, h6, h7⟩⟩
  · exact ⟨_, h1, gUf_r, Or.inr ⟨h3, _, h2, h4, gXd_s h5⟩⟩
theorem gO_nu {n : Nat} {q : gQ} {p : gP} {v : Nat → Int32} (O : gO n 4 0 q p) : gO n 4 0 q ((p.1, p.2.1, p.2.2.1, v, p.2.2.2.2.1, p.2.2.2.2.2.1, p.2.2.2.2.2.2.1, p.2.2.2.2.2.2.2) : gP) :=
  ⟨O.s8, O.es, O.et, O.ec, O.c8, O.ed, O.d4, O.ep, O.e0, fun h => by omega, fun h => by omega, fun h => by omega, fun h => by omega, fun h => by omega, fun h => by omega, fun h => by omega, fun h i hi => by omega, fun h => by omega, fun h => by omega⟩
theorem gO_buf {n l : Nat} {q : gQ} {p : gP} {w : Int64} {v : Nat → Int32} (O : gO n 4 0 q p) (f6 : q.2.2.2.2.1 6 = 0) (hl : l ≤ 8) (h : ∀ i, i < l → v i = gt_w w i) : gO n 4 l ((q.1, q.2.1, q.2.2.1, q.2.2.2.1, gup q.2.2.2.2.1 5 (Int32.ofNat l), gup q.2.2.2.2.2 10 w) : gQ) ((p.1, p.2.1, p.2.2.1, v, p.2.2.2.2.1, Int32.ofNat l, p.2.2.2.2.2.2.1, p.2.2.2.2.2.2.2) : gP) :=
  ⟨O.s8, O.es, O.et, rfl, hl, O.ed, Or.inl f6, fun _ => rfl, fun h => absurd f6 h, fun h => by omega, fun h => by omega, fun h => by omega, fun h => by omega, fun h => by omega, fun h => by omega, fun h => by omega, fun _ i hi => h i hi, fun h => by omega, fun h => by omega⟩
theorem gO_stp {n : Nat} {q : gQ} {p : gP} {w : Int64} (O : gO n 6 0 q p) : gO n 6 0 ((q.1, q.2.1, q.2.2.1, q.2.2.2.1, q.2.2.2.2.1, gup q.2.2.2.2.2 10 w) : gQ) ((p.1, p.2.1, p.2.2.1, p.2.2.2.1, p.2.2.2.2.1, p.2.2.2.2.2.1, p.2.2.2.2.2.2.1, w) : gP) :=
  ⟨O.s8, O.es, O.et, O.ec, O.c8, O.ed, O.d4, O.ep, O.e0, fun h => by omega, fun h => by omega, fun h => by omega, fun h => by omega, fun h => by omega, fun h => by omega, fun h => by omega, fun h => by omega, fun h => by omega, fun _ => rfl⟩
section H
variable {n0 f q m N pos : Nat} {u : gU} {x : gX} {W : gWr}
theorem r_buf53 {k l : Nat} (hk : k < 32) (h : x.2.1 31 = 0) : ∀ y o z, mM_takeBuffer_53 (some 188) (Int32.ofNat l) (Int32.ofNat k) (gH y x o z) = some (gH y ((gup x.1 k (((x.1 k).1, (x.1 k).2.1, (x.1 k).2.2.1, (x.1 k).2.2.2.1, (x.1 k).2.2.2.2.1, (x.1 k).2.2.2.2.2.1, (x.1 k).2.2.2.2.2.2.1, (x.1 k).2.2.2.2.2.2.2) : gP), gup (gup x.2.1 35 6) 36 (Int32.ofNat k), x.2.2.1, x.2.2.2.1, x.2.2.2.2.1, x.2.2.2.2.2.1, x.2.2.2.2.2.2.1, x.2.2.2.2.2.2.2.1, x.2.2.2.2.2.2.2.2.1, x.2.2.2.2.2.2.2.2.2.1, x.2.2.2.2.2.2.2.2.2.2.1, x.2.2.2.2.2.2.2.2.2.2.2.1, x.2.2.2.2.2.2.2.2.2.2.2.2.1, x.2.2.2.2.2.2.2.2.2.2.2.2.2.1, x.2.2.2.2.2.2.2.2.2.2.2.2.2.2.1, x.2.2.2.2.2.2.2.2.2.2.2.2.2.2.2) : gX) o z) := by
  intro y o z
  rw [mM_takeBuffer_53, hr_188_3, Option.bind_some, hi_188_31, Option.bind_some, if_pos h, Option.bind_some, ha_190 hk, Option.bind_some, mM_takeBuffer_75, hb_190 hk, Option.bind_some, ho_188, Option.bind_some, r_got, Option.bind_some]
theorem r_buf53D {k l : Nat} (hk : k < 32) (h : x.2.1 31 = 0) : ∃ x', x'.2.1 31 = 0 ∧ gXd N x x' ∧ ∀ y o z, mM_takeBuffer_53 (some 188) (Int32.ofNat l) (Int32.ofNat k) (gH y x o z) = some (gH y x' o z) := by
  refine ⟨_, ?_, ?_, r_buf53 hk h⟩
  · exact h
  · refine ⟨fun j hj => ?_, fun i hi => ?_, rfl, rfl, rfl, rfl⟩
    · show gup x.1 k (((x.1 k).1, (x.1 k).2.1, (x.1 k).2.2.1, (x.1 k).2.2.2.1, (x.1 k).2.2.2.2.1, (x.1 k).2.2.2.2.2.1, (x.1 k).2.2.2.2.2.2.1, (x.1 k).2.2.2.2.2.2.2) : gP) j = x.1 j
      by_cases e : j = k
      · subst e; rw [gup_eq]
      · rw [gup_ne e]
    · show gup (gup x.2.1 35 6) 36 (Int32.ofNat k) i = _
      rw [gup_ne (by omega), gup_ne (by omega)]
theorem r_buf20D {k l i G : Nat} (hk : k < 32) (hl : l ≤ 8) (h : x.2.1 31 = 0) : ∃ x', x'.2.1 31 = 0 ∧ gXd N x x' ∧ ∀ y o z, mM_takeBuffer_20 (G + 1) (some 188) (Int32.ofNat l) (Int32.ofNat k) (Int32.ofNat i) (gH y x o z) = some (gH y x' o z) := by
  obtain ⟨x', h1, h2, h3⟩ := r_buf53D (N := N) (l := l) hk h
  refine ⟨x', h1, h2, fun y o z => ?_⟩
  rw [mM_takeBuffer_20, hi_188_31, Option.bind_some, if_pos h, h3]
  split <;> rfl
/-- the state with a byte more -/
def xn (x : gX) (k i p : Nat) (v : Int32) : gX := ((gup x.1 k (((x.1 k).1, (x.1 k).2.1, (x.1 k).2.2.1, gup (x.1 k).2.2.2.1 i v, (x.1 k).2.2.2.2.1, (x.1 k).2.2.2.2.2.1, (x.1 k).2.2.2.2.2.2.1, (x.1 k).2.2.2.2.2.2.2) : gP), (sx x p).2.1, (sx x p).2.2.1, (sx x p).2.2.2.1, (sx x p).2.2.2.2.1, (sx x p).2.2.2.2.2.1, (sx x p).2.2.2.2.2.2.1, (sx x p).2.2.2.2.2.2.2.1, (sx x p).2.2.2.2.2.2.2.2.1, (sx x p).2.2.2.2.2.2.2.2.2.1, (sx x p).2.2.2.2.2.2.2.2.2.2.1, (sx x p).2.2.2.2.2.2.2.2.2.2.2.1, (sx x p).2.2.2.2.2.2.2.2.2.2.2.2.1, (sx x p).2.2.2.2.2.2.2.2.2.2.2.2.2.1, (sx x p).2.2.2.2.2.2.2.2.2.2.2.2.2.2.1, (sx x p).2.2.2.2.2.2.2.2.2.2.2.2.2.2.2) : gX)
theorem r_bufStep {k l i g : Nat} (D : gD n0 f q m N pos u x) (hk : k < 32) (hl : l ≤ 8) (hi : i < l) (p : pos < m) : ∀ y o z, mM_takeBuffer_20 (g + 1) (some 188) (Int32.ofNat l) (Int32.ofNat k) (Int32.ofNat i) (gH y x o z) = mM_takeBuffer_20 g (some 188) (Int32.ofNat l) (Int32.ofNat k) (Int32.ofNat (i + 1)) (gH y (xn x k i (pos + 1) (u.2.2.2.2.1 pos)) o z) := by
  intro y o z
  rw [mM_takeBuffer_20, if_pos (n_ltl (by omega) (by omega) hi), hi_188_31, Option.bind_some, if_neg (show ¬ x.2.1 31 = 0 by rw [D.gg]; exact i_10), hr_188_9, Option.bind_some, ho_188, Option.bind_some, r_nx D p, Option.bind_some, n_8, hb_196 hk (show i < 8 by omega), Option.bind_some, n_succ]
  rfl
theorem r_bufStep0 {k l i g : Nat} (D : gD n0 f q m N pos u x) (hk : k < 32) (hl : l ≤ 8) (hi : i < l) (p : ¬ pos < m) : ∀ y o z, mM_takeBuffer_20 (g + 1) (some 188) (Int32.ofNat l) (Int32.ofNat k) (Int32.ofNat i) (gH y x o z) = mM_takeBuffer_20 g (some 188) (Int32.ofNat l) (Int32.ofNat k) (Int32.ofNat (i + 1)) (gH y ((gup x.1 k (((x.1 k).1, (x.1 k).2.1, (x.1 k).2.2.1, gup (x.1 k).2.2.2.1 i 0, (x.1 k).2.2.2.2.1, (x.1 k).2.2.2.2.2.1, (x.1 k).2.2.2.2.2.2.1, (x.1 k).2.2.2.2.2.2.2) : gP), gup (gup x.2.1 31 0) 32 (Int32.ofNat (pos + 1)), x.2.2.1, x.2.2.2.1, x.2.2.2.2.1, x.2.2.2.2.2.1, x.2.2.2.2.2.2.1, x.2.2.2.2.2.2.2.1, x.2.2.2.2.2.2.2.2.1, x.2.2.2.2.2.2.2.2.2.1, x.2.2.2.2.2.2.2.2.2.2.1, x.2.2.2.2.2.2.2.2.2.2.2.1, x.2.2.2.2.2.2.2.2.2.2.2.2.1, x.2.2.2.2.2.2.2.2.2.2.2.2.2.1, x.2.2.2.2.2.2.2.2.2.2.2.2.2.2.1, x.2.2.2.2.2.2.2.2.2.2.2.2.2.2.2) : gX) o z) := by
  intro y o z
  rw [mM_takeBuffer_20, if_pos (n_ltl (by omega) (by omega) hi), hi_188_31, Option.bind_some, if_neg (show ¬ x.2.1 31 = 0 by rw [D.gg]; exact i_10), hr_188_9, Option.bind_some, ho_188, Option.bind_some, r_nx0 D p, Option.bind_some, n_8, hb_196 hk (show i < 8 by omega), Option.bind_some, n_succ]
theorem gD_nu {k : Nat} {v : Nat → Int32} (D : gD n0 f q m N pos u x) (O : gO N 4 0 (u.1 k) (x.1 k)) (f6 : (u.1 k).2.2.2.2.1 6 = 0) : gD n0 f q m N pos u ((gup x.1 k (((x.1 k).1, (x.1 k).2.1, (x.1 k).2.2.1, v, (x.1 k).2.2.2.2.1, (x.1 k).2.2.2.2.2.1, (x.1 k).2.2.2.2.2.2.1, (x.1 k).2.2.2.2.2.2.2) : gP), x.2.1, x.2.2.1, x.2.2.2.1, x.2.2.2.2.1, x.2.2.2.2.2.1, x.2.2.2.2.2.2.1, x.2.2.2.2.2.2.2.1, x.2.2.2.2.2.2.2.2.1, x.2.2.2.2.2.2.2.2.2.1, x.2.2.2.2.2.2.2.2.2.2.1, x.2.2.2.2.2.2.2.2.2.2.2.1, x.2.2.2.2.2.2.2.2.2.2.2.2.1, x.2.2.2.2.2.2.2.2.2.2.2.2.2.1, x.2.2.2.2.2.2.2.2.2.2.2.2.2.2.1, x.2.2.2.2.2.2.2.2.2.2.2.2.2.2.2) : gX) := by
  have := gD_ob (k := k) (q' := u.1 k) (p' := (((x.1 k).1, (x.1 k).2.1, (x.1 k).2.2.1, v, (x.1 k).2.2.2.2.1, (x.1 k).2.2.2.2.2.1, (x.1 k).2.2.2.2.2.2.1, (x.1 k).2.2.2.2.2.2.2) : gP)) D ⟨4, 0, gO_nu O⟩ f6
  exact gD_x this (by show u.1 = gup u.1 k (u.1 k); rw [gup_self]) rfl rfl rfl (fun _ _ _ => rfl) rfl (fun _ _ _ _ => rfl) rfl rfl
theorem r_bufL {k l : Nat} (hkN : k < N) (hl : l ≤ 8) : ∀ (r i g : Nat) (u : gU) (x : gX) (pos : Nat), i + r = l → gD n0 f q m N pos u x → gO N 4 0 (u.1 k) (x.1 k) → (u.1 k).2.2.2.2.1 6 = 0 → pos + r ≤ m → ∃ v, (∀ y o z, mM_takeBuffer_20 (g + r + 1) (some 188) (Int32.ofNat l) (Int32.ofNat k) (Int32.ofNat i) (gH y x o z) = some (gH y ((gup x.1 k (((x.1 k).1, (x.1 k).2.1, (x.1 k).2.2.1, v, (x.1 k).2.2.2.2.1, Int32.ofNat l, (x.1 k).2.2.2.2.2.2.1, (x.1 k).2.2.2.2.2.2.2) : gP), gup (gup (gup x.2.1 32 (Int32.ofNat (pos + r))) 35 6) 36 (Int32.ofNat k), x.2.2.1, x.2.2.2.1, x.2.2.2.2.1, x.2.2.2.2.2.1, x.2.2.2.2.2.2.1, x.2.2.2.2.2.2.2.1, x.2.2.2.2.2.2.2.2.1, x.2.2.2.2.2.2.2.2.2.1, x.2.2.2.2.2.2.2.2.2.2.1, x.2.2.2.2.2.2.2.2.2.2.2.1, x.2.2.2.2.2.2.2.2.2.2.2.2.1, x.2.2.2.2.2.2.2.2.2.2.2.2.2.1, x.2.2.2.2.2.2.2.2.2.2.2.2.2.2.1, x.2.2.2.2.2.2.2.2.2.2.2.2.2.2.2) : gX) o z)) ∧ (∀ j, j < i → v j = (x.1 k).2.2.2.1 j) ∧ ∀ j, j < r → v (i + j) = u.2.2.2.2.1 (pos + j) := by
  intro r
  induction r with
  | zero =>
    intro i g u x pos e D O f6 c
    have hk : k < 32 := by have := D.hN; omega
    refine ⟨(x.1 k).2.2.2.1, fun y o z => ?_, fun j hj => rfl, fun j hj => by omega⟩
    obtain rfl : i = l := by omega
    rw [mM_takeBuffer_20, if_neg (n_nltl (by omega) (by omega) (by omega)), mM_takeBuffer_53, hr_188_3, Option.bind_some, hi_188_31, Option.bind_some, if_neg (show ¬ x.2.1 31 = 0 by rw [D.gg]; exact i_10), mM_takeBuffer_75, hb_190 hk, Option.bind_some, ho_188, Option.bind_some, r_got, Option.bind_some, Nat.add_zero, gup_same D.px]
  | succ r ih =>
    intro i g u x pos e D O f6 c
    have hk : k < 32 := by have := D.hN; omega
    have p : pos < m := by omega
    have ek : (xn x k i (pos + 1) (u.2.2.2.2.1 pos)).1 k = (((x.1 k).1, (x.1 k).2.1, (x.1 k).2.2.1, gup (x.1 k).2.2.2.1 i (u.2.2.2.2.1 pos), (x.1 k).2.2.2.2.1, (x.1 k).2.2.2.2.2.1, (x.1 k).2.2.2.2.2.2.1, (x.1 k).2.2.2.2.2.2.2) : gP) := gup_eq
    have D1 : gD n0 f q m N (pos + 1) (su u (pos + 1)) (xn x k i (pos + 1) (u.2.2.2.2.1 pos)) := gD_nu (gD_s D (by omega)) O f6
    obtain ⟨v, h1, h2, h3⟩ := ih (i + 1) g (su u (pos + 1)) (xn x k i (pos + 1) (u.2.2.2.2.1 pos)) (pos + 1) (by omega) D1 (by rw [ek]; exact gO_nu O) f6 (by omega)
    refine ⟨v, fun y o z => ?_, fun j hj => ?_, fun j hj => ?_⟩
    · rw [show g + (r + 1) + 1 = (g + r + 1) + 1 by omega, r_bufStep D hk hl (by omega) p, h1, ek]
      show some (gH y ((gup (gup x.1 k (((x.1 k).1, (x.1 k).2.1, (x.1 k).2.2.1, gup (x.1 k).2.2.2.1 i (u.2.2.2.2.1 pos), (x.1 k).2.2.2.2.1, (x.1 k).2.2.2.2.2.1, (x.1 k).2.2.2.2.2.2.1, (x.1 k).2.2.2.2.2.2.2) : gP)) k (((x.1 k).1, (x.1 k).2.1, (x.1 k).2.2.1, v, (x.1 k).2.2.2.2.1, Int32.ofNat l, (x.1 k).2.2.2.2.2.2.1, (x.1 k).2.2.2.2.2.2.2) : gP), gup (gup (gup (gup x.2.1 32 (Int32.ofNat (pos + 1))) 32 (Int32.ofNat (pos + 1 + r))) 35 6) 36 (Int32.ofNat k), x.2.2.1, x.2.2.2.1, x.2.2.2.2.1, x.2.2.2.2.2.1, x.2.2.2.2.2.2.1, x.2.2.2.2.2.2.2.1, x.2.2.2.2.2.2.2.2.1, x.2.2.2.2.2.2.2.2.2.1, x.2.2.2.2.2.2.2.2.2.2.1, x.2.2.2.2.2.2.2.2.2.2.2.1, x.2.2.2.2.2.2.2.2.2.2.2.2.1, x.2.2.2.2.2.2.2.2.2.2.2.2.2.1, x.2.2.2.2.2.2.2.2.2.2.2.2.2.2.1, x.2.2.2.2.2.2.2.2.2.2.2.2.2.2.2) : gX) o z) = _
      rw [gup_gup, gup_gup, show pos + 1 + r = pos + (r + 1) by omega]
    · rw [h2 j (by omega), ek]
      exact gup_ne (by omega)
    · by_cases c0 : j = 0
      · subst c0
        show v i = u.2.2.2.2.1 pos
        rw [h2 i (by omega), ek]
        exact gup_eq
      · have := h3 (j - 1) (by omega)
        rw [show i + 1 + (j - 1) = i + j by omega, show pos + 1 + (j - 1) = pos + j by omega] at this
        exact this
theorem r_bufL0 {k l : Nat} (hkN : k < N) (hl : l ≤ 8) : ∀ (r i g : Nat) (u : gU) (x : gX) (pos : Nat), i + r = l → gD n0 f q m N pos u x → gO N 4 0 (u.1 k) (x.1 k) → (u.1 k).2.2.2.2.1 6 = 0 → ¬ pos + r ≤ m → ∃ x', x'.2.1 31 = 0 ∧ gXd k x x' ∧ ∀ y o z, mM_takeBuffer_20 (g + r + 1 + 1) (some 188) (Int32.ofNat l) (Int32.ofNat k) (Int32.ofNat i) (gH y x o z) = some (gH y x' o z) := by
  intro r
  induction r with
  | zero =>
    intro i g u x pos e D O f6 c
    exact absurd D.hp (by omega)
  | succ r ih =>
    intro i g u x pos e D O f6 c
    have hk : k < 32 := by have := D.hN; omega
    by_cases p : pos < m
    · have ek : (xn x k i (pos + 1) (u.2.2.2.2.1 pos)).1 k = (((x.1 k).1, (x.1 k).2.1, (x.1 k).2.2.1, gup (x.1 k).2.2.2.1 i (u.2.2.2.2.1 pos), (x.1 k).2.2.2.2.1, (x.1 k).2.2.2.2.2.1, (x.1 k).2.2.2.2.2.2.1, (x.1 k).2.2.2.2.2.2.2) : gP) := gup_eq
      have D1 : gD n0 f q m N (pos + 1) (su u (pos + 1)) (xn x k i (pos + 1) (u.2.2.2.2.1 pos)) := gD_nu (gD_s D (by omega)) O f6
      obtain ⟨x', h1, h2, h3⟩ := ih (i + 1) g (su u (pos + 1)) (xn x k i (pos + 1) (u.2.2.2.2.1 pos)) (pos + 1) (by omega) D1 (by rw [ek]; exact gO_nu O) f6 (by omega)
      have h0 : gXd k x (xn x k i (pos + 1) (u.2.2.2.2.1 pos)) := ⟨fun j hj => gup_ne (by omega), fun j hj => gup_ne (by omega), rfl, rfl, rfl, rfl⟩
      refine ⟨x', h1, gXd_trans h0 h2 (Nat.le_refl _), fun y o z => ?_⟩
      rw [show g + (r + 1) + 1 + 1 = (g + r + 1 + 1) + 1 by omega, r_bufStep D hk hl (by omega) p]
      exact h3 y o z
    · obtain ⟨x', h1, h2, h3⟩ := r_buf20D (N := k) (l := l) (i := i + 1) (G := g + r + 1) (x := ((gup x.1 k (((x.1 k).1, (x.1 k).2.1, (x.1 k).2.2.1, gup (x.1 k).2.2.2.1 i 0, (x.1 k).2.2.2.2.1, (x.1 k).2.2.2.2.2.1, (x.1 k).2.2.2.2.2.2.1, (x.1 k).2.2.2.2.2.2.2) : gP), gup (gup x.2.1 31 0) 32 (Int32.ofNat (pos + 1)), x.2.2.1, x.2.2.2.1, x.2.2.2.2.1, x.2.2.2.2.2.1, x.2.2.2.2.2.2.1, x.2.2.2.2.2.2.2.1, x.2.2.2.2.2.2.2.2.1, x.2.2.2.2.2.2.2.2.2.1, x.2.2.2.2.2.2.2.2.2.2.1, x.2.2.2.2.2.2.2.2.2.2.2.1, x.2.2.2.2.2.2.2.2.2.2.2.2.1, x.2.2.2.2.2.2.2.2.2.2.2.2.2.1, x.2.2.2.2.2.2.2.2.2.2.2.2.2.2.1, x.2.2.2.2.2.2.2.2.2.2.2.2.2.2.2) : gX)) hk hl rfl
      have h0 : gXd k x ((gup x.1 k (((x.1 k).1, (x.1 k).2.1, (x.1 k).2.2.1, gup (x.1 k).2.2.2.1 i 0, (x.1 k).2.2.2.2.1, (x.1 k).2.2.2.2.2.1, (x.1 k).2.2.2.2.2.2.1, (x.1 k).2.2.2.2.2.2.2) : gP), gup (gup x.2.1 31 0) 32 (Int32.ofNat (pos + 1)), x.2.2.1, x.2.2.2.1, x.2.2.2.2.1, x.2.2.2.2.2.1, x.2.2.2.2.2.2.1, x.2.2.2.2.2.2.2.1, x.2.2.2.2.2.2.2.2.1, x.2.2.2.2.2.2.2.2.2.1, x.2.2.2.2.2.2.2.2.2.2.1, x.2.2.2.2.2.2.2.2.2.2.2.1, x.2.2.2.2.2.2.2.2.2.2.2.2.1, x.2.2.2.2.2.2.2.2.2.2.2.2.2.1, x.2.2.2.2.2.2.2.2.2.2.2.2.2.2.1, x.2.2.2.2.2.2.2.2.2.2.2.2.2.2.2) : gX) := by
        refine ⟨fun j hj => gup_ne (by omega), fun j hj => ?_, rfl, rfl, rfl, rfl⟩
        show gup (gup x.2.1 31 0) 32 (Int32.ofNat (pos + 1)) j = _
        rw [gup_ne (by omega), gup_ne (by omega)]
      refine ⟨x', h1, gXd_trans h0 h2 (Nat.le_refl _), fun y o z => ?_⟩
      · rw [show g + (r + 1) + 1 + 1 = (g + r + 1 + 1) + 1 by omega, r_bufStep0 D hk hl (by omega) p]
        exact h3 y o z
theorem k_hold {k : Nat} {w : Int64} {v : Int32} (hk : k < 32) : ∀ y o z, cT_holdBytes (some (3 + 5 * k)) w v (gH u y o z) = some (gH ((gup u.1 k (((u.1 k).1, (u.1 k).2.1, (u.1 k).2.2.1, (u.1 k).2.2.2.1, gup (u.1 k).2.2.2.2.1 5 v, gup (u.1 k).2.2.2.2.2 10 w) : gQ), u.2.1, u.2.2.1, u.2.2.2.1, u.2.2.2.2.1, u.2.2.2.2.2.1, u.2.2.2.2.2.2.1, u.2.2.2.2.2.2.2.1, u.2.2.2.2.2.2.2.2.1, u.2.2.2.2.2.2.2.2.2.1, u.2.2.2.2.2.2.2.2.2.2.1, u.2.2.2.2.2.2.2.2.2.2.2.1, u.2.2.2.2.2.2.2.2.2.2.2.2.1, u.2.2.2.2.2.2.2.2.2.2.2.2.2.1, u.2.2.2.2.2.2.2.2.2.2.2.2.2.2) : gU) y o z) := by
  intro y o z
  simp only [cT_holdBytes, hqT_10 hk, Option.bind_some, hpT_5 hk, gup_eq, gup_gup]
theorem k_obj {D : Nat} {t : Int32} (G : gD n0 f q m N pos u x) (hN : N < 32) {F : gx_H → Option gx_H} (hF : ∀ h, (if t = (0 : Int32) then ((gv_is h (some 187) 6).bind fun _ => (cR_readRecord W (some 187) (some 1) (some 163) (some (3 + 5 * N)) (Int32.ofNat (D + 1)) h).bind fun h10 => cR_readObject_128 W (some 187) (Int32.ofNat N) h10) else if t = (1 : Int32) then ((gv_is h (some 187) 6).bind fun _ => (cR_readList W (some 187) (some 1) (some 163) (some (3 + 5 * N)) (Int32.ofNat (D + 1)) h).bind fun h14 => cR_readObject_128 W (some 187) (Int32.ofNat N) h14) else if t = (2 : Int32) then ((gv_is h (some 187) 6).bind fun _ => (cR_readMap W (some 187) (some 1) (some 163) (some (3 + 5 * N)) (Int32.ofNat (D + 1)) h).bind fun h18 => cR_readObject_128 W (some 187) (Int32.ofNat N) h18) else if t = (3 : Int32) then ((gv_is h (some 187) 6).bind fun _ => (cR_readSet W (some 187) (some 1) (some 163) (some (3 + 5 * N)) (Int32.ofNat (D + 1)) h).bind fun h22 => cR_readObject_128 W (some 187) (Int32.ofNat N) h22) else if t = (4 : Int32) then ((gv_is h (some 187) 6).bind fun _ => (cR_readBuffer (some 187) (some 163) (some (3 + 5 * N)) h).bind fun h26 => cR_readObject_128 W (some 187) (Int32.ofNat N) h26) else (gv_is h (some 187) 6).bind fun _ => (cR_nextZigzag (some 187) (some 163) h).bind fun r30 => (gv_pV r30.2 (some (3 + 5 * N)) 2 10 (.long r30.1)).bind fun h31 => cR_readObject_128 W (some 187) (Int32.ofNat N) h31) = F h) : ∀ y o z, cR_readObject W (some 187) (some 1) (some 163) t (Int32.ofNat (D + 1)) (gH u y o z) = F (gH (ub u N t) y o z) := by
  intro y o z
  rw [cR_readObject, hi_1_1, Option.bind_some, ho_187, Option.bind_some, k_bt G hN, Option.bind_some, if_neg (by simp)]
  show (if t = 0 then _ else _) = _
  rw [show u.2.2.1 1 = Int32.ofNat N from G.un]
  exact hF _
theorem k_obj0 {D : Nat} {t : Int32} (G : gD n0 f q m 32 pos u x) : ∀ y o z, cR_readObject W (some 187) (some 1) (some 163) t (Int32.ofNat (D + 1)) (gH u y o z) = some (gH ((u.1, u.2.1, u.2.2.1, u.2.2.2.1, u.2.2.2.2.1, u.2.2.2.2.2.1, u.2.2.2.2.2.2.1, u.2.2.2.2.2.2.2.1, u.2.2.2.2.2.2.2.2.1, u.2.2.2.2.2.2.2.2.2.1, u.2.2.2.2.2.2.2.2.2.2.1, u.2.2.2.2.2.2.2.2.2.2.2.1, gup u.2.2.2.2.2.2.2.2.2.2.2.2.1 1 1, u.2.2.2.2.2.2.2.2.2.2.2.2.2.1, u.2.2.2.2.2.2.2.2.2.2.2.2.2.2) : gU) y o z) := by
  intro y o z
  rw [cR_readObject, hi_1_1, Option.bind_some, ho_187, Option.bind_some, k_bt0 G, Option.bind_some, if_pos rfl]
theorem gOb2_pre {D N : Nat} {u0 : gU} {x0 : gX} {A A0 M M0 : gx_H → Option gx_H} (hA : ∀ y o z, A (gH u y o z) = A0 (gH u0 y o z)) (hM : ∀ y o z, M (gH y x o z) = M0 (gH y x0 o z)) (hu : gUf N u u0) (hx : gXf N D x x0) (k : gOb2 n0 f q m D N u0 x0 A0 M0) : gOb2 n0 f q m D N u x A M := by
  obtain ⟨u', k1, k2, k3⟩ := k
  refine ⟨u', fun y o z => (hA y o z).trans (k1 y o z), gUf_trans hu k2 (Nat.le_refl _), ?_⟩
  rcases k3 with ⟨x', l1, N', pos', l2, l3, l4, l5⟩ | ⟨l0, x', l1, l2, l3⟩
  · exact Or.inl ⟨x', fun y o z => (hM y o z).trans (l1 y o z), N', pos', l2, l3, gXf_trans hx l4 (Nat.le_refl _) (Nat.le_refl _), l5⟩
  · exact Or.inr ⟨l0, x', fun y o z => (hM y o z).trans (l1 y o z), l2, gXd_trans hx.fd l3 (Nat.le_refl _)⟩
theorem gOb2_bad {D N : Nat} {u' : gU} {x' : gX} {A M : gx_H → Option gx_H} (h1 : ∀ y o z, A (gH u y o z) = some (gH u' y o z)) (h2 : ∀ y o z, M (gH y x o z) = some (gH y x' o z)) (h3 : gUf N u u') (h4 : u'.2.2.2.2.2.2.2.2.2.2.2.2.1 1 = 1) (h5 : x'.2.1 31 = 0) (h6 : gXd N x x') : gOb2 n0 f q m D N u x A M := ⟨u', h1, h3, Or.inr ⟨h4, x', h2, h5, h6⟩⟩
theorem rd_bufIn {D l N : Nat} (G : gD n0 f q m (N + 1) pos u x) (O : gO (N + 1) 4 0 (u.1 N) (x.1 N)) (f6 : (u.1 N).2.2.2.2.1 6 = 0) (hN : N < 32) (hn : n0 ≤ N) (h18 : x.2.1 18 = Int32.ofNat D) (hl : l ≤ 8) : gOb2 n0 f q m D N u x (fun h => (cR_nextWord (some 187) (some 163) (Int32.ofNat l) h).bind fun r8 => (gv_is r8.2 (some (3 + 5 * N)) 2).bind fun _ => (cT_holdBytes (some (3 + 5 * N)) r8.1 (Int32.ofNat l) r8.2).bind fun h26 => cR_readObject_128 W (some 187) (Int32.ofNat N) h26) (fun h => mM_takeBuffer_20 1000000000000000 (some 188) (Int32.ofNat l) (Int32.ofNat N) (Int32.ofNat 0) h) := by
  by_cases c2 : pos + l ≤ m
  · obtain ⟨G2, hG2⟩ : ∃ G, 1000000000000000 = G + l + 1 := ⟨999999999999999 - l, by omega⟩
    obtain ⟨v, v1, _, v3⟩ := r_bufL (k := N) (by omega) hl l 0 G2 _ _ pos (by omega) G O f6 c2
    have wd := k_word hl G c2
    have hb : ∀ j, j < l → ∃ t, t < 256 ∧ u.2.2.2.2.1 (pos + j) = Int32.ofNat t := fun j hj => G.b8 _ (by omega)
    obtain ⟨_, w1⟩ := gwd_byte (b := u.2.2.2.2.1) l 0 pos 0 (by omega) hb gLow0
    have O2 := gO_buf (w := gwd u.2.2.2.2.1 l 0 pos 0) (v := v) O f6 hl (fun i hi => by
      have a := v3 i hi
      have b := w1 i hi
      rw [Nat.zero_add] at a b
      rw [b]; exact a)
    have D2 : gD n0 f q m (N + 1) (pos + l) ((gup u.1 N (((u.1 N).1, (u.1 N).2.1, (u.1 N).2.2.1, (u.1 N).2.2.2.1, gup (u.1 N).2.2.2.2.1 5 (Int32.ofNat l), gup (u.1 N).2.2.2.2.2 10 (gwd u.2.2.2.2.1 l 0 pos 0)) : gQ), (su u (pos + l)).2.1, (su u (pos + l)).2.2.1, (su u (pos + l)).2.2.2.1, (su u (pos + l)).2.2.2.2.1, (su u (pos + l)).2.2.2.2.2.1, (su u (pos + l)).2.2.2.2.2.2.1, (su u (pos + l)).2.2.2.2.2.2.2.1, (su u (pos + l)).2.2.2.2.2.2.2.2.1, (su u (pos + l)).2.2.2.2.2.2.2.2.2.1, (su u (pos + l)).2.2.2.2.2.2.2.2.2.2.1, (su u (pos + l)).2.2.2.2.2.2.2.2.2.2.2.1, (su u (pos + l)).2.2.2.2.2.2.2.2.2.2.2.2.1, (su u (pos + l)).2.2.2.2.2.2.2.2.2.2.2.2.2.1, (su u (pos + l)).2.2.2.2.2.2.2.2.2.2.2.2.2.2) : gU) ((gup x.1 N (((x.1 N).1, (x.1 N).2.1, (x.1 N).2.2.1, v, (x.1 N).2.2.2.2.1, Int32.ofNat l, (x.1 N).2.2.2.2.2.2.1, (x.1 N).2.2.2.2.2.2.2) : gP), (sx x (pos + l)).2.1, (sx x (pos + l)).2.2.1, (sx x (pos + l)).2.2.2.1, (sx x (pos + l)).2.2.2.2.1, (sx x (pos + l)).2.2.2.2.2.1, (sx x (pos + l)).2.2.2.2.2.2.1, (sx x (pos + l)).2.2.2.2.2.2.2.1, (sx x (pos + l)).2.2.2.2.2.2.2.2.1, (sx x (pos + l)).2.2.2.2.2.2.2.2.2.1, (sx x (pos + l)).2.2.2.2.2.2.2.2.2.2.1, (sx x (pos + l)).2.2.2.2.2.2.2.2.2.2.2.1, (sx x (pos + l)).2.2.2.2.2.2.2.2.2.2.2.2.1, (sx x (pos + l)).2.2.2.2.2.2.2.2.2.2.2.2.2.1, (sx x (pos + l)).2.2.2.2.2.2.2.2.2.2.2.2.2.2.1, (sx x (pos + l)).2.2.2.2.2.2.2.2.2.2.2.2.2.2.2) : gX) := gD_ob (k := N) (gD_s G c2) ⟨4, l, O2⟩ f6
    refine ⟨((gup u.1 N (((u.1 N).1, (u.1 N).2.1, (u.1 N).2.2.1, (u.1 N).2.2.2.1, gup (u.1 N).2.2.2.2.1 5 (Int32.ofNat l), gup (u.1 N).2.2.2.2.2 10 (gwd u.2.2.2.2.1 l 0 pos 0)) : gQ), (su u (pos + l)).2.1, (su u (pos + l)).2.2.1, (su u (pos + l)).2.2.2.1, (su u (pos + l)).2.2.2.2.1, (su u (pos + l)).2.2.2.2.2.1, (su u (pos + l)).2.2.2.2.2.2.1, (su u (pos + l)).2.2.2.2.2.2.2.1, (su u (pos + l)).2.2.2.2.2.2.2.2.1, (su u (pos + l)).2.2.2.2.2.2.2.2.2.1, (su u (pos + l)).2.2.2.2.2.2.2.2.2.2.1, (su u (pos + l)).2.2.2.2.2.2.2.2.2.2.2.1, gup (gup (su u (pos + l)).2.2.2.2.2.2.2.2.2.2.2.2.1 2 6) 3 (Int32.ofNat N), (su u (pos + l)).2.2.2.2.2.2.2.2.2.2.2.2.2.1, (su u (pos + l)).2.2.2.2.2.2.2.2.2.2.2.2.2.2) : gU), fun y o z => ?_, ⟨fun j hj => gup_ne (by omega), rfl, rfl, rfl, rfl, rfl, rfl, rfl⟩, Or.inl ⟨((gup x.1 N (((x.1 N).1, (x.1 N).2.1, (x.1 N).2.2.1, v, (x.1 N).2.2.2.2.1, Int32.ofNat l, (x.1 N).2.2.2.2.2.2.1, (x.1 N).2.2.2.2.2.2.2) : gP), gup (gup (gup x.2.1 32 (Int32.ofNat (pos + l))) 35 6) 36 (Int32.ofNat N), x.2.2.1, x.2.2.2.1, x.2.2.2.2.1, x.2.2.2.2.2.1, x.2.2.2.2.2.2.1, x.2.2.2.2.2.2.2.1, x.2.2.2.2.2.2.2.2.1, x.2.2.2.2.2.2.2.2.2.1, x.2.2.2.2.2.2.2.2.2.2.1, x.2.2.2.2.2.2.2.2.2.2.2.1, x.2.2.2.2.2.2.2.2.2.2.2.2.1, x.2.2.2.2.2.2.2.2.2.2.2.2.2.1, x.2.2.2.2.2.2.2.2.2.2.2.2.2.2.1, x.2.2.2.2.2.2.2.2.2.2.2.2.2.2.2) : gX), fun y o z => ?_, N + 1, pos + l, gD_x D2 rfl rfl rfl rfl (fun i a b => ?_) rfl (fun i a b c => ?_) rfl rfl, by omega, ⟨⟨fun j hj => gup_ne (by omega), fun j hj => ?_, rfl, rfl, rfl, rfl⟩, fun _ _ => ⟨rfl, rfl, rfl⟩, fun _ _ => rfl, fun _ _ => ⟨rfl, rfl, rfl⟩⟩, h18, rfl, rfl, ⟨6, by omega, rfl, rfl, fun _ => ⟨N, by omega, by omega, rfl⟩⟩⟩⟩
    · show ((cR_nextWord (some 187) (some 163) (Int32.ofNat l) (gH u y o z)).bind _) = _
      rw [wd, Option.bind_some, ho_T hN, Option.bind_some, k_hold (u := su u (pos + l)) hN, Option.bind_some, k_128]
      rfl
    · show mM_takeBuffer_20 1000000000000000 (some 188) (Int32.ofNat l) (Int32.ofNat N) (Int32.ofNat 0) (gH y x o z) = _
      rw [hG2, v1]
    · show gup (gup (su u (pos + l)).2.2.2.2.2.2.2.2.2.2.2.2.1 2 6) 3 (Int32.ofNat N) i = (su u (pos + l)).2.2.2.2.2.2.2.2.2.2.2.2.1 i
      rw [gup_ne b, gup_ne a]
    · show gup (gup (gup x.2.1 32 (Int32.ofNat (pos + l))) 35 6) 36 (Int32.ofNat N) i = gup x.2.1 32 (Int32.ofNat (pos + l)) i
      rw [gup_ne c, gup_ne b]
    · show gup (gup (gup x.2.1 32 (Int32.ofNat (pos + l))) 35 6) 36 (Int32.ofNat N) j = _
      rw [gup_ne (by omega), gup_ne (by omega), gup_ne (by omega)]
  · obtain ⟨G2, hG2⟩ : ∃ G, 1000000000000000 = G + l + 1 + 1 := ⟨999999999999998 - l, by omega⟩
    obtain ⟨x', h1, h2, h3⟩ := r_bufL0 (k := N) (by omega) hl l 0 G2 _ _ pos (by omega) G O f6 c2
    obtain ⟨S', r', r1, r2⟩ := k_word0 hl G c2
    refine gOb2_bad (u' := ((gup u.1 N (((u.1 N).1, (u.1 N).2.1, (u.1 N).2.2.1, (u.1 N).2.2.2.1, gup (u.1 N).2.2.2.2.1 5 (Int32.ofNat l), gup (u.1 N).2.2.2.2.2 10 S') : gQ), u.2.1, u.2.2.1, u.2.2.2.1, u.2.2.2.2.1, u.2.2.2.2.2.1, u.2.2.2.2.2.2.1, u.2.2.2.2.2.2.2.1, u.2.2.2.2.2.2.2.2.1, u.2.2.2.2.2.2.2.2.2.1, u.2.2.2.2.2.2.2.2.2.2.1, u.2.2.2.2.2.2.2.2.2.2.2.1, gup (gup r' 2 6) 3 (Int32.ofNat N), u.2.2.2.2.2.2.2.2.2.2.2.2.2.1, u.2.2.2.2.2.2.2.2.2.2.2.2.2.2) : gU)) (x' := x') (fun y o z => ?_) (fun y o z => ?_) ⟨fun j hj => gup_ne (by omega), rfl, rfl, rfl, rfl, rfl, rfl, rfl⟩ r1 h1 h2
    · show ((cR_nextWord (some 187) (some 163) (Int32.ofNat l) (gH u y o z)).bind _) = _
      rw [r2, Option.bind_some, ho_T hN, Option.bind_some, k_hold (u := ((u.1, u.2.1, u.2.2.1, u.2.2.2.1, u.2.2.2.2.1, u.2.2.2.2.2.1, u.2.2.2.2.2.2.1, u.2.2.2.2.2.2.2.1, u.2.2.2.2.2.2.2.2.1, u.2.2.2.2.2.2.2.2.2.1, u.2.2.2.2.2.2.2.2.2.2.1, u.2.2.2.2.2.2.2.2.2.2.2.1, r', u.2.2.2.2.2.2.2.2.2.2.2.2.2.1, u.2.2.2.2.2.2.2.2.2.2.2.2.2.2) : gU)) hN, Option.bind_some, k_128]
    · show mM_takeBuffer_20 1000000000000000 (some 188) (Int32.ofNat l) (Int32.ofNat N) (Int32.ofNat 0) (gH y x o z) = _
      rw [hG2, h3]
theorem k_bufTop {D : Nat} (G : gD n0 f q m N pos u x) (hN : N < 32) : ∀ y o z, cR_readObject W (some 187) (some 1) (some 163) 4 (Int32.ofNat (D + 1)) (gH u y o z) = (cR_nextUpTo (some 187) (some 163) 8 (gH (ub u N 4) y o z)).bind fun r4 => (gv_is r4.2 (some 187) 6).bind fun _ => (cR_nextWord (some 187) (some 163) r4.1 r4.2).bind fun r8 => (gv_is r8.2 (some (3 + 5 * N)) 2).bind fun _ => (cT_holdBytes (some (3 + 5 * N)) r8.1 r4.1 r8.2).bind fun h26 => cR_readObject_128 W (some 187) (Int32.ofNat N) h26 := by
  intro y o z
  rw [k_obj (D := D) (t := 4) G hN (fun h => by rw [if_neg (by decide), if_neg (by decide), if_neg (by decide), if_neg (by decide), if_pos rfl]), ho_187, Option.bind_some]
  simp only [cR_readBuffer, ho_187, Option.bind_some, Option.bind_assoc]
/-- a buffer -/
theorem rd_buf {D : Nat} (G : gD n0 f q m N pos u x) (h18 : x.2.1 18 = Int32.ofNat D) : gOb2 n0 f q m D N u x (cR_readObject W (some 187) (some 1) (some 163) 4 (Int32.ofNat (D + 1))) (mM_takeBuffer (some 188)) := by
  have hN := G.hN
  have fN := G.fN
  have nf := G.nf
  obtain ⟨g, hg⟩ : ∃ g, 1000000000000000 = g + 1 := ⟨999999999999999, rfl⟩
  have rB : ∀ (l : Nat) (x1 x2 : gX), l ≤ 8 → (∀ y o z, mM_nextUpTo (some 188) 8 (gH y x o z) = some (Int32.ofNat l, gH y x1 o z)) → (∀ y o z, mM_nextObject (some 188) 4 (gH y x1 o z) = some (31, gH y x2 o z)) → x2.2.1 31 = 0 → gXd N x x2 → ∃ x', (∀ y o z, mM_takeBuffer (some 188) (gH y x o z) = some (gH y x' o z)) ∧ x'.2.1 31 = 0 ∧ gXd N x x' := by
    intro l x1 x2 hl a1 a2 a3 a4
    obtain ⟨x', b1, b2, b3⟩ := r_buf20D (N := N) (k := 31) (l := l) (i := 0) (G := g) (by omega) hl a3
    refine ⟨x', fun y o z => ?_, b1, gXd_trans a4 b2 (Nat.le_refl _)⟩
    rw [mM_takeBuffer, ho_188, Option.bind_some, a1, Option.bind_some, ho_188, Option.bind_some, a2, Option.bind_some, ho_188, Option.bind_some, r_en0 a3, Option.bind_some, hg]
    exact b3 y o z
  by_cases c1 : pos < m ∧ ∃ j, j ≤ 8 ∧ u.2.2.2.2.1 pos = Int32.ofNat j
  · obtain ⟨p, l, hl, el⟩ := c1
    have a2 := r_up (t := 8) G p hl (by omega) el
    have D1 : gD n0 f q m N (pos + 1) (su u (pos + 1)) (sx x (pos + 1)) := gD_s G (by omega)
    have ks : gKs x.2.1 (sx x (pos + 1)).2.1 := fun j hj => gup_ne (by omega)
    by_cases c32 : N < 32
    · have Gb := gD_beg (s := 4) G c32 (by omega) (by omega)
      have Db := gD_beg (s := 4) D1 c32 (by omega) (by omega)
      have a1 := k_up (t := 8) Gb p hl (by omega) el
      have O : gO (N + 1) 4 0 ((ub (su u (pos + 1)) N (Int32.ofNat 4)).1 N) ((xe (xb (sx x (pos + 1)) N (Int32.ofNat 4)) N f).1 N) := by
        show gO (N + 1) 4 0 (gup _ _ _ N) (gup _ _ _ N)
        rw [gup_eq, gup_eq]
        exact gO_new (s := 4) (by omega) (by omega)
      refine gOb2_pre (u0 := ub (su u (pos + 1)) N (Int32.ofNat 4)) (x0 := xe (xb (sx x (pos + 1)) N (Int32.ofNat 4)) N f) (fun y o z => ?_) (fun y o z => ?_) ⟨fun j hj => gup_ne (by omega), rfl, rfl, rfl, rfl, rfl, rfl, rfl⟩ ?_ (rd_bufIn (W := W) Db O (Db.nd N (by omega) (by omega)) c32 (by omega) h18 hl)
      · rw [k_bufTop G c32]
        show ((cR_nextUpTo (some 187) (some 163) (Int32.ofNat 8) (gH (ub u N (Int32.ofNat 4)) y o z)).bind _) = _
        rw [a1, Option.bind_some, ho_187, Option.bind_some]
        rfl
      · rw [mM_takeBuffer, ho_188, Option.bind_some, show (8 : Int32) = Int32.ofNat 8 from rfl, a2, Option.bind_some, ho_188, Option.bind_some, r_no1 D1 c32, Option.bind_some, ho_188, Option.bind_some, r_en (x := xb (sx x (pos + 1)) N 4) (f := f) D1.gg D1.be fN c32, Option.bind_some]
        rfl
      · refine ⟨⟨fun j hj => gup_ne (by omega), fun j hj => ?_, rfl, rfl, rfl, rfl⟩, fun _ _ => ⟨rfl, rfl, rfl⟩, fun _ _ => rfl, fun _ _ => ⟨rfl, rfl, rfl⟩⟩
        show gup (gup (gup x.2.1 32 _) 33 _) 29 _ j = _
        rw [gup_ne (by omega), gup_ne (by omega), gup_ne (by omega)]
    · obtain rfl : N = 32 := by omega
      obtain ⟨x', b1, b2, b3⟩ := rB l _ _ hl a2 (r_no0 D1) rfl ⟨fun _ _ => rfl, fun j hj => (gup_ne (by omega)).trans (ks j (by omega)), rfl, rfl, rfl, rfl⟩
      exact gOb2_bad (k_obj0 G) b1 gUf_r rfl b2 b3
  · obtain ⟨s1, s2, s3, a2⟩ := r_up0 (t := 8) G (by omega) c1
    obtain ⟨x', b1, b2, b3⟩ := rB 0 _ _ (by omega) a2 (r_noD (x := ((x.1, s1, x.2.2.1, x.2.2.2.1, x.2.2.2.2.1, x.2.2.2.2.2.1, x.2.2.2.2.2.2.1, x.2.2.2.2.2.2.2.1, x.2.2.2.2.2.2.2.2.1, x.2.2.2.2.2.2.2.2.2.1, x.2.2.2.2.2.2.2.2.2.2.1, x.2.2.2.2.2.2.2.2.2.2.2.1, x.2.2.2.2.2.2.2.2.2.2.2.2.1, x.2.2.2.2.2.2.2.2.2.2.2.2.2.1, x.2.2.2.2.2.2.2.2.2.2.2.2.2.2.1, x.2.2.2.2.2.2.2.2.2.2.2.2.2.2.2) : gX)) s2) rfl ⟨fun _ _ => rfl, fun j hj => (gup_ne (by omega)).trans (s3 j (by omega)), rfl, rfl, rfl, rfl⟩
    by_cases c32 : N < 32
    · have Gb := gD_beg (s := 4) G c32 (by omega) (by omega)
      obtain ⟨r1, r2, a1⟩ := k_up0 (t := 8) Gb (by omega) c1
      obtain ⟨S', w1⟩ := k_wordD (u := (((ub u N (Int32.ofNat 4)).1, (ub u N (Int32.ofNat 4)).2.1, (ub u N (Int32.ofNat 4)).2.2.1, (ub u N (Int32.ofNat 4)).2.2.2.1, (ub u N (Int32.ofNat 4)).2.2.2.2.1, (ub u N (Int32.ofNat 4)).2.2.2.2.2.1, (ub u N (Int32.ofNat 4)).2.2.2.2.2.2.1, (ub u N (Int32.ofNat 4)).2.2.2.2.2.2.2.1, (ub u N (Int32.ofNat 4)).2.2.2.2.2.2.2.2.1, (ub u N (Int32.ofNat 4)).2.2.2.2.2.2.2.2.2.1, (ub u N (Int32.ofNat 4)).2.2.2.2.2.2.2.2.2.2.1, (ub u N (Int32.ofNat 4)).2.2.2.2.2.2.2.2.2.2.2.1, r1, (ub u N (Int32.ofNat 4)).2.2.2.2.2.2.2.2.2.2.2.2.2.1, (ub u N (Int32.ofNat 4)).2.2.2.2.2.2.2.2.2.2.2.2.2.2) : gU)) (l := 0) (by omega) r2
      refine gOb2_bad (u' := ((gup (ub u N (Int32.ofNat 4)).1 N ((((ub u N (Int32.ofNat 4)).1 N).1, ((ub u N (Int32.ofNat 4)).1 N).2.1, ((ub u N (Int32.ofNat 4)).1 N).2.2.1, ((ub u N (Int32.ofNat 4)).1 N).2.2.2.1, gup ((ub u N (Int32.ofNat 4)).1 N).2.2.2.2.1 5 0, gup ((ub u N (Int32.ofNat 4)).1 N).2.2.2.2.2 10 S') : gQ), (ub u N (Int32.ofNat 4)).2.1, (ub u N (Int32.ofNat 4)).2.2.1, (ub u N (Int32.ofNat 4)).2.2.2.1, (ub u N (Int32.ofNat 4)).2.2.2.2.1, (ub u N (Int32.ofNat 4)).2.2.2.2.2.1, (ub u N (Int32.ofNat 4)).2.2.2.2.2.2.1, (ub u N (Int32.ofNat 4)).2.2.2.2.2.2.2.1, (ub u N (Int32.ofNat 4)).2.2.2.2.2.2.2.2.1, (ub u N (Int32.ofNat 4)).2.2.2.2.2.2.2.2.2.1, (ub u N (Int32.ofNat 4)).2.2.2.2.2.2.2.2.2.2.1, (ub u N (Int32.ofNat 4)).2.2.2.2.2.2.2.2.2.2.2.1, gup (gup r1 2 6) 3 (Int32.ofNat N), (ub u N (Int32.ofNat 4)).2.2.2.2.2.2.2.2.2.2.2.2.2.1, (ub u N (Int32.ofNat 4)).2.2.2.2.2.2.2.2.2.2.2.2.2.2) : gU)) (fun y o z => ?_) b1 ⟨fun j hj => (gup_ne (by omega)).trans (gup_ne (by omega)), rfl, rfl, rfl, rfl, rfl, rfl, rfl⟩ r2 b2 b3
      rw [k_bufTop G c32]
      show ((cR_nextUpTo (some 187) (some 163) (Int32.ofNat 8) (gH (ub u N (Int32.ofNat 4)) y o z)).bind _) = _
      rw [a1, Option.bind_some, ho_187, Option.bind_some]
      show ((cR_nextWord (some 187) (some 163) (Int32.ofNat 0) (gH (((ub u N (Int32.ofNat 4)).1, (ub u N (Int32.ofNat 4)).2.1, (ub u N (Int32.ofNat 4)).2.2.1, (ub u N (Int32.ofNat 4)).2.2.2.1, (ub u N (Int32.ofNat 4)).2.2.2.2.1, (ub u N (Int32.ofNat 4)).2.2.2.2.2.1, (ub u N (Int32.ofNat 4)).2.2.2.2.2.2.1, (ub u N (Int32.ofNat 4)).2.2.2.2.2.2.2.1, (ub u N (Int32.ofNat 4)).2.2.2.2.2.2.2.2.1, (ub u N (Int32.ofNat 4)).2.2.2.2.2.2.2.2.2.1, (ub u N (Int32.ofNat 4)).2.2.2.2.2.2.2.2.2.2.1, (ub u N (Int32.ofNat 4)).2.2.2.2.2.2.2.2.2.2.2.1, r1, (ub u N (Int32.ofNat 4)).2.2.2.2.2.2.2.2.2.2.2.2.2.1, (ub u N (Int32.ofNat 4)).2.2.2.2.2.2.2.2.2.2.2.2.2.2) : gU) y o z)).bind _) = _
      rw [w1, Option.bind_some, ho_T c32, Option.bind_some, k_hold (u := (((ub u N (Int32.ofNat 4)).1, (ub u N (Int32.ofNat 4)).2.1, (ub u N (Int32.ofNat 4)).2.2.1, (ub u N (Int32.ofNat 4)).2.2.2.1, (ub u N (Int32.ofNat 4)).2.2.2.2.1, (ub u N (Int32.ofNat 4)).2.2.2.2.2.1, (ub u N (Int32.ofNat 4)).2.2.2.2.2.2.1, (ub u N (Int32.ofNat 4)).2.2.2.2.2.2.2.1, (ub u N (Int32.ofNat 4)).2.2.2.2.2.2.2.2.1, (ub u N (Int32.ofNat 4)).2.2.2.2.2.2.2.2.2.1, (ub u N (Int32.ofNat 4)).2.2.2.2.2.2.2.2.2.2.1, (ub u N (Int32.ofNat 4)).2.2.2.2.2.2.2.2.2.2.2.1, r1, (ub u N (Int32.ofNat 4)).2.2.2.2.2.2.2.2.2.2.2.2.2.1, (ub u N (Int32.ofNat 4)).2.2.2.2.2.2.2.2.2.2.2.2.2.2) : gU)) c32, Option.bind_some, k_128]
    · obtain rfl : N = 32 := by omega
      exact gOb2_bad (k_obj0 G) b1 gUf_r rfl b2 b3
/-- a stamp -/
theorem rd_stamp {D : Nat} (G : gD n0 f q m N pos u x) (h18 : x.2.1 18 = Int32.ofNat D) : gOb2 n0 f q m D N u x (cR_readObject W (some 187) (some 1) (some 163) 6 (Int32.ofNat (D + 1))) (mM_takeStamp (some 188)) := by
  have hN := G.hN
  have fN := G.fN
  have nf := G.nf
  by_cases c32 : N < 32
  · have Db := gD_beg (s := 6) G c32 (by omega) (by omega)
    have O : gO (N + 1) 6 0 ((ub u N (Int32.ofNat 6)).1 N) ((xe (xb x N (Int32.ofNat 6)) N f).1 N) := by
      show gO (N + 1) 6 0 (gup _ _ _ N) (gup _ _ _ N)
      rw [gup_eq, gup_eq]
      exact gO_new (s := 6) (by omega) (by omega)
    have f6 : ((ub u N (Int32.ofNat 6)).1 N).2.2.2.2.1 6 = 0 := Db.nd N (by omega) (by omega)
    have cl : ∀ y o z, cR_readObject W (some 187) (some 1) (some 163) 6 (Int32.ofNat (D + 1)) (gH u y o z) = (cR_nextZigzag (some 187) (some 163) (gH (ub u N (Int32.ofNat 6)) y o z)).bind fun r30 => (gv_pV r30.2 (some (3 + 5 * N)) 2 10 (.long r30.1)).bind fun h31 => cR_readObject_128 W (some 187) (Int32.ofNat N) h31 := by
      intro y o z
      rw [k_obj (D := D) (t := 6) G c32 (fun h => by rw [if_neg (by decide), if_neg (by decide), if_neg (by decide), if_neg (by decide), if_neg (by decide)]), ho_187, Option.bind_some]
      rfl
    have rf : ∀ y o z, mM_takeStamp (some 188) (gH y x o z) = (mM_lengthy (some 188) 64 (gH y (xe (xb x N (Int32.ofNat 6)) N f) o z)).bind fun r11 => (mM_plain r11.1).bind fun v12 => (gv_gI r11.2 (some 188) 7 31).bind fun v13 => if v13 = 0 then mM_takeStamp_36 (some 188) (Int32.ofNat N) r11.2 else (gv_gR r11.2 (some 188) 7 5).bind fun v15 => (gv_wJ r11.2 v15 (Int32.ofNat N) v12).bind fun h16 => mM_takeStamp_36 (some 188) (Int32.ofNat N) h16 := by
      intro y o z
      rw [mM_takeStamp, ho_188, Option.bind_some, r_no1 G c32, Option.bind_some, ho_188, Option.bind_some, r_en (x := xb x N 6) (f := f) G.gg G.be fN c32, Option.bind_some, ho_188, Option.bind_some]
      rfl
    have tb : gXf N D x (xe (xb x N (Int32.ofNat 6)) N f) := by
      refine ⟨⟨fun j hj => gup_ne (by omega), fun j hj => ?_, rfl, rfl, rfl, rfl⟩, fun _ _ => ⟨rfl, rfl, rfl⟩, fun _ _ => rfl, fun _ _ => ⟨rfl, rfl, rfl⟩⟩
      show gup (gup x.2.1 33 _) 29 _ j = _
      rw [gup_ne (by omega), gup_ne (by omega)]
    have fb : gUf N u (ub u N (Int32.ofNat 6)) := ⟨fun j hj => gup_ne (by omega), rfl, rfl, rfl, rfl, rfl, rfl, rfl⟩
    have hb18 : (xe (xb x N (Int32.ofNat 6)) N f).2.1 18 = Int32.ofNat D := h18
    generalize ub u N (Int32.ofNat 6) = u1 at Db O f6 cl fb
    generalize xe (xb x N (Int32.ofNat 6)) N f = x1 at Db O rf tb hb18
    rcases d_zig Db with ⟨a, b, r, s, pos', k1, k2, rfl, k4, k5, k6, k7⟩ | ⟨a, b, r, s, k1, k2, k3, k4, k5⟩
    · have D2 : gD n0 f q m (N + 1) pos' ((gup u1.1 N (((u1.1 N).1, (u1.1 N).2.1, (u1.1 N).2.2.1, (u1.1 N).2.2.2.1, (u1.1 N).2.2.2.2.1, gup (u1.1 N).2.2.2.2.2 10 (gzz b)) : gQ), u1.2.1, u1.2.2.1, u1.2.2.2.1, u1.2.2.2.2.1, u1.2.2.2.2.2.1, u1.2.2.2.2.2.2.1, u1.2.2.2.2.2.2.2.1, u1.2.2.2.2.2.2.2.2.1, u1.2.2.2.2.2.2.2.2.2.1, u1.2.2.2.2.2.2.2.2.2.2.1, u1.2.2.2.2.2.2.2.2.2.2.2.1, r, u1.2.2.2.2.2.2.2.2.2.2.2.2.2.1, u1.2.2.2.2.2.2.2.2.2.2.2.2.2.2) : gU) ((gup x1.1 N (((x1.1 N).1, (x1.1 N).2.1, (x1.1 N).2.2.1, (x1.1 N).2.2.2.1, (x1.1 N).2.2.2.2.1, (x1.1 N).2.2.2.2.2.1, (x1.1 N).2.2.2.2.2.2.1, gzz b) : gP), s, x1.2.2.1, x1.2.2.2.1, x1.2.2.2.2.1, x1.2.2.2.2.2.1, x1.2.2.2.2.2.2.1, x1.2.2.2.2.2.2.2.1, x1.2.2.2.2.2.2.2.2.1, x1.2.2.2.2.2.2.2.2.2.1, x1.2.2.2.2.2.2.2.2.2.2.1, x1.2.2.2.2.2.2.2.2.2.2.2.1, x1.2.2.2.2.2.2.2.2.2.2.2.2.1, x1.2.2.2.2.2.2.2.2.2.2.2.2.2.1, x1.2.2.2.2.2.2.2.2.2.2.2.2.2.2.1, x1.2.2.2.2.2.2.2.2.2.2.2.2.2.2.2) : gX) := gD_ob (k := N) k4 ⟨6, 0, gO_stp O⟩ f6
      refine ⟨((gup u1.1 N (((u1.1 N).1, (u1.1 N).2.1, (u1.1 N).2.2.1, (u1.1 N).2.2.2.1, (u1.1 N).2.2.2.2.1, gup (u1.1 N).2.2.2.2.2 10 (gzz b)) : gQ), u1.2.1, u1.2.2.1, u1.2.2.2.1, u1.2.2.2.2.1, u1.2.2.2.2.2.1, u1.2.2.2.2.2.2.1, u1.2.2.2.2.2.2.2.1, u1.2.2.2.2.2.2.2.2.1, u1.2.2.2.2.2.2.2.2.2.1, u1.2.2.2.2.2.2.2.2.2.2.1, u1.2.2.2.2.2.2.2.2.2.2.2.1, gup (gup r 2 6) 3 (Int32.ofNat N), u1.2.2.2.2.2.2.2.2.2.2.2.2.2.1, u1.2.2.2.2.2.2.2.2.2.2.2.2.2.2) : gU), fun y o z => ?_, gUf_trans fb ⟨fun j hj => gup_ne (by omega), rfl, rfl, rfl, rfl, rfl, rfl, rfl⟩ (Nat.le_refl N), Or.inl ⟨((gup x1.1 N (((x1.1 N).1, (x1.1 N).2.1, (x1.1 N).2.2.1, (x1.1 N).2.2.2.1, (x1.1 N).2.2.2.2.1, (x1.1 N).2.2.2.2.2.1, (x1.1 N).2.2.2.2.2.2.1, gzz b) : gP), gup (gup s 35 6) 36 (Int32.ofNat N), x1.2.2.1, x1.2.2.2.1, x1.2.2.2.2.1, x1.2.2.2.2.2.1, x1.2.2.2.2.2.2.1, x1.2.2.2.2.2.2.2.1, x1.2.2.2.2.2.2.2.2.1, x1.2.2.2.2.2.2.2.2.2.1, x1.2.2.2.2.2.2.2.2.2.2.1, x1.2.2.2.2.2.2.2.2.2.2.2.1, x1.2.2.2.2.2.2.2.2.2.2.2.2.1, x1.2.2.2.2.2.2.2.2.2.2.2.2.2.1, x1.2.2.2.2.2.2.2.2.2.2.2.2.2.2.1, x1.2.2.2.2.2.2.2.2.2.2.2.2.2.2.2) : gX), fun y o z => ?_, N + 1, pos', gD_x D2 rfl rfl rfl rfl (fun i a b => ?_) rfl (fun i a b c => ?_) rfl rfl, by omega, gXf_trans tb ⟨⟨fun j hj => gup_ne (by omega), fun j hj => ?_, rfl, rfl, rfl, rfl⟩, fun _ _ => ⟨rfl, rfl, rfl⟩, fun _ _ => rfl, fun _ _ => ⟨rfl, rfl, rfl⟩⟩ (Nat.le_refl N) (Nat.le_refl D), (k5 18 (by omega)).trans hb18, rfl, rfl, ⟨6, by omega, rfl, rfl, fun _ => ⟨N, by omega, by omega, rfl⟩⟩⟩⟩
      · rw [cl, k1, Option.bind_some, hqT_10 c32, Option.bind_some, k_128]
      · rw [rf, k2, Option.bind_some, m_plain, Option.bind_some, hi_188_31, Option.bind_some, if_neg (show ¬ s 31 = 0 by rw [show s 31 = 1 from k4.gg]; exact i_10), hr_188_5, Option.bind_some, hb_192 c32, Option.bind_some, mM_takeStamp_36, ho_188, Option.bind_some, r_got, Option.bind_some]
      · show gup (gup r 2 6) 3 (Int32.ofNat N) i = r i
        rw [gup_ne b, gup_ne a]
      · show gup (gup s 35 6) 36 (Int32.ofNat N) i = s i
        rw [gup_ne c, gup_ne b]
      · show gup (gup s 35 6) 36 (Int32.ofNat N) j = _
        rw [gup_ne (by omega), gup_ne (by omega)]
        exact k5 j (by omega)
    · refine gOb2_bad (u' := ((gup u1.1 N (((u1.1 N).1, (u1.1 N).2.1, (u1.1 N).2.2.1, (u1.1 N).2.2.2.1, (u1.1 N).2.2.2.2.1, gup (u1.1 N).2.2.2.2.2 10 a) : gQ), u1.2.1, u1.2.2.1, u1.2.2.2.1, u1.2.2.2.2.1, u1.2.2.2.2.2.1, u1.2.2.2.2.2.2.1, u1.2.2.2.2.2.2.2.1, u1.2.2.2.2.2.2.2.2.1, u1.2.2.2.2.2.2.2.2.2.1, u1.2.2.2.2.2.2.2.2.2.2.1, u1.2.2.2.2.2.2.2.2.2.2.2.1, gup (gup r 2 6) 3 (Int32.ofNat N), u1.2.2.2.2.2.2.2.2.2.2.2.2.2.1, u1.2.2.2.2.2.2.2.2.2.2.2.2.2.2) : gU)) (x' := ((x1.1, gup (gup s 35 6) 36 (Int32.ofNat N), x1.2.2.1, x1.2.2.2.1, x1.2.2.2.2.1, x1.2.2.2.2.2.1, x1.2.2.2.2.2.2.1, x1.2.2.2.2.2.2.2.1, x1.2.2.2.2.2.2.2.2.1, x1.2.2.2.2.2.2.2.2.2.1, x1.2.2.2.2.2.2.2.2.2.2.1, x1.2.2.2.2.2.2.2.2.2.2.2.1, x1.2.2.2.2.2.2.2.2.2.2.2.2.1, x1.2.2.2.2.2.2.2.2.2.2.2.2.2.1, x1.2.2.2.2.2.2.2.2.2.2.2.2.2.2.1, x1.2.2.2.2.2.2.2.2.2.2.2.2.2.2.2) : gX)) (fun y o z => ?_) (fun y o z => ?_) (gUf_trans fb ⟨fun j hj => gup_ne (by omega), rfl, rfl, rfl, rfl, rfl, rfl, rfl⟩ (Nat.le_refl N)) k3 k4 (gXd_trans tb.fd ⟨fun _ _ => rfl, fun j hj => ?_, rfl, rfl, rfl, rfl⟩ (Nat.le_refl N))
      · rw [cl, k1, Option.bind_some, hqT_10 c32, Option.bind_some, k_128]
      · rw [rf, k2, Option.bind_some, m_plain, Option.bind_some, hi_188_31, Option.bind_some, if_pos (show s 31 = 0 from k4), mM_takeStamp_36, ho_188, Option.bind_some, r_got, Option.bind_some]
      · show gup (gup s 35 6) 36 (Int32.ofNat N) j = _
        rw [gup_ne (by omega), gup_ne (by omega)]
        exact k5 j (by omega)
  · obtain rfl : N = 32 := by omega
    obtain ⟨g, hg⟩ : ∃ g, 1000000000000000 = g + 1 := ⟨999999999999999, rfl⟩
    have e31 : gup x.2.1 31 0 31 = 0 := rfl
    refine gOb2_bad (x' := ((x.1, gup (gup (gup x.2.1 31 0) 35 6) 36 31, x.2.2.1, x.2.2.2.1, x.2.2.2.2.1, x.2.2.2.2.2.1, x.2.2.2.2.2.2.1, x.2.2.2.2.2.2.2.1, x.2.2.2.2.2.2.2.2.1, x.2.2.2.2.2.2.2.2.2.1, x.2.2.2.2.2.2.2.2.2.2.1, x.2.2.2.2.2.2.2.2.2.2.2.1, x.2.2.2.2.2.2.2.2.2.2.2.2.1, x.2.2.2.2.2.2.2.2.2.2.2.2.2.1, x.2.2.2.2.2.2.2.2.2.2.2.2.2.2.1, x.2.2.2.2.2.2.2.2.2.2.2.2.2.2.2) : gX)) (k_obj0 G) (fun y o z => ?_) gUf_r rfl rfl ⟨fun _ _ => rfl, fun j hj => ?_, rfl, rfl, rfl, rfl⟩
    · rw [mM_takeStamp, ho_188, Option.bind_some, r_no0 G, Option.bind_some, ho_188, Option.bind_some, r_en0 (x := ((x.1, gup x.2.1 31 0, x.2.2.1, x.2.2.2.1, x.2.2.2.2.1, x.2.2.2.2.2.1, x.2.2.2.2.2.2.1, x.2.2.2.2.2.2.2.1, x.2.2.2.2.2.2.2.2.1, x.2.2.2.2.2.2.2.2.2.1, x.2.2.2.2.2.2.2.2.2.2.1, x.2.2.2.2.2.2.2.2.2.2.2.1, x.2.2.2.2.2.2.2.2.2.2.2.2.1, x.2.2.2.2.2.2.2.2.2.2.2.2.2.1, x.2.2.2.2.2.2.2.2.2.2.2.2.2.2.1, x.2.2.2.2.2.2.2.2.2.2.2.2.2.2.2) : gX)) rfl, Option.bind_some, ho_188, Option.bind_some, mM_lengthy, hg, r_lstop (x := ((x.1, gup x.2.1 31 0, x.2.2.1, x.2.2.2.1, x.2.2.2.2.1, x.2.2.2.2.2.1, x.2.2.2.2.2.2.1, x.2.2.2.2.2.2.2.1, x.2.2.2.2.2.2.2.2.1, x.2.2.2.2.2.2.2.2.2.1, x.2.2.2.2.2.2.2.2.2.2.1, x.2.2.2.2.2.2.2.2.2.2.2.1, x.2.2.2.2.2.2.2.2.2.2.2.2.1, x.2.2.2.2.2.2.2.2.2.2.2.2.2.1, x.2.2.2.2.2.2.2.2.2.2.2.2.2.2.1, x.2.2.2.2.2.2.2.2.2.2.2.2.2.2.2) : gX)) rfl, Option.bind_some, m_plain, Option.bind_some, hi_188_31, Option.bind_some, if_pos (show gup x.2.1 31 0 31 = 0 from e31), mM_takeStamp_36, ho_188, Option.bind_some, r_got, Option.bind_some]
    · show gup (gup (gup x.2.1 31 0) 35 6) 36 31 j = _
      rw [gup_ne (by omega), gup_ne (by omega), gup_ne (by omega)]
end H
end
