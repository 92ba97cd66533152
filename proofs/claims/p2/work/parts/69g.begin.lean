/-! read: objects begun, the top of the pile -/
abbrev gWr := Option Nat → Option Nat → Option Nat → Int32 → gx_H → Option gx_H
def gIR (n0 f q m D B : Nat) (W : gWr) : Prop := ∀ (u : gU) (x : gX) (N pos : Nat), gD n0 f q m N pos u x → x.2.1 18 = Int32.ofNat D → gVal n0 f q m D B N 1 u x (W (some 187) (some 1) (some 163) (Int32.ofNat (D + 1)))
def gDe (W : gWr) : Prop := ∀ (u : gU) (y : gX) (o : Nat → Int64) (z : gx_H) (d : Int32), u.2.2.2.2.2.2.2.2.2.2.2.2.1 1 = 1 → W (some 187) (some 1) (some 163) d (gH u y o z) = some (gH u y o z)
section H
variable {n0 f q m N pos : Nat} {u : gU} {x : gX}
theorem gVal_step {D B B2 N : Nat} {a b : Int32} {u2 : gU} {x2 : gX} {F F2 : gx_H → Option gx_H} (h : gTo B a b x x2) (hu : gUf N u u2) (hx : gXf N D x x2) (hF : ∀ y o z, F (gH u y o z) = F2 (gH u2 y o z)) (k : gVal n0 f q m D B2 N b u2 x2 F2) : gVal n0 f q m D (B + B2) N a u x F := by
  obtain ⟨u', k1, k2, k3⟩ := k
  refine ⟨u', fun y o z => (hF y o z).trans (k1 y o z), gUf_trans hu k2 (Nat.le_refl _), ?_⟩
  rcases k3 with ⟨x', l1, N', pos', l2, l3, l4, l5⟩ | ⟨l0, x', l1, l2⟩
  · exact Or.inl ⟨x', gTo_T h l1, N', pos', l2, l3, gXf_trans hx l4 (Nat.le_refl _) (Nat.le_refl _), l5⟩
  · exact Or.inr ⟨l0, x', gTo_F h l1, gXd_trans hx.fd l2 (Nat.le_refl _)⟩
theorem gVal_mono {D B B2 N : Nat} {a : Int32} {F : gx_H → Option gx_H} (k : gVal n0 f q m D B N a u x F) (h : B ≤ B2) : gVal n0 f q m D B2 N a u x F := by
  obtain ⟨u', k1, k2, k3⟩ := k
  refine ⟨u', k1, k2, ?_⟩
  rcases k3 with ⟨x', l1, l2⟩ | ⟨l0, x', l1, l2⟩
  · exact Or.inl ⟨x', gRT_mono l1 h, l2⟩
  · exact Or.inr ⟨l0, x', gRF_mono l1 h, l2⟩
theorem gVal_bad {D B N : Nat} {a : Int32} {u' : gU} {x' : gX} {F : gx_H → Option gx_H} (h1 : ∀ y o z, F (gH u y o z) = some (gH u' y o z)) (h2 : gUf N u u') (h3 : u'.2.2.2.2.2.2.2.2.2.2.2.2.1 1 = 1) (h4 : gRF B a x x') (h5 : gXd N x x') : gVal n0 f q m D B N a u x F := ⟨u', h1, h2, Or.inr ⟨h3, x', h4, h5⟩⟩
/-- an object more on both sides -/
theorem gD_new {q' : gQ} {p' : gP} {r s : Nat → Int32} {w : Nat → Int32} (D : gD n0 f q m N pos u x) (hN : N < 32) (ho : ∃ s c, gO (N + 1) s c q' p') (h6 : q'.2.2.2.2.1 6 = 0) (h1 : r 1 = Int32.ofNat (N + 1)) (s33 : s 33 = Int32.ofNat (N + 1)) (s29 : s 29 = Int32.ofNat (N + 1 - f)) (sk : ∀ i, ¬ i = 33 → ¬ i = 29 → s i = x.2.1 i) (hw : w = gup x.2.2.2.2.2.2.2.2.2.2.2.2.2.2.2 (N - f) (Int32.ofNat N)) : gD n0 f q m (N + 1) pos ((gup u.1 N q', u.2.1, r, u.2.2.2.1, u.2.2.2.2.1, u.2.2.2.2.2.1, u.2.2.2.2.2.2.1, u.2.2.2.2.2.2.2.1, u.2.2.2.2.2.2.2.2.1, u.2.2.2.2.2.2.2.2.2.1, u.2.2.2.2.2.2.2.2.2.2.1, u.2.2.2.2.2.2.2.2.2.2.2.1, u.2.2.2.2.2.2.2.2.2.2.2.2.1, u.2.2.2.2.2.2.2.2.2.2.2.2.2.1, u.2.2.2.2.2.2.2.2.2.2.2.2.2.2) : gU) ((gup x.1 N p', s, x.2.2.1, x.2.2.2.1, x.2.2.2.2.1, x.2.2.2.2.2.1, x.2.2.2.2.2.2.1, x.2.2.2.2.2.2.2.1, x.2.2.2.2.2.2.2.2.1, x.2.2.2.2.2.2.2.2.2.1, x.2.2.2.2.2.2.2.2.2.2.1, x.2.2.2.2.2.2.2.2.2.2.2.1, x.2.2.2.2.2.2.2.2.2.2.2.2.1, x.2.2.2.2.2.2.2.2.2.2.2.2.2.1, x.2.2.2.2.2.2.2.2.2.2.2.2.2.2.1, w) : gX) := by
  have fN := D.fN
  have nf := D.nf
  refine ⟨by omega, D.nf, by omega, h1, s33, (sk 1 (by omega) (by omega)).trans D.xo, gob_new D.ob ho, fun k a b => ?_, D.wr, (sk 31 (by omega) (by omega)).trans D.gg, D.pu, (sk 32 (by omega) (by omega)).trans D.px, D.hp, D.hm, D.um, (sk 15 (by omega) (by omega)).trans D.xm, D.bs, D.b8, D.fi, D.fh, D.hc, (sk 12 (by omega) (by omega)).trans D.xq, s29, fun i hi => ?_⟩
  · show (gup u.1 N q' k).2.2.2.2.1 6 = 0
    by_cases e : k = N
    · subst e; rw [gup_eq]; exact h6
    · rw [gup_ne e]; exact D.nd k a (by omega)
  · show w i = _
    rw [hw]
    by_cases e : i = N - f
    · subst e; rw [gup_eq, show f + (N - f) = N by omega]
    · rw [gup_ne e]; exact D.ro i (by omega)
/-- one object changed on both sides -/
theorem gD_ob {k : Nat} {q' : gQ} {p' : gP} (D : gD n0 f q m N pos u x) (ho : ∃ s c, gO N s c q' p') (h6 : q'.2.2.2.2.1 6 = 0) : gD n0 f q m N pos ((gup u.1 k q', u.2.1, u.2.2.1, u.2.2.2.1, u.2.2.2.2.1, u.2.2.2.2.2.1, u.2.2.2.2.2.2.1, u.2.2.2.2.2.2.2.1, u.2.2.2.2.2.2.2.2.1, u.2.2.2.2.2.2.2.2.2.1, u.2.2.2.2.2.2.2.2.2.2.1, u.2.2.2.2.2.2.2.2.2.2.2.1, u.2.2.2.2.2.2.2.2.2.2.2.2.1, u.2.2.2.2.2.2.2.2.2.2.2.2.2.1, u.2.2.2.2.2.2.2.2.2.2.2.2.2.2) : gU) ((gup x.1 k p', x.2.1, x.2.2.1, x.2.2.2.1, x.2.2.2.2.1, x.2.2.2.2.2.1, x.2.2.2.2.2.2.1, x.2.2.2.2.2.2.2.1, x.2.2.2.2.2.2.2.2.1, x.2.2.2.2.2.2.2.2.2.1, x.2.2.2.2.2.2.2.2.2.2.1, x.2.2.2.2.2.2.2.2.2.2.2.1, x.2.2.2.2.2.2.2.2.2.2.2.2.1, x.2.2.2.2.2.2.2.2.2.2.2.2.2.1, x.2.2.2.2.2.2.2.2.2.2.2.2.2.2.1, x.2.2.2.2.2.2.2.2.2.2.2.2.2.2.2) : gX) := by
  refine ⟨D.hN, D.nf, D.fN, D.un, D.xn, D.xo, gob_up D.ob ho, fun j a b => ?_, D.wr, D.gg, D.pu, D.px, D.hp, D.hm, D.um, D.xm, D.bs, D.b8, D.fi, D.fh, D.hc, D.xq, D.be, D.ro⟩
  show (gup u.1 k q' j).2.2.2.2.1 6 = 0
  by_cases e : j = k
  · subst e; rw [gup_eq]; exact h6
  · rw [gup_ne e]; exact D.nd j a b
/-- what the tie doesn't speak of -/
theorem gD_x {u' : gU} {x' : gX} (D : gD n0 f q m N pos u x) (hC : u'.1 = u.1) (h1 : u'.2.2.1 = u.2.2.1) (h3 : u'.2.2.2.1 = u.2.2.2.1) (h4 : u'.2.2.2.2.1 = u.2.2.2.2.1) (h7 : ∀ i, ¬ i = 2 → ¬ i = 3 → u'.2.2.2.2.2.2.2.2.2.2.2.2.1 i = u.2.2.2.2.2.2.2.2.2.2.2.2.1 i) (hR : x'.1 = x.1) (hk : ∀ i, ¬ i = 18 → ¬ i = 35 → ¬ i = 36 → x'.2.1 i = x.2.1 i) (h200 : x'.2.2.2.2.2.1 = x.2.2.2.2.2.1) (h210 : x'.2.2.2.2.2.2.2.2.2.2.2.2.2.2.2 = x.2.2.2.2.2.2.2.2.2.2.2.2.2.2.2) : gD n0 f q m N pos u' x' :=
  ⟨D.hN, D.nf, D.fN, by rw [h1]; exact D.un, (hk 33 (by omega) (by omega) (by omega)).trans D.xn, (hk 1 (by omega) (by omega) (by omega)).trans D.xo, by rw [hC, hR]; exact D.ob, by rw [hC]; exact D.nd, (h7 1 (by omega) (by omega)).trans D.wr, (hk 31 (by omega) (by omega) (by omega)).trans D.gg, (h7 0 (by omega) (by omega)).trans D.pu, (hk 32 (by omega) (by omega) (by omega)).trans D.px, D.hp, D.hm, by rw [h3]; exact D.um, (hk 15 (by omega) (by omega) (by omega)).trans D.xm, by rw [h200, h4]; exact D.bs, by rw [h4]; exact D.b8, (h7 6 (by omega) (by omega)).trans D.fi, (h7 4 (by omega) (by omega)).trans D.fh, (h7 5 (by omega) (by omega)).trans D.hc, (hk 12 (by omega) (by omega) (by omega)).trans D.xq, (hk 29 (by omega) (by omega) (by omega)).trans D.be, by rw [h210]; exact D.ro⟩
def ub (u : gU) (N : Nat) (s : Int32) : gU := ((gup u.1 N (gq_new (u.1 N) s), u.2.1, gup u.2.2.1 1 (Int32.ofNat (N + 1)), u.2.2.2.1, u.2.2.2.2.1, u.2.2.2.2.2.1, u.2.2.2.2.2.2.1, u.2.2.2.2.2.2.2.1, u.2.2.2.2.2.2.2.2.1, u.2.2.2.2.2.2.2.2.2.1, u.2.2.2.2.2.2.2.2.2.2.1, u.2.2.2.2.2.2.2.2.2.2.2.1, u.2.2.2.2.2.2.2.2.2.2.2.2.1, u.2.2.2.2.2.2.2.2.2.2.2.2.2.1, u.2.2.2.2.2.2.2.2.2.2.2.2.2.2) : gU)
def xb (x : gX) (N : Nat) (s : Int32) : gX := ((gup x.1 N (gp_new (x.1 N) s), gup x.2.1 33 (Int32.ofNat (N + 1)), x.2.2.1, x.2.2.2.1, x.2.2.2.2.1, x.2.2.2.2.2.1, x.2.2.2.2.2.2.1, x.2.2.2.2.2.2.2.1, x.2.2.2.2.2.2.2.2.1, x.2.2.2.2.2.2.2.2.2.1, x.2.2.2.2.2.2.2.2.2.2.1, x.2.2.2.2.2.2.2.2.2.2.2.1, x.2.2.2.2.2.2.2.2.2.2.2.2.1, x.2.2.2.2.2.2.2.2.2.2.2.2.2.1, x.2.2.2.2.2.2.2.2.2.2.2.2.2.2.1, x.2.2.2.2.2.2.2.2.2.2.2.2.2.2.2) : gX)
def xe (x : gX) (N f : Nat) : gX := ((x.1, gup x.2.1 29 (Int32.ofNat (N + 1 - f)), x.2.2.1, x.2.2.2.1, x.2.2.2.2.1, x.2.2.2.2.2.1, x.2.2.2.2.2.2.1, x.2.2.2.2.2.2.2.1, x.2.2.2.2.2.2.2.2.1, x.2.2.2.2.2.2.2.2.2.1, x.2.2.2.2.2.2.2.2.2.2.1, x.2.2.2.2.2.2.2.2.2.2.2.1, x.2.2.2.2.2.2.2.2.2.2.2.2.1, x.2.2.2.2.2.2.2.2.2.2.2.2.2.1, x.2.2.2.2.2.2.2.2.2.2.2.2.2.2.1, gup x.2.2.2.2.2.2.2.2.2.2.2.2.2.2.2 (N - f) (Int32.ofNat N)) : gX)
theorem gD_beg {s : Nat} (D : gD n0 f q m N pos u x) (hN : N < 32) (h8 : s < 8) (h5 : ¬ s = 5) : gD n0 f q m (N + 1) pos (ub u N (Int32.ofNat s)) (xe (xb x N (Int32.ofNat s)) N f) :=
  gD_new D hN ⟨s, 0, gO_new h8 h5⟩ rfl rfl (gup_ne (by omega)) rfl (fun i a b => by
    show gup (gup x.2.1 33 (Int32.ofNat (N + 1))) 29 (Int32.ofNat (N + 1 - f)) i = _
    rw [gup_ne b, gup_ne a]) rfl
theorem k_bt {s : Int32} (D : gD n0 f q m N pos u x) (hN : N < 32) : ∀ y o z, cR_beginThing (some 187) (some 1) s (gH u y o z) = some (some (3 + 5 * N), gH (ub u N s) y o z) := by
  intro y o z
  have e : (ub u N s).2.2.1 1 = Int32.ofNat (N + 1) := rfl
  unfold cR_beginThing
  rw [ho_1, Option.bind_some, k_begin D.un hN, Option.bind_some, if_neg (n_ne1 (by omega)), cR_beginThing_16, ho_1, Option.bind_some]
  show ((cS_thingAt (some 1) (Int32.ofNat N) (gH (ub u N s) y o z)).bind _) = _
  rw [k_tin e (by omega) (by omega), Option.bind_some]
  rfl
theorem k_bt0 {s : Int32} (D : gD n0 f q m 32 pos u x) : ∀ y o z, cR_beginThing (some 187) (some 1) s (gH u y o z) = some (none, gH ((u.1, u.2.1, u.2.2.1, u.2.2.2.1, u.2.2.2.2.1, u.2.2.2.2.2.1, u.2.2.2.2.2.2.1, u.2.2.2.2.2.2.2.1, u.2.2.2.2.2.2.2.2.1, u.2.2.2.2.2.2.2.2.2.1, u.2.2.2.2.2.2.2.2.2.2.1, u.2.2.2.2.2.2.2.2.2.2.2.1, gup u.2.2.2.2.2.2.2.2.2.2.2.2.1 1 1, u.2.2.2.2.2.2.2.2.2.2.2.2.2.1, u.2.2.2.2.2.2.2.2.2.2.2.2.2.2) : gU) y o z) := by
  intro y o z
  unfold cR_beginThing
  rw [ho_1, Option.bind_some, k_beginF D.un, Option.bind_some, if_pos rfl, hp_187_1, Option.bind_some, cR_beginThing_16, ho_1, Option.bind_some, k_tout (u := ((u.1, u.2.1, u.2.2.1, u.2.2.2.1, u.2.2.2.2.1, u.2.2.2.2.2.1, u.2.2.2.2.2.2.1, u.2.2.2.2.2.2.2.1, u.2.2.2.2.2.2.2.2.1, u.2.2.2.2.2.2.2.2.2.1, u.2.2.2.2.2.2.2.2.2.2.1, u.2.2.2.2.2.2.2.2.2.2.2.1, gup u.2.2.2.2.2.2.2.2.2.2.2.2.1 1 1, u.2.2.2.2.2.2.2.2.2.2.2.2.2.1, u.2.2.2.2.2.2.2.2.2.2.2.2.2.2) : gU)) (n := 32) D.un (Or.inl (show (-1 : Int32) < 0 by decide)), Option.bind_some]
theorem r_no1 {s : Int32} (D : gD n0 f q m N pos u x) (hN : N < 32) : ∀ y o z, mM_nextObject (some 188) s (gH y x o z) = some (Int32.ofNat N, gH y (xb x N s) o z) := by
  intro y o z
  have es : (((x.1, gup x.2.1 31 1, x.2.2.1, x.2.2.2.1, x.2.2.2.2.1, x.2.2.2.2.2.1, x.2.2.2.2.2.2.1, x.2.2.2.2.2.2.2.1, x.2.2.2.2.2.2.2.2.1, x.2.2.2.2.2.2.2.2.2.1, x.2.2.2.2.2.2.2.2.2.2.1, x.2.2.2.2.2.2.2.2.2.2.2.1, x.2.2.2.2.2.2.2.2.2.2.2.2.1, x.2.2.2.2.2.2.2.2.2.2.2.2.2.1, x.2.2.2.2.2.2.2.2.2.2.2.2.2.2.1, x.2.2.2.2.2.2.2.2.2.2.2.2.2.2.2) : gX) : gX) = x := by rw [gup_same D.gg]
  have hx : gv_pV (gH y x o z) (some 188) 7 31 (.int 1) = some (gH y x o z) := by
    rw [hp_188_31]
    exact congrArg (fun w => some (gH y w o z)) es
  have g1 : ¬ x.2.1 31 = 0 := by rw [D.gg]; exact i_10
  have l32 : Int32.ofNat N < 32 := n_ltl (m := 32) (by omega) (by omega) hN
  rw [mM_nextObject, hi_188_31, Option.bind_some, if_neg g1, hi_188_33, Option.bind_some, D.xn, if_pos l32, mM_nextObject_22, if_neg (by decide), hx, Option.bind_some, hi_188_31, Option.bind_some, if_neg g1, hi_188_33, Option.bind_some, D.xn, mM_nextObject_41, hi_188_31, Option.bind_some, if_neg g1, ho_188, Option.bind_some]
  simp only [mM_begin, hr_188_2, Option.bind_some, hb_189 hN, hr_188_3, hb_190 hN, hr_188_4, hb_191 hN, hr_188_5, hb_192 hN, gup_eq, gup_gup, hi_188_33, D.xn, n_succ, hp_188_33, show (0 : Int32) &&& 1 = 0 from rfl]
  rfl
theorem r_no0 {s : Int32} (D : gD n0 f q m 32 pos u x) : ∀ y o z, mM_nextObject (some 188) s (gH y x o z) = some (31, gH y ((x.1, gup x.2.1 31 0, x.2.2.1, x.2.2.2.1, x.2.2.2.2.1, x.2.2.2.2.2.1, x.2.2.2.2.2.2.1, x.2.2.2.2.2.2.2.1, x.2.2.2.2.2.2.2.2.1, x.2.2.2.2.2.2.2.2.2.1, x.2.2.2.2.2.2.2.2.2.2.1, x.2.2.2.2.2.2.2.2.2.2.2.1, x.2.2.2.2.2.2.2.2.2.2.2.2.1, x.2.2.2.2.2.2.2.2.2.2.2.2.2.1, x.2.2.2.2.2.2.2.2.2.2.2.2.2.2.1, x.2.2.2.2.2.2.2.2.2.2.2.2.2.2.2) : gX) o z) := by
  intro y o z
  have g1 : ¬ x.2.1 31 = 0 := by rw [D.gg]; exact i_10
  have e31 : gup x.2.1 31 0 31 = 0 := rfl
  rw [mM_nextObject, hi_188_31, Option.bind_some, if_neg g1, hi_188_33, Option.bind_some, D.xn, if_neg (by decide), mM_nextObject_21, mM_nextObject_22, if_neg (by decide), hp_188_31, Option.bind_some, hi_188_31, Option.bind_some, if_pos (show gup x.2.1 31 0 31 = 0 from e31), mM_nextObject_41, hi_188_31, Option.bind_some, if_pos (show gup x.2.1 31 0 31 = 0 from e31)]
theorem r_noD {s : Int32} (h : x.2.1 31 = 0) : ∀ y o z, mM_nextObject (some 188) s (gH y x o z) = some (31, gH y ((x.1, gup x.2.1 31 0, x.2.2.1, x.2.2.2.1, x.2.2.2.2.1, x.2.2.2.2.2.1, x.2.2.2.2.2.2.1, x.2.2.2.2.2.2.2.1, x.2.2.2.2.2.2.2.2.1, x.2.2.2.2.2.2.2.2.2.1, x.2.2.2.2.2.2.2.2.2.2.1, x.2.2.2.2.2.2.2.2.2.2.2.1, x.2.2.2.2.2.2.2.2.2.2.2.2.1, x.2.2.2.2.2.2.2.2.2.2.2.2.2.1, x.2.2.2.2.2.2.2.2.2.2.2.2.2.2.1, x.2.2.2.2.2.2.2.2.2.2.2.2.2.2.2) : gX) o z) := by
  intro y o z
  have e31 : gup x.2.1 31 0 31 = 0 := rfl
  rw [mM_nextObject, hi_188_31, Option.bind_some, if_pos h, mM_nextObject_21, mM_nextObject_22, if_neg (by decide), hp_188_31, Option.bind_some, hi_188_31, Option.bind_some, if_pos (show gup x.2.1 31 0 31 = 0 from e31), mM_nextObject_41, hi_188_31, Option.bind_some, if_pos (show gup x.2.1 31 0 31 = 0 from e31)]
theorem r_en (hg : x.2.1 31 = 1) (hb : x.2.1 29 = Int32.ofNat (N - f)) (hf : f ≤ N) (hN : N < 32) : ∀ y o z, mM_enroll (some 188) (Int32.ofNat N) (gH y x o z) = some (gH y (xe x N f) o z) := by
  intro y o z
  have g1 : ¬ x.2.1 31 = 0 := by rw [hg]; exact i_10
  rw [mM_enroll, hi_188_31, Option.bind_some, if_neg g1, hr_188_34, Option.bind_some, hi_188_29, Option.bind_some, hb, hb_210 (by omega), Option.bind_some, hi_188_29, Option.bind_some]
  show ((gv_pV _ _ _ _ (.int (x.2.1 29 + 1))).bind _) = _
  rw [hb, n_succ, hp_188_29, Option.bind_some, show N - f + 1 = N + 1 - f by omega]
  rfl
theorem r_en0 {v : Int32} (hg : x.2.1 31 = 0) : ∀ y o z, mM_enroll (some 188) v (gH y x o z) = some (gH y x o z) := by
  intro y o z
  rw [mM_enroll, hi_188_31, Option.bind_some, if_pos hg]
theorem r_pushR {D : Nat} {a b : Int32} (h18 : x.2.1 18 = Int32.ofNat D) (hD : D < 14) : ∀ y o z, mM_push (some 188) a b (gH y x o z) = some (gH y ((x.1, gup x.2.1 18 (Int32.ofNat (D + 1)), x.2.2.1, x.2.2.2.1, x.2.2.2.2.1, x.2.2.2.2.2.1, gup x.2.2.2.2.2.2.1 D a, gup x.2.2.2.2.2.2.2.1 D 0, gup x.2.2.2.2.2.2.2.2.1 D b, x.2.2.2.2.2.2.2.2.2.1, x.2.2.2.2.2.2.2.2.2.2.1, x.2.2.2.2.2.2.2.2.2.2.2.1, x.2.2.2.2.2.2.2.2.2.2.2.2.1, x.2.2.2.2.2.2.2.2.2.2.2.2.2.1, x.2.2.2.2.2.2.2.2.2.2.2.2.2.2.1, x.2.2.2.2.2.2.2.2.2.2.2.2.2.2.2) : gX) o z) := by
  intro y o z
  simp only [mM_push, hr_188_19, Option.bind_some, hi_188_18, h18, hb_201 hD, hr_188_20, hb_202 hD, hr_188_21, hb_203 hD, n_succ, hp_188_18]
/-- the top of the pile -/
def gPi (D k i c : Nat) (x : gX) : Prop := x.2.1 18 = Int32.ofNat (D + 1) ∧ x.2.2.2.2.2.2.1 D = Int32.ofNat k ∧ x.2.2.2.2.2.2.2.1 D = Int32.ofNat i ∧ x.2.2.2.2.2.2.2.2.1 D = Int32.ofNat c
theorem r_go {D k i c : Nat} {s : Int32} (P : gPi D k i c x) (hD : D < 14) (hk : k < 32) (ht : (x.1 k).2.2.2.2.1 = s) : ∀ y o z, mM_goesOn (some 188) (gH y x o z) = mM_goesOn_28 (some 188) (Int32.ofNat D) (Int32.ofNat k) s (gH y x o z) := by
  intro y o z
  obtain ⟨p1, p2, p3, p4⟩ := P
  rw [mM_goesOn, hi_188_18, Option.bind_some, p1, n_pred, hr_188_19, Option.bind_some, ha_201 hD, Option.bind_some, p2, if_neg (n_nn (by omega)), hr_188_2, Option.bind_some, ha_189 hk, Option.bind_some, ht]
theorem r_dl {D k i c : Nat} {s : Int32} (P : gPi D k i c x) (hD : D < 14) (hk : k < 32) (ht : (x.1 k).2.2.2.2.1 = s) : ∀ y o z, mM_deliver (some 188) (gH y x o z) = mM_deliver_28 (some 188) (Int32.ofNat D) (Int32.ofNat k) s (gH y x o z) := by
  intro y o z
  obtain ⟨p1, p2, p3, p4⟩ := P
  rw [mM_deliver, hi_188_18, Option.bind_some, p1, n_pred, hr_188_19, Option.bind_some, ha_201 hD, Option.bind_some, p2, if_neg (n_nn (by omega)), hr_188_2, Option.bind_some, ha_189 hk, Option.bind_some, ht]
theorem r_fin {D k : Nat} (h18 : x.2.1 18 = Int32.ofNat (D + 1)) (hk : k < 32) : ∀ y o z, mM_finish (some 188) (Int32.ofNat k) (gH y x o z) = some (gH y ((x.1, gup (gup (gup x.2.1 18 (Int32.ofNat D)) 35 6) 36 (Int32.ofNat k), x.2.2.1, x.2.2.2.1, x.2.2.2.2.1, x.2.2.2.2.2.1, x.2.2.2.2.2.2.1, x.2.2.2.2.2.2.2.1, x.2.2.2.2.2.2.2.2.1, x.2.2.2.2.2.2.2.2.2.1, x.2.2.2.2.2.2.2.2.2.2.1, x.2.2.2.2.2.2.2.2.2.2.2.1, x.2.2.2.2.2.2.2.2.2.2.2.2.1, x.2.2.2.2.2.2.2.2.2.2.2.2.2.1, x.2.2.2.2.2.2.2.2.2.2.2.2.2.2.1, x.2.2.2.2.2.2.2.2.2.2.2.2.2.2.2) : gX) o z) := by
  intro y o z
  rw [mM_finish, hi_188_18, Option.bind_some, h18, n_pred, hp_188_18, Option.bind_some, if_neg (n_nn (by omega)), ho_188, Option.bind_some, r_got, Option.bind_some]
theorem r_goEnd {D k i : Nat} {s : Int32} (P : gPi D k i i x) (hD : D < 14) (hk : k < 32) (ht : (x.1 k).2.2.2.2.1 = s) (hs : ¬ s = 0) : ∀ y o z, mM_goesOn (some 188) (gH y x o z) = some (2, gH y ((x.1, gup (gup (gup x.2.1 18 (Int32.ofNat D)) 35 6) 36 (Int32.ofNat k), x.2.2.1, x.2.2.2.1, x.2.2.2.2.1, x.2.2.2.2.2.1, x.2.2.2.2.2.2.1, x.2.2.2.2.2.2.2.1, x.2.2.2.2.2.2.2.2.1, x.2.2.2.2.2.2.2.2.2.1, x.2.2.2.2.2.2.2.2.2.2.1, x.2.2.2.2.2.2.2.2.2.2.2.1, x.2.2.2.2.2.2.2.2.2.2.2.2.1, x.2.2.2.2.2.2.2.2.2.2.2.2.2.1, x.2.2.2.2.2.2.2.2.2.2.2.2.2.2.1, x.2.2.2.2.2.2.2.2.2.2.2.2.2.2.2) : gX) o z) := by
  intro y o z
  rw [r_go P hD hk ht]
  obtain ⟨p1, p2, p3, p4⟩ := P
  rw [mM_goesOn_28, if_neg hs, hr_188_20, Option.bind_some, ha_202 hD, Option.bind_some, hr_188_21, Option.bind_some, ha_203 hD, Option.bind_some, p3, p4, if_pos rfl, ho_188, Option.bind_some, r_fin p1 hk, Option.bind_some]
/-- the object is done on both sides -/
theorem gVal_end {D k B : Nat} {F : gx_H → Option gx_H} (G : gD n0 f q m N pos u x) (hk : n0 ≤ k) (hkN : k < N) (hF : ∀ y o z, F (gH u y o z) = some (gH ((u.1, u.2.1, u.2.2.1, u.2.2.2.1, u.2.2.2.2.1, u.2.2.2.2.2.1, u.2.2.2.2.2.2.1, u.2.2.2.2.2.2.2.1, u.2.2.2.2.2.2.2.2.1, u.2.2.2.2.2.2.2.2.2.1, u.2.2.2.2.2.2.2.2.2.2.1, u.2.2.2.2.2.2.2.2.2.2.2.1, gup (gup u.2.2.2.2.2.2.2.2.2.2.2.2.1 2 6) 3 (Int32.ofNat k), u.2.2.2.2.2.2.2.2.2.2.2.2.2.1, u.2.2.2.2.2.2.2.2.2.2.2.2.2.2) : gU) y o z)) (hr : gRT B 0 x ((x.1, gup (gup (gup x.2.1 18 (Int32.ofNat D)) 35 6) 36 (Int32.ofNat k), x.2.2.1, x.2.2.2.1, x.2.2.2.2.1, x.2.2.2.2.2.1, x.2.2.2.2.2.2.1, x.2.2.2.2.2.2.2.1, x.2.2.2.2.2.2.2.2.1, x.2.2.2.2.2.2.2.2.2.1, x.2.2.2.2.2.2.2.2.2.2.1, x.2.2.2.2.2.2.2.2.2.2.2.1, x.2.2.2.2.2.2.2.2.2.2.2.2.1, x.2.2.2.2.2.2.2.2.2.2.2.2.2.1, x.2.2.2.2.2.2.2.2.2.2.2.2.2.2.1, x.2.2.2.2.2.2.2.2.2.2.2.2.2.2.2) : gX)) : gVal n0 f q m D B k 0 u x F := by
  refine ⟨_, hF, gUf_r, Or.inl ⟨_, hr, N, pos, gD_x G rfl rfl rfl rfl (fun i a b => ?_) rfl (fun i a b c => ?_) rfl rfl, by omega, ⟨⟨fun _ _ => rfl, fun i hi => ?_, rfl, rfl, rfl, rfl⟩, fun _ _ => ⟨rfl, rfl, rfl⟩, fun _ _ => rfl, fun _ _ => ⟨rfl, rfl, rfl⟩⟩, rfl, rfl, rfl, ⟨6, by omega, rfl, rfl, fun _ => ⟨k, hk, hkN, rfl⟩⟩⟩⟩
  · show gup (gup u.2.2.2.2.2.2.2.2.2.2.2.2.1 2 6) 3 (Int32.ofNat k) i = _
    rw [gup_ne b, gup_ne a]
  · show gup (gup (gup x.2.1 18 (Int32.ofNat D)) 35 6) 36 (Int32.ofNat k) i = _
    rw [gup_ne c, gup_ne b, gup_ne a]
  · show gup (gup (gup x.2.1 18 (Int32.ofNat D)) 35 6) 36 (Int32.ofNat k) i = _
    rw [gup_ne (by omega), gup_ne (by omega), gup_ne (by omega)]
theorem k_128 {W : gWr} {k : Nat} : ∀ y o z, cR_readObject_128 W (some 187) (Int32.ofNat k) (gH u y o z) = some (gH ((u.1, u.2.1, u.2.2.1, u.2.2.2.1, u.2.2.2.2.1, u.2.2.2.2.2.1, u.2.2.2.2.2.2.1, u.2.2.2.2.2.2.2.1, u.2.2.2.2.2.2.2.2.1, u.2.2.2.2.2.2.2.2.2.1, u.2.2.2.2.2.2.2.2.2.2.1, u.2.2.2.2.2.2.2.2.2.2.2.1, gup (gup u.2.2.2.2.2.2.2.2.2.2.2.2.1 2 6) 3 (Int32.ofNat k), u.2.2.2.2.2.2.2.2.2.2.2.2.2.1, u.2.2.2.2.2.2.2.2.2.2.2.2.2.2) : gU) y o z) := by
  intro y o z
  rw [cR_readObject_128, ho_187, Option.bind_some, k_settle, Option.bind_some]
theorem gO_ad {n s c : Nat} {q : gQ} {p : gP} {kd nm : Int32} (O : gO n s c q p) (hs : s = 1 ∨ s = 3) (c5 : c + 1 ≤ gcap s) (hv : gV n s kd nm) : gO n s (c + 1) (gq_add q c kd nm) (gp_add p c kd nm) := by
  have f6 : q.2.2.2.2.1 6 = 0 := by rcases O.d4 with h | h; exact h; omega
  refine ⟨by omega, O.es, O.et, rfl, c5, O.ed, Or.inl f6, fun _ => rfl, fun h => absurd f6 h, fun h => by omega, fun h => by omega, fun h => by omega, ?_, ?_, fun h => by omega, fun h => by omega, fun h => by omega, fun h => by omega, fun h => by omega⟩
  · intro h i hi
    exact ⟨gup_c hi (fun q => (O.vs h i q).1), gup_c hi (fun q => (O.vs h i q).2)⟩
  · intro h i hi
    show gV n s (gup q.2.2.1 c kd i) (gup q.2.2.2.1 c nm i)
    by_cases e : i = c
    · subst e; rw [gup_eq, gup_eq]; exact hv
    · rw [gup_ne e, gup_ne e]; exact O.vv h i (by omega)
end H
