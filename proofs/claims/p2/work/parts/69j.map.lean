/-! read: maps -/
def gp_key (p : gP) (c : Nat) (a b : Int32) : gP := ((gup p.1 c a, gup p.2.1 c b, p.2.2.1, p.2.2.2.1, p.2.2.2.2.1, p.2.2.2.2.2.1, p.2.2.2.2.2.2.1, p.2.2.2.2.2.2.2) : gP)
theorem gO_key {n c : Nat} {q : gQ} {p : gP} {a b : Int32} (O : gO n 2 c q p) : gO n 2 c q (gp_key p c a b) := by
  refine ⟨O.s8, O.es, O.et, O.ec, O.c8, O.ed, O.d4, O.ep, O.e0, fun h i hi => ?_, fun h i hi => ?_, O.k4, O.vs, O.vv, O.kv, O.so, fun h => by omega, fun h => by omega, fun h => by omega⟩
  · show gup p.2.1 c b i = _
    rw [gup_ne (by omega)]; exact O.kE h i hi
  · show gup p.1 c a i = _
    rw [gup_ne (by omega)]; exact O.kK h i hi
section H
variable {n0 f q m N pos : Nat} {u : gU} {x : gX} {W : gWr}
theorem k_mapD {g : Nat} {t : Option Nat} {d c i : Int32} (h : u.2.2.2.2.2.2.2.2.2.2.2.2.1 1 = 1) : ∀ y o z, cR_readMap_11 W (g + 1) (some 187) (some 1) (some 163) t d c i (gH u y o z) = some (gH u y o z) := by
  intro y o z
  rw [cR_readMap_11, hi_187_1, Option.bind_some, if_neg (show ¬ u.2.2.2.2.2.2.2.2.2.2.2.2.1 1 = 0 by rw [h]; exact i_10)]
  split <;> rfl
theorem k_mapStep {D k i c g : Nat} {u1 u2 : gU} (hk : k < 32) (hc : c ≤ 4) (hi : i < c) (hd : D < 14) (h0 : u.2.2.2.2.2.2.2.2.2.2.2.2.1 1 = 0) (w1 : ∀ y o z, W (some 187) (some 1) (some 163) (Int32.ofNat (D + 1 + 1)) (gH u y o z) = some (gH u1 y o z)) (w2 : ∀ y o z, W (some 187) (some 1) (some 163) (Int32.ofNat (D + 1 + 1)) (gH u1 y o z) = some (gH u2 y o z)) (h5 : (u2.1 k).2.2.2.2.1 5 = Int32.ofNat i) : ∀ y o z, cR_readMap_11 W (g + 1 + 1) (some 187) (some 1) (some 163) (some (3 + 5 * k)) (Int32.ofNat (D + 1)) (Int32.ofNat c) (Int32.ofNat i) (gH u y o z) = if u2.2.2.2.2.2.2.2.2.2.2.2.2.1 1 = 0 ∧ gfi (fun j => decide ((u2.1 k).1 j = u1.2.2.2.2.2.2.2.2.2.2.2.2.1 2 ∧ (u2.1 k).2.1 j = u1.2.2.2.2.2.2.2.2.2.2.2.2.1 3)) i 0 = none then cR_readMap_11 W (g + 1) (some 187) (some 1) (some 163) (some (3 + 5 * k)) (Int32.ofNat (D + 1)) (Int32.ofNat c) (Int32.ofNat (i + 1)) (gH ((gup u2.1 k (gq_ent (u2.1 k) i (u1.2.2.2.2.2.2.2.2.2.2.2.2.1 2) (u1.2.2.2.2.2.2.2.2.2.2.2.2.1 3) (u2.2.2.2.2.2.2.2.2.2.2.2.2.1 2) (u2.2.2.2.2.2.2.2.2.2.2.2.2.1 3)), u2.2.1, u2.2.2.1, u2.2.2.2.1, u2.2.2.2.2.1, u2.2.2.2.2.2.1, u2.2.2.2.2.2.2.1, u2.2.2.2.2.2.2.2.1, u2.2.2.2.2.2.2.2.2.1, u2.2.2.2.2.2.2.2.2.2.1, u2.2.2.2.2.2.2.2.2.2.2.1, u2.2.2.2.2.2.2.2.2.2.2.2.1, u2.2.2.2.2.2.2.2.2.2.2.2.2.1, u2.2.2.2.2.2.2.2.2.2.2.2.2.2.1, u2.2.2.2.2.2.2.2.2.2.2.2.2.2.2) : gU) y o z) else some (gH ((u2.1, u2.2.1, u2.2.2.1, u2.2.2.2.1, u2.2.2.2.2.1, u2.2.2.2.2.2.1, u2.2.2.2.2.2.2.1, u2.2.2.2.2.2.2.2.1, u2.2.2.2.2.2.2.2.2.1, u2.2.2.2.2.2.2.2.2.2.1, u2.2.2.2.2.2.2.2.2.2.2.1, u2.2.2.2.2.2.2.2.2.2.2.2.1, gup u2.2.2.2.2.2.2.2.2.2.2.2.2.1 1 1, u2.2.2.2.2.2.2.2.2.2.2.2.2.2.1, u2.2.2.2.2.2.2.2.2.2.2.2.2.2.2) : gU) y o z) := by
  intro y o z
  have dd := fun d => k_mapD (W := W) (g := g) (t := some (3 + 5 * k)) (d := Int32.ofNat (D + 1)) (c := Int32.ofNat c) (i := d) (u := ((u2.1, u2.2.1, u2.2.2.1, u2.2.2.2.1, u2.2.2.2.2.1, u2.2.2.2.2.2.1, u2.2.2.2.2.2.2.1, u2.2.2.2.2.2.2.2.1, u2.2.2.2.2.2.2.2.2.1, u2.2.2.2.2.2.2.2.2.2.1, u2.2.2.2.2.2.2.2.2.2.2.1, u2.2.2.2.2.2.2.2.2.2.2.2.1, gup u2.2.2.2.2.2.2.2.2.2.2.2.2.1 1 1, u2.2.2.2.2.2.2.2.2.2.2.2.2.2.1, u2.2.2.2.2.2.2.2.2.2.2.2.2.2.2) : gU)) rfl y o z
  have l : Int32.ofNat i < Int32.ofNat c := n_ltl (by omega) (by omega) hi
  rw [cR_readMap_11, if_pos l, hi_187_1, Option.bind_some, if_pos h0, ho_187, Option.bind_some, n_succ, w1, Option.bind_some, hi_187_2, Option.bind_some, hi_187_3, Option.bind_some, ho_187, Option.bind_some, w2, Option.bind_some, hi_187_1, Option.bind_some]
  by_cases c0 : u2.2.2.2.2.2.2.2.2.2.2.2.2.1 1 = 0
  · rw [if_pos c0, ho_T hk, Option.bind_some, k_index hk h5 (by omega), Option.bind_some]
    have se := fun a b => k_setEntry (u := u2) (x := y) (o := o) (z := z) (a := u1.2.2.2.2.2.2.2.2.2.2.2.2.1 2) (b := u1.2.2.2.2.2.2.2.2.2.2.2.2.1 3) (kd := a) (nm := b) hk h5 (show i ≤ 4 by omega)
    cases hf : gfi (fun j => decide ((u2.1 k).1 j = u1.2.2.2.2.2.2.2.2.2.2.2.2.1 2 ∧ (u2.1 k).2.1 j = u1.2.2.2.2.2.2.2.2.2.2.2.2.1 3)) i 0 with
    | none =>
      rw [hf] at se
      rw [if_pos (show u2.2.2.2.2.2.2.2.2.2.2.2.2.1 1 = 0 ∧ (none : Option Nat) = none from ⟨c0, rfl⟩)]
      simp only [gio, if_true, hi_187_2, hi_187_3, Option.bind_some, ho_T hk, se, if_pos (show i < 4 by omega), if_neg i_10, cR_readMap_100, n_succ]
    | some j =>
      have hj := (gfi_some _ _ _ hf).2.1
      rw [if_neg (show ¬ (u2.2.2.2.2.2.2.2.2.2.2.2.2.1 1 = 0 ∧ some j = none) from fun h => by have := h.2; simp at this)]
      simp only [gio, if_neg (n_ne1 (n := j) (by omega)), cR_readMap_95, hp_187_1, Option.bind_some, cR_readMap_100]
      exact dd _
  · rw [if_neg c0, if_neg (fun h => c0 h.1)]
    simp only [cR_readMap_95, hp_187_1, Option.bind_some, cR_readMap_100]
    exact dd _
theorem r_mapDl1 {D k i c : Nat} (P : gPi D k (2 * i) c x) (hD : D < 14) (hk : k < 32) (hi : i < 4) (hg : x.2.1 31 = 1) (ht : (x.1 k).2.2.2.2.1 = Int32.ofNat 2) (hc : (x.1 k).2.2.2.2.2.1 = Int32.ofNat i) : ∀ y o z, mM_deliver (some 188) (gH y x o z) = some (gH y ((gup x.1 k (gp_key (x.1 k) i (x.2.1 35) (x.2.1 36)), gup x.2.1 31 (if gfi (fun j => decide ((x.1 k).1 j = x.2.1 35 ∧ (x.1 k).2.1 j = gcn (x.2.1 35) (x.2.1 36))) i 0 = none then 1 else 0), x.2.2.1, x.2.2.2.1, x.2.2.2.2.1, x.2.2.2.2.2.1, x.2.2.2.2.2.2.1, gup x.2.2.2.2.2.2.2.1 D (Int32.ofNat (2 * i + 1)), x.2.2.2.2.2.2.2.2.1, x.2.2.2.2.2.2.2.2.2.1, x.2.2.2.2.2.2.2.2.2.2.1, x.2.2.2.2.2.2.2.2.2.2.2.1, x.2.2.2.2.2.2.2.2.2.2.2.2.1, x.2.2.2.2.2.2.2.2.2.2.2.2.2.1, x.2.2.2.2.2.2.2.2.2.2.2.2.2.2.1, x.2.2.2.2.2.2.2.2.2.2.2.2.2.2.2) : gX) o z) := by
  intro y o z
  rw [r_dl P hD hk ht]
  obtain ⟨p1, p2, p3, p4⟩ := P
  obtain ⟨h1, h2, _, _⟩ := n_half i hi
  have i8 : i < 8 := by omega
  have he := fun a b => r_ent (u := y) (x := ((x.1, x.2.1, x.2.2.1, x.2.2.2.1, x.2.2.2.2.1, x.2.2.2.2.2.1, x.2.2.2.2.2.2.1, gup x.2.2.2.2.2.2.2.1 D (Int32.ofNat (2 * i + 1)), x.2.2.2.2.2.2.2.2.1, x.2.2.2.2.2.2.2.2.2.1, x.2.2.2.2.2.2.2.2.2.2.1, x.2.2.2.2.2.2.2.2.2.2.2.1, x.2.2.2.2.2.2.2.2.2.2.2.2.1, x.2.2.2.2.2.2.2.2.2.2.2.2.2.1, x.2.2.2.2.2.2.2.2.2.2.2.2.2.2.1, x.2.2.2.2.2.2.2.2.2.2.2.2.2.2.2) : gX)) (o := o) (z := z) (a := a) (b := b) hk hc (show i ≤ 8 by omega)
  have e35 : ∀ v, gup x.2.1 31 v 35 = x.2.1 35 := fun _ => rfl
  have e36 : ∀ v, gup x.2.1 31 v 36 = x.2.1 36 := fun _ => rfl
  have st : ∀ v, v = 0 ∨ v = 1 → mM_deliver_231 (some 188) (Int32.ofNat k) (Int32.ofNat (2 * i)) (some 188) v (gH y ((x.1, x.2.1, x.2.2.1, x.2.2.2.1, x.2.2.2.2.1, x.2.2.2.2.2.1, x.2.2.2.2.2.2.1, gup x.2.2.2.2.2.2.2.1 D (Int32.ofNat (2 * i + 1)), x.2.2.2.2.2.2.2.2.1, x.2.2.2.2.2.2.2.2.2.1, x.2.2.2.2.2.2.2.2.2.2.1, x.2.2.2.2.2.2.2.2.2.2.2.1, x.2.2.2.2.2.2.2.2.2.2.2.2.1, x.2.2.2.2.2.2.2.2.2.2.2.2.2.1, x.2.2.2.2.2.2.2.2.2.2.2.2.2.2.1, x.2.2.2.2.2.2.2.2.2.2.2.2.2.2.2) : gX) o z) = some (gH y ((gup x.1 k (gp_key (x.1 k) i (x.2.1 35) (x.2.1 36)), gup x.2.1 31 v, x.2.2.1, x.2.2.2.1, x.2.2.2.2.1, x.2.2.2.2.2.1, x.2.2.2.2.2.2.1, gup x.2.2.2.2.2.2.2.1 D (Int32.ofNat (2 * i + 1)), x.2.2.2.2.2.2.2.2.1, x.2.2.2.2.2.2.2.2.2.1, x.2.2.2.2.2.2.2.2.2.2.1, x.2.2.2.2.2.2.2.2.2.2.2.1, x.2.2.2.2.2.2.2.2.2.2.2.2.1, x.2.2.2.2.2.2.2.2.2.2.2.2.2.1, x.2.2.2.2.2.2.2.2.2.2.2.2.2.2.1, x.2.2.2.2.2.2.2.2.2.2.2.2.2.2.2) : gX) o z) := by
    intro v hv
    simp only [mM_deliver_231, not_or, if_neg (show ¬ (¬ v = 0 ∧ ¬ v = 1) from fun h => by rcases hv with e | e; exact h.1 e; exact h.2 e), hp_188_31, Option.bind_some, hr_188_7, hi_188_35, h1, n_8, e35, hb_194 hk i8, hr_188_6, hi_188_36, e36, hb_193 hk i8, gup_eq, gup_gup]
    rfl
  simp only [mM_deliver_28, hr_188_20, Option.bind_some, ha_202 hD, p3, hb_202 hD, n_succ, if_neg (show ¬ Int32.ofNat 2 = 0 by decide), if_neg (show ¬ Int32.ofNat 2 = 1 by decide), if_neg (show ¬ Int32.ofNat 2 = 3 by decide), if_pos (show Int32.ofNat 2 = 2 by decide), h1, h2, if_true, hi_188_31, if_neg (show ¬ x.2.1 31 = 0 by rw [hg]; exact i_10), hi_188_35, hi_188_36, ho_188, he]
  cases hf : gfi (fun j => decide ((x.1 k).1 j = x.2.1 35 ∧ (x.1 k).2.1 j = gcn (x.2.1 35) (x.2.1 36))) i 0 with
  | none =>
    simp only [gio, if_pos (show (-1 : Int32) < 0 by decide), if_true]
    exact st 1 (Or.inr rfl)
  | some j =>
    have hj := (gfi_some _ _ _ hf).2.1
    simp only [gio, if_neg (n_nn (n := j) (by omega)), mM_deliver_230, reduceCtorEq, if_false]
    have s0 := st 0 (Or.inl rfl)
    exact (if_neg (n_nn (n := j) (by omega))).trans s0
theorem r_mapDl2 {D k i c : Nat} (P : gPi D k (2 * i + 1) c x) (hD : D < 14) (hk : k < 32) (hi : i < 4) (ht : (x.1 k).2.2.2.2.1 = Int32.ofNat 2) (hc : (x.1 k).2.2.2.2.2.1 = Int32.ofNat i) : ∀ y o z, mM_deliver (some 188) (gH y x o z) = some (gH y ((gup x.1 k (gp_add (x.1 k) i (x.2.1 35) (gcn (x.2.1 35) (x.2.1 36))), x.2.1, x.2.2.1, x.2.2.2.1, x.2.2.2.2.1, x.2.2.2.2.2.1, x.2.2.2.2.2.2.1, gup x.2.2.2.2.2.2.2.1 D (Int32.ofNat (2 * i + 1 + 1)), x.2.2.2.2.2.2.2.2.1, x.2.2.2.2.2.2.2.2.2.1, x.2.2.2.2.2.2.2.2.2.2.1, x.2.2.2.2.2.2.2.2.2.2.2.1, x.2.2.2.2.2.2.2.2.2.2.2.2.1, x.2.2.2.2.2.2.2.2.2.2.2.2.2.1, x.2.2.2.2.2.2.2.2.2.2.2.2.2.2.1, x.2.2.2.2.2.2.2.2.2.2.2.2.2.2.2) : gX) o z) := by
  intro y o z
  rw [r_dl P hD hk ht]
  obtain ⟨p1, p2, p3, p4⟩ := P
  obtain ⟨_, _, h1, h2⟩ := n_half i hi
  have i8 : i < 8 := by omega
  simp only [mM_deliver_28, hr_188_20, Option.bind_some, ha_202 hD, p3, hb_202 hD, n_succ, if_neg (show ¬ Int32.ofNat 2 = 0 by decide), if_neg (show ¬ Int32.ofNat 2 = 1 by decide), if_neg (show ¬ Int32.ofNat 2 = 3 by decide), if_pos (show Int32.ofNat 2 = 2 by decide), h1, if_neg h2, mM_deliver_273, hi_188_35, hi_188_36, ho_188, n_8, r_setSlot hk i8, hr_188_3, ha_190 hk, gup_eq, hc, hb_190 hk, gup_gup]
  rfl
theorem rd_mapL {D k c B : Nat} (hD : D + 1 ≤ 12) (hk0 : n0 ≤ k) (ih : gIR n0 f q m (D + 1) B W) (dead : gDe W) (hc : c ≤ 4) : ∀ (r i g : Nat) (u : gU) (x : gX) (N pos : Nat), i + r = c → gD n0 f q m N pos u x → k < N → gO N 2 i (u.1 k) (x.1 k) → gPi D k (2 * i) (2 * c) x → gVal n0 f q m D (r * (2 * (B + 1)) + 2) k 0 u x (fun h => (cR_readMap_11 W (g + r + 1) (some 187) (some 1) (some 163) (some (3 + 5 * k)) (Int32.ofNat (D + 1)) (Int32.ofNat c) (Int32.ofNat i) h).bind fun h => cR_readObject_128 W (some 187) (Int32.ofNat k) h) := by
  have hD14 : D < 14 := by omega
  intro r
  induction r with
  | zero =>
    intro i g u x N pos e G hkN O P
    obtain rfl : i = c := by omega
    have hk : k < 32 := by have := G.hN; omega
    refine gVal_end G hk0 hkN (fun y o z => ?_) (gRT_mono (gRT_go2 G.gg (r_goEnd P hD14 hk O.et (by decide))) (by omega))
    simp only [cR_readMap_11, if_neg (n_nltl (n := i) (m := i) (by omega) (by omega) (by omega)), Option.bind_some, k_128]
  | succ r IH =>
    intro i g u x N pos e G hkN O P
    have hk : k < 32 := by have := G.hN; omega
    have i8 : i < 8 := by omega
    have i4 : i < 4 := by omega
    have hic : i < c := by omega
    have ct : (x.1 k).2.2.2.2.2.1 = Int32.ofNat i := O.ep (by rcases O.d4 with h | h; exact h; omega)
    have bd : 2 * (B + 1) + (r * (2 * (B + 1)) + 2) ≤ (r + 1) * (2 * (B + 1)) + 2 := by rw [Nat.add_mul r 1, Nat.one_mul]; omega
    have to := gTo_go1 G.gg (r_goVal P hD14 hk (by omega) (by omega) O.et (Or.inl rfl))
    obtain ⟨u1, w1, w2, w3⟩ := ih u x N pos G P.1
    have uk : u1.1 k = u.1 k := w2.uC k hkN
    have bad : ∀ u2, (∀ y o z, W (some 187) (some 1) (some 163) (Int32.ofNat (D + 1 + 1)) (gH u1 y o z) = some (gH u2 y o z)) → gUf N u1 u2 → ¬ (u2.2.2.2.2.2.2.2.2.2.2.2.2.1 1 = 0 ∧ gfi (fun j => decide ((u2.1 k).1 j = u1.2.2.2.2.2.2.2.2.2.2.2.2.1 2 ∧ (u2.1 k).2.1 j = u1.2.2.2.2.2.2.2.2.2.2.2.2.1 3)) i 0 = none) → ∀ x', gRF (2 * (B + 1) + 2) 0 x x' → gXd k x x' → gVal n0 f q m D ((r + 1) * (2 * (B + 1)) + 2) k 0 u x (fun h => (cR_readMap_11 W (g + (r + 1) + 1) (some 187) (some 1) (some 163) (some (3 + 5 * k)) (Int32.ofNat (D + 1)) (Int32.ofNat c) (Int32.ofNat i) h).bind fun h => cR_readObject_128 W (some 187) (Int32.ofNat k) h) := by
      intro u2 v1 v2 h x' h1 h2
      have h5 : (u2.1 k).2.2.2.2.1 5 = Int32.ofNat i := by rw [v2.uC k hkN, uk]; exact O.ec
      refine gVal_bad (u' := ((u2.1, u2.2.1, u2.2.2.1, u2.2.2.2.1, u2.2.2.2.2.1, u2.2.2.2.2.2.1, u2.2.2.2.2.2.2.1, u2.2.2.2.2.2.2.2.1, u2.2.2.2.2.2.2.2.2.1, u2.2.2.2.2.2.2.2.2.2.1, u2.2.2.2.2.2.2.2.2.2.2.1, u2.2.2.2.2.2.2.2.2.2.2.2.1, gup (gup (gup u2.2.2.2.2.2.2.2.2.2.2.2.2.1 1 1) 2 6) 3 (Int32.ofNat k), u2.2.2.2.2.2.2.2.2.2.2.2.2.2.1, u2.2.2.2.2.2.2.2.2.2.2.2.2.2.2) : gU)) (fun y o z => ?_) (gUf_trans (gUf_mono (gUf_trans w2 v2 (Nat.le_refl _)) (by omega)) gUf_r (Nat.le_refl k)) rfl (gRF_mono h1 (by omega)) h2
      show ((cR_readMap_11 W (g + r + 1 + 1) (some 187) (some 1) (some 163) (some (3 + 5 * k)) (Int32.ofNat (D + 1)) (Int32.ofNat c) (Int32.ofNat i) (gH u y o z)).bind _) = _
      rw [k_mapStep hk hc hic hD14 G.wr w1 v1 h5, if_neg h, Option.bind_some, k_128]
    rcases w3 with ⟨x1, l1, N1, pos1, l2, l3, l4, l5, l6, l7, l8⟩ | ⟨l0, x1, l1, l2⟩
    · have xk : x1.1 k = x.1 k := l4.fd.dR k hkN
      have O1 : gO N1 2 i (u1.1 k) (x1.1 k) := by rw [uk, xk]; exact gO_mono l3 O
      obtain ⟨q1, q2, q3⟩ := l4.f1 D (by omega)
      have P1 : gPi D k (2 * i) (2 * c) x1 := ⟨l5, q1.trans P.2.1, q2.trans P.2.2.1, q3.trans P.2.2.2⟩
      have ct1 : (x1.1 k).2.2.2.2.2.1 = Int32.ofNat i := by rw [xk]; exact ct
      have e2 : gcn (x1.2.1 35) (x1.2.1 36) = u1.2.2.2.2.2.2.2.2.2.2.2.2.1 3 := by rw [l6, l7]; exact gV1_cn l8
      have t1 : gXf k D x x1 := gXf_trans gXf_refl l4 (by omega) (by omega)
      have fnd : gfi (fun j => decide ((x1.1 k).1 j = x1.2.1 35 ∧ (x1.1 k).2.1 j = gcn (x1.2.1 35) (x1.2.1 36))) i 0 = gfi (fun j => decide ((u1.1 k).1 j = u1.2.2.2.2.2.2.2.2.2.2.2.2.1 2 ∧ (u1.1 k).2.1 j = u1.2.2.2.2.2.2.2.2.2.2.2.2.1 3)) i 0 := by
        rw [e2, l6]
        exact (map_find O1).symm
      have dl0 := r_mapDl1 P1 hD14 hk i4 l2.gg O1.et ct1
      by_cases hn : gfi (fun j => decide ((u1.1 k).1 j = u1.2.2.2.2.2.2.2.2.2.2.2.2.1 2 ∧ (u1.1 k).2.1 j = u1.2.2.2.2.2.2.2.2.2.2.2.2.1 3)) i 0 = none
      · have dl : ∀ y o z, mM_deliver (some 188) (gH y x1 o z) = some (gH y ((gup x1.1 k (gp_key (x1.1 k) i (u1.2.2.2.2.2.2.2.2.2.2.2.2.1 2) (u1.2.2.2.2.2.2.2.2.2.2.2.2.1 3)), x1.2.1, x1.2.2.1, x1.2.2.2.1, x1.2.2.2.2.1, x1.2.2.2.2.2.1, x1.2.2.2.2.2.2.1, gup x1.2.2.2.2.2.2.2.1 D (Int32.ofNat (2 * i + 1)), x1.2.2.2.2.2.2.2.2.1, x1.2.2.2.2.2.2.2.2.2.1, x1.2.2.2.2.2.2.2.2.2.2.1, x1.2.2.2.2.2.2.2.2.2.2.2.1, x1.2.2.2.2.2.2.2.2.2.2.2.2.1, x1.2.2.2.2.2.2.2.2.2.2.2.2.2.1, x1.2.2.2.2.2.2.2.2.2.2.2.2.2.2.1, x1.2.2.2.2.2.2.2.2.2.2.2.2.2.2.2) : gX) o z) := by
          intro y o z
          rw [dl0, fnd, if_pos hn, gup_same l2.gg, l6, l7]
        have D2 : gD n0 f q m N1 pos1 u1 ((gup x1.1 k (gp_key (x1.1 k) i (u1.2.2.2.2.2.2.2.2.2.2.2.2.1 2) (u1.2.2.2.2.2.2.2.2.2.2.2.2.1 3)), x1.2.1, x1.2.2.1, x1.2.2.2.1, x1.2.2.2.2.1, x1.2.2.2.2.2.1, x1.2.2.2.2.2.2.1, gup x1.2.2.2.2.2.2.2.1 D (Int32.ofNat (2 * i + 1)), x1.2.2.2.2.2.2.2.2.1, x1.2.2.2.2.2.2.2.2.2.1, x1.2.2.2.2.2.2.2.2.2.2.1, x1.2.2.2.2.2.2.2.2.2.2.2.1, x1.2.2.2.2.2.2.2.2.2.2.2.2.1, x1.2.2.2.2.2.2.2.2.2.2.2.2.2.1, x1.2.2.2.2.2.2.2.2.2.2.2.2.2.2.1, x1.2.2.2.2.2.2.2.2.2.2.2.2.2.2.2) : gX) := by
          have f6 : (u1.1 k).2.2.2.2.1 6 = 0 := by rcases O1.d4 with h | h; exact h; omega
          have := gD_ob (k := k) (q' := u1.1 k) (p' := gp_key (x1.1 k) i (u1.2.2.2.2.2.2.2.2.2.2.2.2.1 2) (u1.2.2.2.2.2.2.2.2.2.2.2.2.1 3)) l2 ⟨2, i, gO_key O1⟩ f6
          exact gD_x this (by show u1.1 = gup u1.1 k (u1.1 k); rw [gup_self]) rfl rfl rfl (fun _ _ _ => rfl) rfl (fun _ _ _ _ => rfl) rfl rfl
        have t2 : gXf k D x1 ((gup x1.1 k (gp_key (x1.1 k) i (u1.2.2.2.2.2.2.2.2.2.2.2.2.1 2) (u1.2.2.2.2.2.2.2.2.2.2.2.2.1 3)), x1.2.1, x1.2.2.1, x1.2.2.2.1, x1.2.2.2.2.1, x1.2.2.2.2.2.1, x1.2.2.2.2.2.2.1, gup x1.2.2.2.2.2.2.2.1 D (Int32.ofNat (2 * i + 1)), x1.2.2.2.2.2.2.2.2.1, x1.2.2.2.2.2.2.2.2.2.1, x1.2.2.2.2.2.2.2.2.2.2.1, x1.2.2.2.2.2.2.2.2.2.2.2.1, x1.2.2.2.2.2.2.2.2.2.2.2.2.1, x1.2.2.2.2.2.2.2.2.2.2.2.2.2.1, x1.2.2.2.2.2.2.2.2.2.2.2.2.2.2.1, x1.2.2.2.2.2.2.2.2.2.2.2.2.2.2.2) : gX) := ⟨⟨fun j hj => gup_ne (by omega), fun _ _ => rfl, rfl, rfl, rfl, rfl⟩, fun j hj => ⟨rfl, gup_ne (by omega), rfl⟩, fun _ _ => rfl, fun _ _ => ⟨rfl, rfl, rfl⟩⟩
        have P2 : gPi D k (2 * i + 1) (2 * c) ((gup x1.1 k (gp_key (x1.1 k) i (u1.2.2.2.2.2.2.2.2.2.2.2.2.1 2) (u1.2.2.2.2.2.2.2.2.2.2.2.2.1 3)), x1.2.1, x1.2.2.1, x1.2.2.2.1, x1.2.2.2.2.1, x1.2.2.2.2.2.1, x1.2.2.2.2.2.2.1, gup x1.2.2.2.2.2.2.2.1 D (Int32.ofNat (2 * i + 1)), x1.2.2.2.2.2.2.2.2.1, x1.2.2.2.2.2.2.2.2.2.1, x1.2.2.2.2.2.2.2.2.2.2.1, x1.2.2.2.2.2.2.2.2.2.2.2.1, x1.2.2.2.2.2.2.2.2.2.2.2.2.1, x1.2.2.2.2.2.2.2.2.2.2.2.2.2.1, x1.2.2.2.2.2.2.2.2.2.2.2.2.2.2.1, x1.2.2.2.2.2.2.2.2.2.2.2.2.2.2.2) : gX) := ⟨P1.1, P1.2.1, gup_eq, P1.2.2.2⟩
        have to2 := gTo_trans to (gRT_dl l1 l2.gg l5 hD14 dl)
        generalize hx2 : (((gup x1.1 k (gp_key (x1.1 k) i (u1.2.2.2.2.2.2.2.2.2.2.2.2.1 2) (u1.2.2.2.2.2.2.2.2.2.2.2.2.1 3)), x1.2.1, x1.2.2.1, x1.2.2.2.1, x1.2.2.2.2.1, x1.2.2.2.2.2.1, x1.2.2.2.2.2.2.1, gup x1.2.2.2.2.2.2.2.1 D (Int32.ofNat (2 * i + 1)), x1.2.2.2.2.2.2.2.2.1, x1.2.2.2.2.2.2.2.2.2.1, x1.2.2.2.2.2.2.2.2.2.2.1, x1.2.2.2.2.2.2.2.2.2.2.2.1, x1.2.2.2.2.2.2.2.2.2.2.2.2.1, x1.2.2.2.2.2.2.2.2.2.2.2.2.2.1, x1.2.2.2.2.2.2.2.2.2.2.2.2.2.2.1, x1.2.2.2.2.2.2.2.2.2.2.2.2.2.2.2) : gX) : gX) = x2 at dl D2 t2 P2 to2
        have x2k : x2.1 k = gp_key (x1.1 k) i (u1.2.2.2.2.2.2.2.2.2.2.2.2.1 2) (u1.2.2.2.2.2.2.2.2.2.2.2.2.1 3) := by rw [← hx2]; exact gup_eq
        have et2 : (x2.1 k).2.2.2.2.1 = Int32.ofNat 2 := by rw [x2k]; exact O1.et
        have to3 := gTo_trans to2 (gTo_go1 D2.gg (r_goVal P2 hD14 hk (by omega) (by omega) et2 (Or.inl rfl)))
        obtain ⟨u2, v1, v2, v3⟩ := ih u1 x2 N1 pos1 D2 P2.1
        have u2k : u2.1 k = u1.1 k := v2.uC k (by omega)
        rcases v3 with ⟨x3, n1, N3, pos3, n2, n3, n4, n5, n6, n7, n8⟩ | ⟨n0', x3, n1, n2⟩
        · have x3k : x3.1 k = gp_key (x1.1 k) i (u1.2.2.2.2.2.2.2.2.2.2.2.2.1 2) (u1.2.2.2.2.2.2.2.2.2.2.2.2.1 3) := (n4.fd.dR k (by omega)).trans x2k
          obtain ⟨q1, q2, q3⟩ := n4.f1 D (by omega)
          have P3 : gPi D k (2 * i + 1) (2 * c) x3 := ⟨n5, q1.trans P2.2.1, q2.trans P2.2.2.1, q3.trans P2.2.2.2⟩
          have e3 : gcn (x3.2.1 35) (x3.2.1 36) = u2.2.2.2.2.2.2.2.2.2.2.2.2.1 3 := by rw [n6, n7]; exact gV1_cn n8
          have dl3 : ∀ y o z, mM_deliver (some 188) (gH y x3 o z) = some (gH y ((gup x3.1 k (gp_ent (x1.1 k) i (u1.2.2.2.2.2.2.2.2.2.2.2.2.1 2) (u1.2.2.2.2.2.2.2.2.2.2.2.2.1 3) (u2.2.2.2.2.2.2.2.2.2.2.2.2.1 2) (u2.2.2.2.2.2.2.2.2.2.2.2.2.1 3)), x3.2.1, x3.2.2.1, x3.2.2.2.1, x3.2.2.2.2.1, x3.2.2.2.2.2.1, x3.2.2.2.2.2.2.1, gup x3.2.2.2.2.2.2.2.1 D (Int32.ofNat (2 * (i + 1))), x3.2.2.2.2.2.2.2.2.1, x3.2.2.2.2.2.2.2.2.2.1, x3.2.2.2.2.2.2.2.2.2.2.1, x3.2.2.2.2.2.2.2.2.2.2.2.1, x3.2.2.2.2.2.2.2.2.2.2.2.2.1, x3.2.2.2.2.2.2.2.2.2.2.2.2.2.1, x3.2.2.2.2.2.2.2.2.2.2.2.2.2.2.1, x3.2.2.2.2.2.2.2.2.2.2.2.2.2.2.2) : gX) o z) := by
            intro y o z
            rw [r_mapDl2 P3 hD14 hk i4 (by rw [x3k]; exact O1.et) (by rw [x3k]; exact ct1), e3, n6, x3k]
            rfl
          have O3 : gO N3 2 (i + 1) (gq_ent (u2.1 k) i (u1.2.2.2.2.2.2.2.2.2.2.2.2.1 2) (u1.2.2.2.2.2.2.2.2.2.2.2.2.1 3) (u2.2.2.2.2.2.2.2.2.2.2.2.2.1 2) (u2.2.2.2.2.2.2.2.2.2.2.2.2.1 3)) (gp_ent (x1.1 k) i (u1.2.2.2.2.2.2.2.2.2.2.2.2.1 2) (u1.2.2.2.2.2.2.2.2.2.2.2.2.1 3) (u2.2.2.2.2.2.2.2.2.2.2.2.2.1 2) (u2.2.2.2.2.2.2.2.2.2.2.2.2.1 3)) := by
            rw [u2k]
            exact gO_ent (gO_mono n3 O1) i4 (gV_mono n3 (gV1_V l8)) (gV1_V n8)
          have f6 : (gq_ent (u2.1 k) i (u1.2.2.2.2.2.2.2.2.2.2.2.2.1 2) (u1.2.2.2.2.2.2.2.2.2.2.2.2.1 3) (u2.2.2.2.2.2.2.2.2.2.2.2.2.1 2) (u2.2.2.2.2.2.2.2.2.2.2.2.2.1 3)).2.2.2.2.1 6 = 0 := by
            rcases O3.d4 with h | h; exact h; omega
          have D4 : gD n0 f q m N3 pos3 ((gup u2.1 k (gq_ent (u2.1 k) i (u1.2.2.2.2.2.2.2.2.2.2.2.2.1 2) (u1.2.2.2.2.2.2.2.2.2.2.2.2.1 3) (u2.2.2.2.2.2.2.2.2.2.2.2.2.1 2) (u2.2.2.2.2.2.2.2.2.2.2.2.2.1 3)), u2.2.1, u2.2.2.1, u2.2.2.2.1, u2.2.2.2.2.1, u2.2.2.2.2.2.1, u2.2.2.2.2.2.2.1, u2.2.2.2.2.2.2.2.1, u2.2.2.2.2.2.2.2.2.1, u2.2.2.2.2.2.2.2.2.2.1, u2.2.2.2.2.2.2.2.2.2.2.1, u2.2.2.2.2.2.2.2.2.2.2.2.1, u2.2.2.2.2.2.2.2.2.2.2.2.2.1, u2.2.2.2.2.2.2.2.2.2.2.2.2.2.1, u2.2.2.2.2.2.2.2.2.2.2.2.2.2.2) : gU) ((gup x3.1 k (gp_ent (x1.1 k) i (u1.2.2.2.2.2.2.2.2.2.2.2.2.1 2) (u1.2.2.2.2.2.2.2.2.2.2.2.2.1 3) (u2.2.2.2.2.2.2.2.2.2.2.2.2.1 2) (u2.2.2.2.2.2.2.2.2.2.2.2.2.1 3)), x3.2.1, x3.2.2.1, x3.2.2.2.1, x3.2.2.2.2.1, x3.2.2.2.2.2.1, x3.2.2.2.2.2.2.1, gup x3.2.2.2.2.2.2.2.1 D (Int32.ofNat (2 * (i + 1))), x3.2.2.2.2.2.2.2.2.1, x3.2.2.2.2.2.2.2.2.2.1, x3.2.2.2.2.2.2.2.2.2.2.1, x3.2.2.2.2.2.2.2.2.2.2.2.1, x3.2.2.2.2.2.2.2.2.2.2.2.2.1, x3.2.2.2.2.2.2.2.2.2.2.2.2.2.1, x3.2.2.2.2.2.2.2.2.2.2.2.2.2.2.1, x3.2.2.2.2.2.2.2.2.2.2.2.2.2.2.2) : gX) := gD_x (gD_ob (k := k) n2 ⟨2, i + 1, O3⟩ f6) rfl rfl rfl rfl (fun _ _ _ => rfl) rfl (fun _ _ _ _ => rfl) rfl rfl
          have to4 := gTo_trans to3 (gRT_dl n1 n2.gg n5 hD14 dl3)
          have K := IH (i + 1) g ((gup u2.1 k (gq_ent (u2.1 k) i (u1.2.2.2.2.2.2.2.2.2.2.2.2.1 2) (u1.2.2.2.2.2.2.2.2.2.2.2.2.1 3) (u2.2.2.2.2.2.2.2.2.2.2.2.2.1 2) (u2.2.2.2.2.2.2.2.2.2.2.2.2.1 3)), u2.2.1, u2.2.2.1, u2.2.2.2.1, u2.2.2.2.2.1, u2.2.2.2.2.2.1, u2.2.2.2.2.2.2.1, u2.2.2.2.2.2.2.2.1, u2.2.2.2.2.2.2.2.2.1, u2.2.2.2.2.2.2.2.2.2.1, u2.2.2.2.2.2.2.2.2.2.2.1, u2.2.2.2.2.2.2.2.2.2.2.2.1, u2.2.2.2.2.2.2.2.2.2.2.2.2.1, u2.2.2.2.2.2.2.2.2.2.2.2.2.2.1, u2.2.2.2.2.2.2.2.2.2.2.2.2.2.2) : gU) ((gup x3.1 k (gp_ent (x1.1 k) i (u1.2.2.2.2.2.2.2.2.2.2.2.2.1 2) (u1.2.2.2.2.2.2.2.2.2.2.2.2.1 3) (u2.2.2.2.2.2.2.2.2.2.2.2.2.1 2) (u2.2.2.2.2.2.2.2.2.2.2.2.2.1 3)), x3.2.1, x3.2.2.1, x3.2.2.2.1, x3.2.2.2.2.1, x3.2.2.2.2.2.1, x3.2.2.2.2.2.2.1, gup x3.2.2.2.2.2.2.2.1 D (Int32.ofNat (2 * (i + 1))), x3.2.2.2.2.2.2.2.2.1, x3.2.2.2.2.2.2.2.2.2.1, x3.2.2.2.2.2.2.2.2.2.2.1, x3.2.2.2.2.2.2.2.2.2.2.2.1, x3.2.2.2.2.2.2.2.2.2.2.2.2.1, x3.2.2.2.2.2.2.2.2.2.2.2.2.2.1, x3.2.2.2.2.2.2.2.2.2.2.2.2.2.2.1, x3.2.2.2.2.2.2.2.2.2.2.2.2.2.2.2) : gX) N3 pos3 (by omega) D4 (by omega) (by show gO N3 2 (i + 1) (gup _ _ _ k) (gup _ _ _ k); rw [gup_eq, gup_eq]; exact O3) ⟨P3.1, P3.2.1, gup_eq, P3.2.2.2⟩
          have h5 : (u2.1 k).2.2.2.2.1 5 = Int32.ofNat i := by rw [u2k, uk]; exact O.ec
          have fu : gUf k u ((gup u2.1 k (gq_ent (u2.1 k) i (u1.2.2.2.2.2.2.2.2.2.2.2.2.1 2) (u1.2.2.2.2.2.2.2.2.2.2.2.2.1 3) (u2.2.2.2.2.2.2.2.2.2.2.2.2.1 2) (u2.2.2.2.2.2.2.2.2.2.2.2.2.1 3)), u2.2.1, u2.2.2.1, u2.2.2.2.1, u2.2.2.2.2.1, u2.2.2.2.2.2.1, u2.2.2.2.2.2.2.1, u2.2.2.2.2.2.2.2.1, u2.2.2.2.2.2.2.2.2.1, u2.2.2.2.2.2.2.2.2.2.1, u2.2.2.2.2.2.2.2.2.2.2.1, u2.2.2.2.2.2.2.2.2.2.2.2.1, u2.2.2.2.2.2.2.2.2.2.2.2.2.1, u2.2.2.2.2.2.2.2.2.2.2.2.2.2.1, u2.2.2.2.2.2.2.2.2.2.2.2.2.2.2) : gU) := gUf_trans (gUf_mono (gUf_trans w2 v2 l3) (by omega)) ⟨fun j hj => gup_ne (by omega), rfl, rfl, rfl, rfl, rfl, rfl, rfl⟩ (Nat.le_refl k)
          have t4 : gXf k D x ((gup x3.1 k (gp_ent (x1.1 k) i (u1.2.2.2.2.2.2.2.2.2.2.2.2.1 2) (u1.2.2.2.2.2.2.2.2.2.2.2.2.1 3) (u2.2.2.2.2.2.2.2.2.2.2.2.2.1 2) (u2.2.2.2.2.2.2.2.2.2.2.2.2.1 3)), x3.2.1, x3.2.2.1, x3.2.2.2.1, x3.2.2.2.2.1, x3.2.2.2.2.2.1, x3.2.2.2.2.2.2.1, gup x3.2.2.2.2.2.2.2.1 D (Int32.ofNat (2 * (i + 1))), x3.2.2.2.2.2.2.2.2.1, x3.2.2.2.2.2.2.2.2.2.1, x3.2.2.2.2.2.2.2.2.2.2.1, x3.2.2.2.2.2.2.2.2.2.2.2.1, x3.2.2.2.2.2.2.2.2.2.2.2.2.1, x3.2.2.2.2.2.2.2.2.2.2.2.2.2.1, x3.2.2.2.2.2.2.2.2.2.2.2.2.2.2.1, x3.2.2.2.2.2.2.2.2.2.2.2.2.2.2.2) : gX) := by
            refine gXf_trans (gXf_trans (gXf_trans t1 t2 (Nat.le_refl _) (Nat.le_refl _)) n4 (by omega) (by omega)) (D2 := D) (N2 := k) ?_ (Nat.le_refl _) (Nat.le_refl _)
            exact ⟨⟨fun j hj => gup_ne (by omega), fun _ _ => rfl, rfl, rfl, rfl, rfl⟩, fun j hj => ⟨rfl, gup_ne (by omega), rfl⟩, fun _ _ => rfl, fun _ _ => ⟨rfl, rfl, rfl⟩⟩
          refine gVal_mono (gVal_step to4 fu t4 (fun y o z => ?_) K) (by omega)
          show ((cR_readMap_11 W (g + r + 1 + 1) (some 187) (some 1) (some 163) (some (3 + 5 * k)) (Int32.ofNat (D + 1)) (Int32.ofNat c) (Int32.ofNat i) (gH u y o z)).bind _) = _
          rw [k_mapStep hk hc hic hD14 G.wr w1 v1 h5, if_pos ⟨n2.wr, by rw [u2k]; exact hn⟩]
        · exact bad u2 v1 (gUf_mono v2 l3) (fun h => by rw [n0'] at h; exact absurd h.1 i_10) x3 (gRF_mono (gTo_F to3 n1) (by omega)) (gXd_trans (gXf_trans t1 t2 (Nat.le_refl _) (Nat.le_refl _)).fd n2 (by omega))
      · obtain ⟨u2, v1, v2, v3⟩ := ih u1 x1 N1 pos1 l2 l5
        have u2k : u2.1 k = u1.1 k := v2.uC k (by omega)
        have dl : ∀ y o z, mM_deliver (some 188) (gH y x1 o z) = some (gH y ((gup x1.1 k (gp_key (x1.1 k) i (x1.2.1 35) (x1.2.1 36)), gup x1.2.1 31 0, x1.2.2.1, x1.2.2.2.1, x1.2.2.2.2.1, x1.2.2.2.2.2.1, x1.2.2.2.2.2.2.1, gup x1.2.2.2.2.2.2.2.1 D (Int32.ofNat (2 * i + 1)), x1.2.2.2.2.2.2.2.2.1, x1.2.2.2.2.2.2.2.2.2.1, x1.2.2.2.2.2.2.2.2.2.2.1, x1.2.2.2.2.2.2.2.2.2.2.2.1, x1.2.2.2.2.2.2.2.2.2.2.2.2.1, x1.2.2.2.2.2.2.2.2.2.2.2.2.2.1, x1.2.2.2.2.2.2.2.2.2.2.2.2.2.2.1, x1.2.2.2.2.2.2.2.2.2.2.2.2.2.2.2) : gX) o z) := by
          intro y o z
          rw [dl0, fnd, if_neg hn]
        refine bad u2 v1 (gUf_mono v2 l3) (fun h => hn (by have := h.2; rw [u2k] at this; exact this)) _ (gRF_mono (gTo_F (gTo_trans to (gRT_dl l1 l2.gg l5 hD14 dl)) (gRF_dead rfl)) (by omega)) (gXd_trans t1.fd (N2 := k) ⟨fun j hj => gup_ne (by omega), fun j hj => gup_ne (by omega), rfl, rfl, rfl, rfl⟩ (Nat.le_refl _))
    · exact bad u1 (fun y o z => dead u1 y o z _ l0) gUf_refl (fun h => by rw [l0] at h; exact absurd h.1 i_10) x1 (gRF_mono (gTo_F to l1) (by omega)) (gXd_trans gXd_refl l2 (by omega))
end H
