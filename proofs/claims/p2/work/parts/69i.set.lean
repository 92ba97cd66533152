/-! read: sets -/
section H
variable {n0 f q m N pos : Nat} {u : gU} {x : gX} {W : gWr}
theorem k_setD {g : Nat} {t : Option Nat} {d c i : Int32} (h : u.2.2.2.2.2.2.2.2.2.2.2.2.1 1 = 1) : ∀ y o z, cR_readSet_11 W (g + 1) (some 187) (some 1) (some 163) t d c i (gH u y o z) = some (gH u y o z) := by
  intro y o z
  rw [cR_readSet_11, hi_187_1, Option.bind_some, if_neg (show ¬ u.2.2.2.2.2.2.2.2.2.2.2.2.1 1 = 0 by rw [h]; exact i_10)]
  split <;> rfl
theorem r_goVal {D k i c s : Nat} (P : gPi D k i c x) (hD : D < 14) (hk : k < 32) (hc8 : c ≤ 8) (hi : i < c) (ht : (x.1 k).2.2.2.2.1 = Int32.ofNat s) (hs : s = 2 ∨ s = 3) : ∀ y o z, mM_goesOn (some 188) (gH y x o z) = some (1, gH y x o z) := by
  intro y o z
  have ne : ¬ Int32.ofNat i = Int32.ofNat c := fun e => by have := (n_eq (by omega) (by omega)).mp e; omega
  rw [r_go P hD hk ht]
  obtain ⟨p1, p2, p3, p4⟩ := P
  have s0 : ¬ Int32.ofNat s = 0 := by rcases hs with rfl | rfl <;> decide
  have s1 : ¬ Int32.ofNat s = 1 := by rcases hs with rfl | rfl <;> decide
  rw [mM_goesOn_28, if_neg s0, hr_188_20, Option.bind_some, ha_202 hD, Option.bind_some, hr_188_21, Option.bind_some, ha_203 hD, Option.bind_some, p3, p4, if_neg ne, if_neg s1]
theorem r_151 {k i : Nat} {v : Int32} {b : Nat → Int32} (hk : k < 32) (hi : i < 8) (hv : v = 0 ∨ v = 1) (hc : (x.1 k).2.2.2.2.2.1 = Int32.ofNat i) : ∀ y o z, mM_deliver_151 (some 188) (Int32.ofNat k) (some 188) v (gH y ((x.1, x.2.1, x.2.2.1, x.2.2.2.1, x.2.2.2.2.1, x.2.2.2.2.2.1, x.2.2.2.2.2.2.1, b, x.2.2.2.2.2.2.2.2.1, x.2.2.2.2.2.2.2.2.2.1, x.2.2.2.2.2.2.2.2.2.2.1, x.2.2.2.2.2.2.2.2.2.2.2.1, x.2.2.2.2.2.2.2.2.2.2.2.2.1, x.2.2.2.2.2.2.2.2.2.2.2.2.2.1, x.2.2.2.2.2.2.2.2.2.2.2.2.2.2.1, x.2.2.2.2.2.2.2.2.2.2.2.2.2.2.2) : gX) o z) = some (gH y ((gup x.1 k (gp_add (x.1 k) i (x.2.1 35) (gcn (x.2.1 35) (x.2.1 36))), gup x.2.1 31 v, x.2.2.1, x.2.2.2.1, x.2.2.2.2.1, x.2.2.2.2.2.1, x.2.2.2.2.2.2.1, b, x.2.2.2.2.2.2.2.2.1, x.2.2.2.2.2.2.2.2.2.1, x.2.2.2.2.2.2.2.2.2.2.1, x.2.2.2.2.2.2.2.2.2.2.2.1, x.2.2.2.2.2.2.2.2.2.2.2.2.1, x.2.2.2.2.2.2.2.2.2.2.2.2.2.1, x.2.2.2.2.2.2.2.2.2.2.2.2.2.2.1, x.2.2.2.2.2.2.2.2.2.2.2.2.2.2.2) : gX) o z) := by
  intro y o z
  have e35 : gup x.2.1 31 v 35 = x.2.1 35 := rfl
  have e36 : gup x.2.1 31 v 36 = x.2.1 36 := rfl
  simp only [mM_deliver_151, not_or, if_neg (show ¬ (¬ v = 0 ∧ ¬ v = 1) from fun h => by rcases hv with e | e; exact h.1 e; exact h.2 e), hp_188_31, Option.bind_some, hr_188_3, ha_190 hk, hc, hi_188_35, hi_188_36, e35, e36, ho_188, n_8, r_setSlot hk hi, gup_eq, n_succ, hb_190 hk, gup_gup]
  rfl
theorem r_setDl {D k i c : Nat} (P : gPi D k i c x) (hD : D < 14) (hk : k < 32) (hi : i < 8) (hg : x.2.1 31 = 1) (ht : (x.1 k).2.2.2.2.1 = Int32.ofNat 3) (hc : (x.1 k).2.2.2.2.2.1 = Int32.ofNat i) : ∀ y o z, mM_deliver (some 188) (gH y x o z) = mM_deliver_151 (some 188) (Int32.ofNat k) (some 188) (if (gfi (fun j => decide ((x.1 k).2.2.1 j = x.2.1 35 ∧ (x.1 k).2.2.2.1 j = gcn (x.2.1 35) (x.2.1 36))) i 0).isSome then 0 else 1) (gH y ((x.1, x.2.1, x.2.2.1, x.2.2.2.1, x.2.2.2.2.1, x.2.2.2.2.2.1, x.2.2.2.2.2.2.1, gup x.2.2.2.2.2.2.2.1 D (Int32.ofNat (i + 1)), x.2.2.2.2.2.2.2.2.1, x.2.2.2.2.2.2.2.2.2.1, x.2.2.2.2.2.2.2.2.2.2.1, x.2.2.2.2.2.2.2.2.2.2.2.1, x.2.2.2.2.2.2.2.2.2.2.2.2.1, x.2.2.2.2.2.2.2.2.2.2.2.2.2.1, x.2.2.2.2.2.2.2.2.2.2.2.2.2.2.1, x.2.2.2.2.2.2.2.2.2.2.2.2.2.2.2) : gX) o z) := by
  intro y o z
  rw [r_dl P hD hk ht]
  obtain ⟨p1, p2, p3, p4⟩ := P
  have hm := fun a b => r_has (u := y) (x := ((x.1, x.2.1, x.2.2.1, x.2.2.2.1, x.2.2.2.2.1, x.2.2.2.2.2.1, x.2.2.2.2.2.2.1, gup x.2.2.2.2.2.2.2.1 D (Int32.ofNat (i + 1)), x.2.2.2.2.2.2.2.2.1, x.2.2.2.2.2.2.2.2.2.1, x.2.2.2.2.2.2.2.2.2.2.1, x.2.2.2.2.2.2.2.2.2.2.2.1, x.2.2.2.2.2.2.2.2.2.2.2.2.1, x.2.2.2.2.2.2.2.2.2.2.2.2.2.1, x.2.2.2.2.2.2.2.2.2.2.2.2.2.2.1, x.2.2.2.2.2.2.2.2.2.2.2.2.2.2.2) : gX)) (o := o) (z := z) (a := a) (b := b) hk hc (show i ≤ 8 by omega)
  simp only [mM_deliver_28, hr_188_20, Option.bind_some, ha_202 hD, p3, hb_202 hD, n_succ, if_neg (show ¬ Int32.ofNat 3 = 0 by decide), if_neg (show ¬ Int32.ofNat 3 = 1 by decide), if_pos (show Int32.ofNat 3 = 3 by decide), hi_188_31, if_neg (show ¬ x.2.1 31 = 0 by rw [hg]; exact i_10), hi_188_35, hi_188_36, ho_188, hm]
  cases gfi (fun j => decide ((x.1 k).2.2.1 j = x.2.1 35 ∧ (x.1 k).2.2.2.1 j = gcn (x.2.1 35) (x.2.1 36))) i 0 with
  | none => rfl
  | some j => rfl
theorem rd_setL {D k c B : Nat} (hD : D + 1 ≤ 12) (hk0 : n0 ≤ k) (ih : gIR n0 f q m (D + 1) B W) (hc : c ≤ 5) : ∀ (r i g : Nat) (u : gU) (x : gX) (N pos : Nat), i + r = c → gD n0 f q m N pos u x → k < N → gO N 3 i (u.1 k) (x.1 k) → gPi D k i c x → gVal n0 f q m D (r * (B + 1) + 2) k 0 u x (fun h => (cR_readSet_11 W (g + r + 1) (some 187) (some 1) (some 163) (some (3 + 5 * k)) (Int32.ofNat (D + 1)) (Int32.ofNat c) (Int32.ofNat i) h).bind fun h => cR_readObject_128 W (some 187) (Int32.ofNat k) h) := by
  have hD14 : D < 14 := by omega
  intro r
  induction r with
  | zero =>
    intro i g u x N pos e G hkN O P
    obtain rfl : i = c := by omega
    have hk : k < 32 := by have := G.hN; omega
    refine gVal_end G hk0 hkN (fun y o z => ?_) (gRT_mono (gRT_go2 G.gg (r_goEnd P hD14 hk O.et (by decide))) (by omega))
    simp only [cR_readSet_11, if_neg (n_nltl (n := i) (m := i) (by omega) (by omega) (by omega)), Option.bind_some, k_128]
  | succ r IH =>
    intro i g u x N pos e G hkN O P
    have hk : k < 32 := by have := G.hN; omega
    have i8 : i < 8 := by omega
    have hic : i < c := by omega
    have ct : (x.1 k).2.2.2.2.2.1 = Int32.ofNat i := O.ep (by rcases O.d4 with h | h; exact h; omega)
    have wr0 : u.2.2.2.2.2.2.2.2.2.2.2.2.1 1 = 0 := G.wr
    have bd : 1 + B + (r * (B + 1) + 2) ≤ (r + 1) * (B + 1) + 2 := by rw [Nat.succ_mul]; omega
    have to := gTo_go1 G.gg (r_goVal P hD14 hk (by omega) hic O.et (Or.inr rfl))
    obtain ⟨u', w1, w2, w3⟩ := ih u x N pos G P.1
    have uk : u'.1 k = u.1 k := w2.uC k hkN
    have h5 : (u'.1 k).2.2.2.2.1 5 = Int32.ofNat i := by rw [uk]; exact O.ec
    have cl : ∀ y o z, cR_readSet_11 W (g + (r + 1) + 1) (some 187) (some 1) (some 163) (some (3 + 5 * k)) (Int32.ofNat (D + 1)) (Int32.ofNat c) (Int32.ofNat i) (gH u y o z) = if u'.2.2.2.2.2.2.2.2.2.2.2.2.1 1 = 0 ∧ gfi (fun j => decide ((u'.1 k).2.2.1 j = u'.2.2.2.2.2.2.2.2.2.2.2.2.1 2 ∧ (u'.1 k).2.2.2.1 j = u'.2.2.2.2.2.2.2.2.2.2.2.2.1 3)) i 0 = none then cR_readSet_11 W (g + r + 1) (some 187) (some 1) (some 163) (some (3 + 5 * k)) (Int32.ofNat (D + 1)) (Int32.ofNat c) (Int32.ofNat (i + 1)) (gH ((gup u'.1 k (gq_add (u'.1 k) i (u'.2.2.2.2.2.2.2.2.2.2.2.2.1 2) (u'.2.2.2.2.2.2.2.2.2.2.2.2.1 3)), u'.2.1, u'.2.2.1, u'.2.2.2.1, u'.2.2.2.2.1, u'.2.2.2.2.2.1, u'.2.2.2.2.2.2.1, u'.2.2.2.2.2.2.2.1, u'.2.2.2.2.2.2.2.2.1, u'.2.2.2.2.2.2.2.2.2.1, u'.2.2.2.2.2.2.2.2.2.2.1, u'.2.2.2.2.2.2.2.2.2.2.2.1, u'.2.2.2.2.2.2.2.2.2.2.2.2.1, u'.2.2.2.2.2.2.2.2.2.2.2.2.2.1, u'.2.2.2.2.2.2.2.2.2.2.2.2.2.2) : gU) y o z) else some (gH ((u'.1, u'.2.1, u'.2.2.1, u'.2.2.2.1, u'.2.2.2.2.1, u'.2.2.2.2.2.1, u'.2.2.2.2.2.2.1, u'.2.2.2.2.2.2.2.1, u'.2.2.2.2.2.2.2.2.1, u'.2.2.2.2.2.2.2.2.2.1, u'.2.2.2.2.2.2.2.2.2.2.1, u'.2.2.2.2.2.2.2.2.2.2.2.1, gup u'.2.2.2.2.2.2.2.2.2.2.2.2.1 1 1, u'.2.2.2.2.2.2.2.2.2.2.2.2.2.1, u'.2.2.2.2.2.2.2.2.2.2.2.2.2.2) : gU) y o z) := by
      intro y o z
      have dd := fun d => k_setD (W := W) (g := g + r) (t := some (3 + 5 * k)) (d := Int32.ofNat (D + 1)) (c := Int32.ofNat c) (i := d) (u := ((u'.1, u'.2.1, u'.2.2.1, u'.2.2.2.1, u'.2.2.2.2.1, u'.2.2.2.2.2.1, u'.2.2.2.2.2.2.1, u'.2.2.2.2.2.2.2.1, u'.2.2.2.2.2.2.2.2.1, u'.2.2.2.2.2.2.2.2.2.1, u'.2.2.2.2.2.2.2.2.2.2.1, u'.2.2.2.2.2.2.2.2.2.2.2.1, gup u'.2.2.2.2.2.2.2.2.2.2.2.2.1 1 1, u'.2.2.2.2.2.2.2.2.2.2.2.2.2.1, u'.2.2.2.2.2.2.2.2.2.2.2.2.2.2) : gU)) rfl y o z
      rw [show g + (r + 1) + 1 = (g + r + 1) + 1 by omega, cR_readSet_11, if_pos (n_ltl (by omega) (by omega) hic), hi_187_1, Option.bind_some, if_pos wr0, ho_187, Option.bind_some, n_succ, w1, Option.bind_some, hi_187_1, Option.bind_some]
      by_cases c0 : u'.2.2.2.2.2.2.2.2.2.2.2.2.1 1 = 0
      · rw [if_pos c0, hi_187_2, Option.bind_some, hi_187_3, Option.bind_some, ho_T hk, Option.bind_some, k_has hk h5 (by omega), Option.bind_some]
        cases hf : gfi (fun j => decide ((u'.1 k).2.2.1 j = u'.2.2.2.2.2.2.2.2.2.2.2.2.1 2 ∧ (u'.1 k).2.2.2.1 j = u'.2.2.2.2.2.2.2.2.2.2.2.2.1 3)) i 0 with
        | none =>
          rw [if_pos (show u'.2.2.2.2.2.2.2.2.2.2.2.2.1 1 = 0 ∧ (none : Option Nat) = none from ⟨c0, rfl⟩)]
          simp only [Option.isSome_none, Bool.false_eq_true, if_false, if_true, hi_187_2, hi_187_3, Option.bind_some, ho_T hk, k_app hk h5 (show i ≤ 5 by omega), if_pos (show i < 5 by omega), if_neg i_10, cR_readSet_77, n_succ]
        | some j =>
          rw [if_neg (show ¬ (u'.2.2.2.2.2.2.2.2.2.2.2.2.1 1 = 0 ∧ some j = none) from fun h => by have := h.2; simp at this)]
          simp only [Option.isSome_some, if_true, if_neg i_10, cR_readSet_72, hp_187_1, Option.bind_some, cR_readSet_77]
          exact dd _
      · rw [if_neg c0, if_neg (fun h => c0 h.1)]
        simp only [cR_readSet_72, hp_187_1, Option.bind_some, cR_readSet_77]
        exact dd _
    have bad : ¬ (u'.2.2.2.2.2.2.2.2.2.2.2.2.1 1 = 0 ∧ gfi (fun j => decide ((u'.1 k).2.2.1 j = u'.2.2.2.2.2.2.2.2.2.2.2.2.1 2 ∧ (u'.1 k).2.2.2.1 j = u'.2.2.2.2.2.2.2.2.2.2.2.2.1 3)) i 0 = none) → ∀ x', gRF (1 + B + 2) 0 x x' → gXd k x x' → gVal n0 f q m D ((r + 1) * (B + 1) + 2) k 0 u x (fun h => (cR_readSet_11 W (g + (r + 1) + 1) (some 187) (some 1) (some 163) (some (3 + 5 * k)) (Int32.ofNat (D + 1)) (Int32.ofNat c) (Int32.ofNat i) h).bind fun h => cR_readObject_128 W (some 187) (Int32.ofNat k) h) := by
      intro h x' h1 h2
      refine gVal_bad (u' := ((u'.1, u'.2.1, u'.2.2.1, u'.2.2.2.1, u'.2.2.2.2.1, u'.2.2.2.2.2.1, u'.2.2.2.2.2.2.1, u'.2.2.2.2.2.2.2.1, u'.2.2.2.2.2.2.2.2.1, u'.2.2.2.2.2.2.2.2.2.1, u'.2.2.2.2.2.2.2.2.2.2.1, u'.2.2.2.2.2.2.2.2.2.2.2.1, gup (gup (gup u'.2.2.2.2.2.2.2.2.2.2.2.2.1 1 1) 2 6) 3 (Int32.ofNat k), u'.2.2.2.2.2.2.2.2.2.2.2.2.2.1, u'.2.2.2.2.2.2.2.2.2.2.2.2.2.2) : gU)) (fun y o z => ?_) (gUf_trans (gUf_mono w2 (by omega)) gUf_r (Nat.le_refl k)) rfl (gRF_mono h1 (by omega)) h2
      show ((cR_readSet_11 W (g + (r + 1) + 1) (some 187) (some 1) (some 163) (some (3 + 5 * k)) (Int32.ofNat (D + 1)) (Int32.ofNat c) (Int32.ofNat i) (gH u y o z)).bind _) = _
      rw [cl, if_neg h, Option.bind_some, k_128]
    rcases w3 with ⟨x', l1, N', pos', l2, l3, l4, l5, l6, l7, l8⟩ | ⟨l0, x', l1, l2⟩
    · have xk : x'.1 k = x.1 k := l4.fd.dR k hkN
      have O' : gO N' 3 i (u'.1 k) (x'.1 k) := by rw [uk, xk]; exact gO_mono l3 O
      obtain ⟨q1, q2, q3⟩ := l4.f1 D (by omega)
      have P' : gPi D k i c x' := ⟨l5, q1.trans P.2.1, q2.trans P.2.2.1, q3.trans P.2.2.2⟩
      have ct' : (x'.1 k).2.2.2.2.2.1 = Int32.ofNat i := by rw [xk]; exact ct
      have e2 : gcn (x'.2.1 35) (x'.2.1 36) = u'.2.2.2.2.2.2.2.2.2.2.2.2.1 3 := by rw [l6, l7]; exact gV1_cn l8
      have t1 : gXf k D x x' := gXf_trans gXf_refl l4 (by omega) (by omega)
      have fnd : gfi (fun j => decide ((x'.1 k).2.2.1 j = x'.2.1 35 ∧ (x'.1 k).2.2.2.1 j = gcn (x'.2.1 35) (x'.2.1 36))) i 0 = gfi (fun j => decide ((u'.1 k).2.2.1 j = u'.2.2.2.2.2.2.2.2.2.2.2.2.1 2 ∧ (u'.1 k).2.2.2.1 j = u'.2.2.2.2.2.2.2.2.2.2.2.2.1 3)) i 0 := by
        rw [e2, l6]
        exact (set_find O').symm
      by_cases hn : gfi (fun j => decide ((u'.1 k).2.2.1 j = u'.2.2.2.2.2.2.2.2.2.2.2.2.1 2 ∧ (u'.1 k).2.2.2.1 j = u'.2.2.2.2.2.2.2.2.2.2.2.2.1 3)) i 0 = none
      · have dl : ∀ y o z, mM_deliver (some 188) (gH y x' o z) = some (gH y ((gup x'.1 k (gp_add (x'.1 k) i (u'.2.2.2.2.2.2.2.2.2.2.2.2.1 2) (u'.2.2.2.2.2.2.2.2.2.2.2.2.1 3)), x'.2.1, x'.2.2.1, x'.2.2.2.1, x'.2.2.2.2.1, x'.2.2.2.2.2.1, x'.2.2.2.2.2.2.1, gup x'.2.2.2.2.2.2.2.1 D (Int32.ofNat (i + 1)), x'.2.2.2.2.2.2.2.2.1, x'.2.2.2.2.2.2.2.2.2.1, x'.2.2.2.2.2.2.2.2.2.2.1, x'.2.2.2.2.2.2.2.2.2.2.2.1, x'.2.2.2.2.2.2.2.2.2.2.2.2.1, x'.2.2.2.2.2.2.2.2.2.2.2.2.2.1, x'.2.2.2.2.2.2.2.2.2.2.2.2.2.2.1, x'.2.2.2.2.2.2.2.2.2.2.2.2.2.2.2) : gX) o z) := by
          intro y o z
          rw [r_setDl P' hD14 hk i8 l2.gg O'.et ct', fnd, hn]
          simp only [Option.isSome_none, Bool.false_eq_true, if_false]
          rw [r_151 hk i8 (Or.inr rfl) ct', gup_same l2.gg, e2, l6]
        obtain ⟨D2, O2⟩ := gD_add (D := D) (w := Int32.ofNat (i + 1)) l2 O' (Or.inr rfl) (show i + 1 ≤ 5 by omega) (gV1_V l8)
        have to2 := gTo_trans to (gRT_dl l1 l2.gg l5 hD14 dl)
        have fu : gUf k u ((gup u'.1 k (gq_add (u'.1 k) i (u'.2.2.2.2.2.2.2.2.2.2.2.2.1 2) (u'.2.2.2.2.2.2.2.2.2.2.2.2.1 3)), u'.2.1, u'.2.2.1, u'.2.2.2.1, u'.2.2.2.2.1, u'.2.2.2.2.2.1, u'.2.2.2.2.2.2.1, u'.2.2.2.2.2.2.2.1, u'.2.2.2.2.2.2.2.2.1, u'.2.2.2.2.2.2.2.2.2.1, u'.2.2.2.2.2.2.2.2.2.2.1, u'.2.2.2.2.2.2.2.2.2.2.2.1, u'.2.2.2.2.2.2.2.2.2.2.2.2.1, u'.2.2.2.2.2.2.2.2.2.2.2.2.2.1, u'.2.2.2.2.2.2.2.2.2.2.2.2.2.2) : gU) := ⟨fun j hj => (gup_ne (by omega)).trans (w2.uC j (by omega)), w2.u0, w2.u3, w2.u4, w2.u5, w2.u6, w2.u8, w2.uh⟩
        have K := IH (i + 1) g ((gup u'.1 k (gq_add (u'.1 k) i (u'.2.2.2.2.2.2.2.2.2.2.2.2.1 2) (u'.2.2.2.2.2.2.2.2.2.2.2.2.1 3)), u'.2.1, u'.2.2.1, u'.2.2.2.1, u'.2.2.2.2.1, u'.2.2.2.2.2.1, u'.2.2.2.2.2.2.1, u'.2.2.2.2.2.2.2.1, u'.2.2.2.2.2.2.2.2.1, u'.2.2.2.2.2.2.2.2.2.1, u'.2.2.2.2.2.2.2.2.2.2.1, u'.2.2.2.2.2.2.2.2.2.2.2.1, u'.2.2.2.2.2.2.2.2.2.2.2.2.1, u'.2.2.2.2.2.2.2.2.2.2.2.2.2.1, u'.2.2.2.2.2.2.2.2.2.2.2.2.2.2) : gU) ((gup x'.1 k (gp_add (x'.1 k) i (u'.2.2.2.2.2.2.2.2.2.2.2.2.1 2) (u'.2.2.2.2.2.2.2.2.2.2.2.2.1 3)), x'.2.1, x'.2.2.1, x'.2.2.2.1, x'.2.2.2.2.1, x'.2.2.2.2.2.1, x'.2.2.2.2.2.2.1, gup x'.2.2.2.2.2.2.2.1 D (Int32.ofNat (i + 1)), x'.2.2.2.2.2.2.2.2.1, x'.2.2.2.2.2.2.2.2.2.1, x'.2.2.2.2.2.2.2.2.2.2.1, x'.2.2.2.2.2.2.2.2.2.2.2.1, x'.2.2.2.2.2.2.2.2.2.2.2.2.1, x'.2.2.2.2.2.2.2.2.2.2.2.2.2.1, x'.2.2.2.2.2.2.2.2.2.2.2.2.2.2.1, x'.2.2.2.2.2.2.2.2.2.2.2.2.2.2.2) : gX) N' pos' (by omega) D2 (by omega) O2 ⟨P'.1, P'.2.1, gup_eq, P'.2.2.2⟩
        refine gVal_mono (gVal_step to2 fu ?_ (fun y o z => ?_) K) (by omega)
        · refine gXf_trans t1 (D2 := D) (N2 := k) ?_ (Nat.le_refl _) (Nat.le_refl _)
          exact ⟨⟨fun j hj => gup_ne (by omega), fun _ _ => rfl, rfl, rfl, rfl, rfl⟩, fun j hj => ⟨rfl, gup_ne (by omega), rfl⟩, fun _ _ => rfl, fun _ _ => ⟨rfl, rfl, rfl⟩⟩
        · show ((cR_readSet_11 W (g + (r + 1) + 1) (some 187) (some 1) (some 163) (some (3 + 5 * k)) (Int32.ofNat (D + 1)) (Int32.ofNat c) (Int32.ofNat i) (gH u y o z)).bind _) = _
          rw [cl, if_pos ⟨l2.wr, hn⟩]
      · have dl : ∀ y o z, mM_deliver (some 188) (gH y x' o z) = some (gH y ((gup x'.1 k (gp_add (x'.1 k) i (x'.2.1 35) (gcn (x'.2.1 35) (x'.2.1 36))), gup x'.2.1 31 0, x'.2.2.1, x'.2.2.2.1, x'.2.2.2.2.1, x'.2.2.2.2.2.1, x'.2.2.2.2.2.2.1, gup x'.2.2.2.2.2.2.2.1 D (Int32.ofNat (i + 1)), x'.2.2.2.2.2.2.2.2.1, x'.2.2.2.2.2.2.2.2.2.1, x'.2.2.2.2.2.2.2.2.2.2.1, x'.2.2.2.2.2.2.2.2.2.2.2.1, x'.2.2.2.2.2.2.2.2.2.2.2.2.1, x'.2.2.2.2.2.2.2.2.2.2.2.2.2.1, x'.2.2.2.2.2.2.2.2.2.2.2.2.2.2.1, x'.2.2.2.2.2.2.2.2.2.2.2.2.2.2.2) : gX) o z) := by
          intro y o z
          rw [r_setDl P' hD14 hk i8 l2.gg O'.et ct', fnd]
          cases hf : gfi (fun j => decide ((u'.1 k).2.2.1 j = u'.2.2.2.2.2.2.2.2.2.2.2.2.1 2 ∧ (u'.1 k).2.2.2.1 j = u'.2.2.2.2.2.2.2.2.2.2.2.2.1 3)) i 0 with
          | none => exact absurd hf hn
          | some j =>
            simp only [Option.isSome_some, if_true]
            rw [r_151 hk i8 (Or.inl rfl) ct']
        refine bad (fun h => hn h.2) _ (gRF_mono (gTo_F (gTo_trans to (gRT_dl l1 l2.gg l5 hD14 dl)) (gRF_dead rfl)) (by omega)) (gXd_trans t1.fd (N2 := k) ⟨fun j hj => gup_ne (by omega), fun j hj => gup_ne (by omega), rfl, rfl, rfl, rfl⟩ (Nat.le_refl _))
    · exact bad (fun h => by rw [l0] at h; exact absurd h.1 i_10) x' (gRF_mono (gTo_F to l1) (by omega)) (gXd_trans gXd_refl l2 (by omega))
end H
