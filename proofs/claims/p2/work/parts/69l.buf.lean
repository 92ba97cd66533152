/-! read: buffers, stamps -/
def gOb2 (n0 f q m D N : Nat) (u : gU) (x : gX) (A M : gx_H → Option gx_H) : Prop := ∃ u', (∀ y o z, A (gH u y o z) = some (gH u' y o z)) ∧ gUf N u u' ∧ ((∃ x', (∀ y o z, M (gH y x o z) = some (gH y x' o z)) ∧ gOk n0 f q m D N u' x x') ∨ (u'.2.2.2.2.2.2.2.2.2.2.2.2.1 1 = 1 ∧ ∃ x', (∀ y o z, M (gH y x o z) = some (gH y x' o z)) ∧ x'.2.1 31 = 0 ∧ gXd N x x'))
theorem gOb2_pr {n0 f q m D N : Nat} {u : gU} {x : gX} {A M : gx_H → Option gx_H} (h : gPr n0 f q m N u x A M) (h18 : x.2.1 18 = Int32.ofNat D) : gOb2 n0 f q m D N u x A M := by
  rcases h with ⟨pos', r, s, h1, h2, h3, h4, h5, h6, h7⟩ | ⟨r, s, h1, h2, h3, h4, h5⟩
  · exact ⟨_, h1, gUf_r, Or.inl ⟨_, h2, N, pos', h3, Nat.le_refl _, gXf_s h4, (h4 18 (by omega)).trans h18, h5, h6, h7⟩⟩
  · exact ⟨_, h1, gUf_r, Or.inr ⟨h3, _, h2, h4, gXd_s h5⟩⟩
theorem gO_nu {n : Nat} {q : gQ} {p : gP} {v : Nat → Int32} (O : gO n 4 0 q p) : gO n 4 0 q ((p.1, p.2.1, p.2.2.1, v, p.2.2.2.2.1, p.2.2.2.2.2.1, p.2.2.2.2.2.2.1, p.2.2.2.2.2.2.2) : gP) :=
  ⟨O.s8, O.es, O.et, O.ec, O.c8, O.ed, O.d4, O.ep, O.e0, fun h => by omega, fun h => by omega, fun h => by omega, fun h => by omega, fun h => by omega, fun h => by omega, fun h => by omega, fun h i hi => by omega, fun h => by omega, fun h => by omega⟩
theorem gO_buf {n l : Nat} {q : gQ} {p : gP} {w : Int64} {v : Nat → Int32} (O : gO n 4 0 q p) (f6 : q.2.2.2.2.1 6 = 0) (hl : l ≤ 8) (h : ∀ i, i < l → v i = gt_w w i) : gO n 4 l ((q.1, q.2.1, q.2.2.1, q.2.2.2.1, gup q.2.2.2.2.1 5 (Int32.ofNat l), gup q.2.2.2.2.2 10 w) : gQ) ((p.1, p.2.1, p.2.2.1, v, p.2.2.2.2.1, Int32.ofNat l, p.2.2.2.2.2.2.1, p.2.2.2.2.2.2.2) : gP) :=
  ⟨O.s8, O.es, O.et, rfl, hl, O.ed, Or.inl f6, fun _ => rfl, fun h => absurd f6 h, fun h => by omega, fun h => by omega, fun h => by omega, fun h => by omega, fun h => by omega, fun h => by omega, fun h => by omega, fun _ i hi => h i hi, fun h => by omega, fun h => by omega⟩
theorem gO_stp {n : Nat} {q : gQ} {p : gP} {w : Int64} (O : gO n 6 0 q p) : gO n 6 0 ((q.1, q.2.1, q.2.2.1, q.2.2.2.1, q.2.2.2.2.1, gup q.2.2.2.2.2 10 w) : gQ) ((p.1, p.2.1, p.2.2.1, p.2.2.2.1, p.2.2.2.2.1, p.2.2.2.2.2.1, p.2.2.2.2.2.2.1, w) : gP) :=
  ⟨O.s8, O.es, O.et, O.ec, O.c8, O.ed, O.d4, O.ep, O.e0, fun h => by omega, fun h => by omega, fun h => by omega, fun h => by omega, fun h => by omega, fun h => by omega, fun h => by omega, fun h => by omega, fun h => by omega, fun _ => rfl⟩
section H
variable {n0 f q m N pos : Nat} {u : gU} {x : gX} {W : gWr}
theorem r_buf53 {k l : Nat} (hk : k < 32) (h : x.2.1 31 = 0) : ∀ y o z, mM_takeBuffer_53 (some 188) (Int32.ofNat l) (Int32.ofNat k) (gH y x o z) = some (gH y ((gup x.1 k (((x.1 k).1, (x.1 k).2.1, (x.1 k).2.2.1, (x.1 k).2.2.2.1, (x.1 k).2.2.2.2.1, (x.1 k).2.2.2.2.2.1, (x.1 k).2.2.2.2.2.2.1, (x.1 k).2.2.2.2.2.2.2) : gP), gup (gup x.2.1 35 6) 36 (Int32.ofNat k), x.2.2.1, x.2.2.2.1, x.2.2.2.2.1, x.2.2.2.2.2.1, x.2.2.2.2.2.2.1, x.2.2.2.2.2.2.2.1, x.2.2.2.2.2.2.2.2.1, x.2.2.2.2.2.2.2.2.2.1, x.2.2.2.2.2.2.2.2.2.2.1, x.2.2.2.2.2.2.2.2.2.2.2.1, x.2.2.2.2.2.2.2.2.2.2.2.2.1, x.2.2.2.2.2.2.2.2.2.2.2.2.2.1, x.2.2.2.2.2.2.2.2.2.2.2.2.2.2.1, x.2.2.2.2.2.2.2.2.2.2.2.2.2.2.2) : gX) o z) := by
  intro y o z
  rw [mM_takeBuffer_53, hr_188_3, Option.bind_some, hi_188_31, Option.bind_some, if_pos h, Option.bind_some, ha_190 hk, Option.bind_some, mM_takeBuffer_75, hb_190 hk, Option.bind_some, ho_188, Option.bind_some, r_got, Option.bind_some]
theorem r_buf53D {k l : Nat} (hk : k < 32) (h : x.2.1 31 = 0) : ∃ x', x'.2.1 31 = 0 ∧ gXd N x x' ∧ ∀ y o z, mM_takeBuffer_53 (some 188) (Int32.ofNat l) (Int32.ofNat k) (gH y x o z) = some (gH y x' o z) := by
  refine ⟨_, ?_, ?_, r_buf53 hk h⟩
  · exact h
  · refine ⟨fun j hj => ?_, fun i hi => ?_, rfl, rfl, rfl, rfl⟩
    · show gup x.1 k (((x.1 k).1, (x.1 k).2.1, (x.1 k).2.2.1, (x.1 k).2.2.2.1, (x.1 k).2.2.2.2.1, (x.1 k).2.2.2.2.2.1, (x.1 k).2.2.2.2.2.2.1, (x.1 k).2.2.2.2.2.2.2) : gP) j = x.1 j
      by_cases e : j = k
      · subst e; rw [gup_eq]
      · rw [gup_ne e]
    · show gup (gup x.2.1 35 6) 36 (Int32.ofNat k) i = _
      rw [gup_ne (by omega), gup_ne (by omega)]
theorem r_buf20D {k l i G : Nat} (hk : k < 32) (hl : l ≤ 8) (h : x.2.1 31 = 0) : ∃ x', x'.2.1 31 = 0 ∧ gXd N x x' ∧ ∀ y o z, mM_takeBuffer_20 (G + 1) (some 188) (Int32.ofNat l) (Int32.ofNat k) (Int32.ofNat i) (gH y x o z) = some (gH y x' o z) := by
  obtain ⟨x', h1, h2, h3⟩ := r_buf53D (N := N) (l := l) hk h
  refine ⟨x', h1, h2, fun y o z => ?_⟩
  rw [mM_takeBuffer_20, hi_188_31, Option.bind_some, if_pos h, h3]
  split <;> rfl
/-- the state with a byte more -/
def xn (x : gX) (k i p : Nat) (v : Int32) : gX := ((gup x.1 k (((x.1 k).1, (x.1 k).2.1, (x.1 k).2.2.1, gup (x.1 k).2.2.2.1 i v, (x.1 k).2.2.2.2.1, (x.1 k).2.2.2.2.2.1, (x.1 k).2.2.2.2.2.2.1, (x.1 k).2.2.2.2.2.2.2) : gP), (sx x p).2.1, (sx x p).2.2.1, (sx x p).2.2.2.1, (sx x p).2.2.2.2.1, (sx x p).2.2.2.2.2.1, (sx x p).2.2.2.2.2.2.1, (sx x p).2.2.2.2.2.2.2.1, (sx x p).2.2.2.2.2.2.2.2.1, (sx x p).2.2.2.2.2.2.2.2.2.1, (sx x p).2.2.2.2.2.2.2.2.2.2.1, (sx x p).2.2.2.2.2.2.2.2.2.2.2.1, (sx x p).2.2.2.2.2.2.2.2.2.2.2.2.1, (sx x p).2.2.2.2.2.2.2.2.2.2.2.2.2.1, (sx x p).2.2.2.2.2.2.2.2.2.2.2.2.2.2.1, (sx x p).2.2.2.2.2.2.2.2.2.2.2.2.2.2.2) : gX)
theorem r_bufStep {k l i g : Nat} (D : gD n0 f q m N pos u x) (hk : k < 32) (hl : l ≤ 8) (hi : i < l) (p : pos < m) : ∀ y o z, mM_takeBuffer_20 (g + 1) (some 188) (Int32.ofNat l) (Int32.ofNat k) (Int32.ofNat i) (gH y x o z) = mM_takeBuffer_20 g (some 188) (Int32.ofNat l) (Int32.ofNat k) (Int32.ofNat (i + 1)) (gH y (xn x k i (pos + 1) (u.2.2.2.2.1 pos)) o z) := by
  intro y o z
  rw [mM_takeBuffer_20, if_pos (n_ltl (by omega) (by omega) hi), hi_188_31, Option.bind_some, if_neg (show ¬ x.2.1 31 = 0 by rw [D.gg]; exact i_10), hr_188_9, Option.bind_some, ho_188, Option.bind_some, r_nx D p, Option.bind_some, n_8, hb_196 hk (show i < 8 by omega), Option.bind_some, n_succ]
  rfl
theorem r_bufStep0 {k l i g : Nat} (D : gD n0 f q m N pos u x) (hk : k < 32) (hl : l ≤ 8) (hi : i < l) (p : ¬ pos < m) : ∀ y o z, mM_takeBuffer_20 (g + 1) (some 188) (Int32.ofNat l) (Int32.ofNat k) (Int32.ofNat i) (gH y x o z) = mM_takeBuffer_20 g (some 188) (Int32.ofNat l) (Int32.ofNat k) (Int32.ofNat (i + 1)) (gH y ((gup x.1 k (((x.1 k).1, (x.1 k).2.1, (x.1 k).2.2.1, gup (x.1 k).2.2.2.1 i 0, (x.1 k).2.2.2.2.1, (x.1 k).2.2.2.2.2.1, (x.1 k).2.2.2.2.2.2.1, (x.1 k).2.2.2.2.2.2.2) : gP), gup (gup x.2.1 31 0) 32 (Int32.ofNat (pos + 1)), x.2.2.1, x.2.2.2.1, x.2.2.2.2.1, x.2.2.2.2.2.1, x.2.2.2.2.2.2.1, x.2.2.2.2.2.2.2.1, x.2.2.2.2.2.2.2.2.1, x.2.2.2.2.2.2.2.2.2.1, x.2.2.2.2.2.2.2.2.2.2.1, x.2.2.2.2.2.2.2.2.2.2.2.1, x.2.2.2.2.2.2.2.2.2.2.2.2.1, x.2.2.2.2.2.2.2.2.2.2.2.2.2.1, x.2.2.2.2.2.2.2.2.2.2.2.2.2.2.1, x.2.2.2.2.2.2.2.2.2.2.2.2.2.2.2) : gX) o z) := by
  intro y o z
  rw [mM_takeBuffer_20, if_pos (n_ltl (by omega) (by omega) hi), hi_188_31, Option.bind_some, if_neg (show ¬ x.2.1 31 = 0 by rw [D.gg]; exact i_10), hr_188_9, Option.bind_some, ho_188, Option.bind_some, r_nx0 D p, Option.bind_some, n_8, hb_196 hk (show i < 8 by omega), Option.bind_some, n_succ]
theorem gD_nu {k : Nat} {v : Nat → Int32} (D : gD n0 f q m N pos u x) (O : gO N 4 0 (u.1 k) (x.1 k)) (f6 : (u.1 k).2.2.2.2.1 6 = 0) : gD n0 f q m N pos u ((gup x.1 k (((x.1 k).1, (x.1 k).2.1, (x.1 k).2.2.1, v, (x.1 k).2.2.2.2.1, (x.1 k).2.2.2.2.2.1, (x.1 k).2.2.2.2.2.2.1, (x.1 k).2.2.2.2.2.2.2) : gP), x.2.1, x.2.2.1, x.2.2.2.1, x.2.2.2.2.1, x.2.2.2.2.2.1, x.2.2.2.2.2.2.1, x.2.2.2.2.2.2.2.1, x.2.2.2.2.2.2.2.2.1, x.2.2.2.2.2.2.2.2.2.1, x.2.2.2.2.2.2.2.2.2.2.1, x.2.2.2.2.2.2.2.2.2.2.2.1, x.2.2.2.2.2.2.2.2.2.2.2.2.1, x.2.2.2.2.2.2.2.2.2.2.2.2.2.1, x.2.2.2.2.2.2.2.2.2.2.2.2.2.2.1, x.2.2.2.2.2.2.2.2.2.2.2.2.2.2.2) : gX) := by
  have := gD_ob (k := k) (q' := u.1 k) (p' := (((x.1 k).1, (x.1 k).2.1, (x.1 k).2.2.1, v, (x.1 k).2.2.2.2.1, (x.1 k).2.2.2.2.2.1, (x.1 k).2.2.2.2.2.2.1, (x.1 k).2.2.2.2.2.2.2) : gP)) D ⟨4, 0, gO_nu O⟩ f6
  exact gD_x this (by show u.1 = gup u.1 k (u.1 k); rw [gup_self]) rfl rfl rfl (fun _ _ _ => rfl) rfl (fun _ _ _ _ => rfl) rfl rfl
theorem r_bufL {k l : Nat} (hkN : k < N) (hl : l ≤ 8) : ∀ (r i g : Nat) (u : gU) (x : gX) (pos : Nat), i + r = l → gD n0 f q m N pos u x → gO N 4 0 (u.1 k) (x.1 k) → (u.1 k).2.2.2.2.1 6 = 0 → pos + r ≤ m → ∃ v, (∀ y o z, mM_takeBuffer_20 (g + r + 1) (some 188) (Int32.ofNat l) (Int32.ofNat k) (Int32.ofNat i) (gH y x o z) = some (gH y ((gup x.1 k (((x.1 k).1, (x.1 k).2.1, (x.1 k).2.2.1, v, (x.1 k).2.2.2.2.1, Int32.ofNat l, (x.1 k).2.2.2.2.2.2.1, (x.1 k).2.2.2.2.2.2.2) : gP), gup (gup (gup x.2.1 32 (Int32.ofNat (pos + r))) 35 6) 36 (Int32.ofNat k), x.2.2.1, x.2.2.2.1, x.2.2.2.2.1, x.2.2.2.2.2.1, x.2.2.2.2.2.2.1, x.2.2.2.2.2.2.2.1, x.2.2.2.2.2.2.2.2.1, x.2.2.2.2.2.2.2.2.2.1, x.2.2.2.2.2.2.2.2.2.2.1, x.2.2.2.2.2.2.2.2.2.2.2.1, x.2.2.2.2.2.2.2.2.2.2.2.2.1, x.2.2.2.2.2.2.2.2.2.2.2.2.2.1, x.2.2.2.2.2.2.2.2.2.2.2.2.2.2.1, x.2.2.2.2.2.2.2.2.2.2.2.2.2.2.2) : gX) o z)) ∧ (∀ j, j < i → v j = (x.1 k).2.2.2.1 j) ∧ ∀ j, j < r → v (i + j) = u.2.2.2.2.1 (pos + j) := by
  intro r
  induction r with
  | zero =>
    intro i g u x pos e D O f6 c
    have hk : k < 32 := by have := D.hN; omega
    refine ⟨(x.1 k).2.2.2.1, fun y o z => ?_, fun j hj => rfl, fun j hj => by omega⟩
    obtain rfl : i = l := by omega
    rw [mM_takeBuffer_20, if_neg (n_nltl (by omega) (by omega) (by omega)), mM_takeBuffer_53, hr_188_3, Option.bind_some, hi_188_31, Option.bind_some, if_neg (show ¬ x.2.1 31 = 0 by rw [D.gg]; exact i_10), mM_takeBuffer_75, hb_190 hk, Option.bind_some, ho_188, Option.bind_some, r_got, Option.bind_some, Nat.add_zero, gup_same D.px]
  | succ r ih =>
    intro i g u x pos e D O f6 c
    have hk : k < 32 := by have := D.hN; omega
    have p : pos < m := by omega
    have ek : (xn x k i (pos + 1) (u.2.2.2.2.1 pos)).1 k = (((x.1 k).1, (x.1 k).2.1, (x.1 k).2.2.1, gup (x.1 k).2.2.2.1 i (u.2.2.2.2.1 pos), (x.1 k).2.2.2.2.1, (x.1 k).2.2.2.2.2.1, (x.1 k).2.2.2.2.2.2.1, (x.1 k).2.2.2.2.2.2.2) : gP) := gup_eq
    have D1 : gD n0 f q m N (pos + 1) (su u (pos + 1)) (xn x k i (pos + 1) (u.2.2.2.2.1 pos)) := gD_nu (gD_s D (by omega)) O f6
    obtain ⟨v, h1, h2, h3⟩ := ih (i + 1) g (su u (pos + 1)) (xn x k i (pos + 1) (u.2.2.2.2.1 pos)) (pos + 1) (by omega) D1 (by rw [ek]; exact gO_nu O) f6 (by omega)
    refine ⟨v, fun y o z => ?_, fun j hj => ?_, fun j hj => ?_⟩
    · rw [show g + (r + 1) + 1 = (g + r + 1) + 1 by omega, r_bufStep D hk hl (by omega) p, h1, ek]
      show some (gH y ((gup (gup x.1 k (((x.1 k).1, (x.1 k).2.1, (x.1 k).2.2.1, gup (x.1 k).2.2.2.1 i (u.2.2.2.2.1 pos), (x.1 k).2.2.2.2.1, (x.1 k).2.2.2.2.2.1, (x.1 k).2.2.2.2.2.2.1, (x.1 k).2.2.2.2.2.2.2) : gP)) k (((x.1 k).1, (x.1 k).2.1, (x.1 k).2.2.1, v, (x.1 k).2.2.2.2.1, Int32.ofNat l, (x.1 k).2.2.2.2.2.2.1, (x.1 k).2.2.2.2.2.2.2) : gP), gup (gup (gup (gup x.2.1 32 (Int32.ofNat (pos + 1))) 32 (Int32.ofNat (pos + 1 + r))) 35 6) 36 (Int32.ofNat k), x.2.2.1, x.2.2.2.1, x.2.2.2.2.1, x.2.2.2.2.2.1, x.2.2.2.2.2.2.1, x.2.2.2.2.2.2.2.1, x.2.2.2.2.2.2.2.2.1, x.2.2.2.2.2.2.2.2.2.1, x.2.2.2.2.2.2.2.2.2.2.1, x.2.2.2.2.2.2.2.2.2.2.2.1, x.2.2.2.2.2.2.2.2.2.2.2.2.1, x.2.2.2.2.2.2.2.2.2.2.2.2.2.1, x.2.2.2.2.2.2.2.2.2.2.2.2.2.2.1, x.2.2.2.2.2.2.2.2.2.2.2.2.2.2.2) : gX) o z) = _
      rw [gup_gup, gup_gup, show pos + 1 + r = pos + (r + 1) by omega]
    · rw [h2 j (by omega), ek]
      exact gup_ne (by omega)
    · by_cases c0 : j = 0
      · subst c0
        show v i = u.2.2.2.2.1 pos
        rw [h2 i (by omega), ek]
        exact gup_eq
      · have := h3 (j - 1) (by omega)
        rw [show i + 1 + (j - 1) = i + j by omega, show pos + 1 + (j - 1) = pos + j by omega] at this
        exact this
theorem r_bufL0 {k l : Nat} (hkN : k < N) (hl : l ≤ 8) : ∀ (r i g : Nat) (u : gU) (x : gX) (pos : Nat), i + r = l → gD n0 f q m N pos u x → gO N 4 0 (u.1 k) (x.1 k) → (u.1 k).2.2.2.2.1 6 = 0 → ¬ pos + r ≤ m → ∃ x', x'.2.1 31 = 0 ∧ gXd k x x' ∧ ∀ y o z, mM_takeBuffer_20 (g + r + 1 + 1) (some 188) (Int32.ofNat l) (Int32.ofNat k) (Int32.ofNat i) (gH y x o z) = some (gH y x' o z) := by
  intro r
  induction r with
  | zero =>
    intro i g u x pos e D O f6 c
    exact absurd D.hp (by omega)
  | succ r ih =>
    intro i g u x pos e D O f6 c
    have hk : k < 32 := by have := D.hN; omega
    by_cases p : pos < m
    · have ek : (xn x k i (pos + 1) (u.2.2.2.2.1 pos)).1 k = (((x.1 k).1, (x.1 k).2.1, (x.1 k).2.2.1, gup (x.1 k).2.2.2.1 i (u.2.2.2.2.1 pos), (x.1 k).2.2.2.2.1, (x.1 k).2.2.2.2.2.1, (x.1 k).2.2.2.2.2.2.1, (x.1 k).2.2.2.2.2.2.2) : gP) := gup_eq
      have D1 : gD n0 f q m N (pos + 1) (su u (pos + 1)) (xn x k i (pos + 1) (u.2.2.2.2.1 pos)) := gD_nu (gD_s D (by omega)) O f6
      obtain ⟨x', h1, h2, h3⟩ := ih (i + 1) g (su u (pos + 1)) (xn x k i (pos + 1) (u.2.2.2.2.1 pos)) (pos + 1) (by omega) D1 (by rw [ek]; exact gO_nu O) f6 (by omega)
      have h0 : gXd k x (xn x k i (pos + 1) (u.2.2.2.2.1 pos)) := ⟨fun j hj => gup_ne (by omega), fun j hj => gup_ne (by omega), rfl, rfl, rfl, rfl⟩
      refine ⟨x', h1, gXd_trans h0 h2 (Nat.le_refl _), fun y o z => ?_⟩
      rw [show g + (r + 1) + 1 + 1 = (g + r + 1 + 1) + 1 by omega, r_bufStep D hk hl (by omega) p]
      exact h3 y o z
    · obtain ⟨x', h1, h2, h3⟩ := r_buf20D (N := k) (l := l) (i := i + 1) (G := g + r + 1) (x := ((gup x.1 k (((x.1 k).1, (x.1 k).2.1, (x.1 k).2.2.1, gup (x.1 k).2.2.2.1 i 0, (x.1 k).2.2.2.2.1, (x.1 k).2.2.2.2.2.1, (x.1 k).2.2.2.2.2.2.1, (x.1 k).2.2.2.2.2.2.2) : gP), gup (gup x.2.1 31 0) 32 (Int32.ofNat (pos + 1)), x.2.2.1, x.2.2.2.1, x.2.2.2.2.1, x.2.2.2.2.2.1, x.2.2.2.2.2.2.1, x.2.2.2.2.2.2.2.1, x.2.2.2.2.2.2.2.2.1, x.2.2.2.2.2.2.2.2.2.1, x.2.2.2.2.2.2.2.2.2.2.1, x.2.2.2.2.2.2.2.2.2.2.2.1, x.2.2.2.2.2.2.2.2.2.2.2.2.1, x.2.2.2.2.2.2.2.2.2.2.2.2.2.1, x.2.2.2.2.2.2.2.2.2.2.2.2.2.2.1, x.2.2.2.2.2.2.2.2.2.2.2.2.2.2.2) : gX)) hk hl rfl
      have h0 : gXd k x ((gup x.1 k (((x.1 k).1, (x.1 k).2.1, (x.1 k).2.2.1, gup (x.1 k).2.2.2.1 i 0, (x.1 k).2.2.2.2.1, (x.1 k).2.2.2.2.2.1, (x.1 k).2.2.2.2.2.2.1, (x.1 k).2.2.2.2.2.2.2) : gP), gup (gup x.2.1 31 0) 32 (Int32.ofNat (pos + 1)), x.2.2.1, x.2.2.2.1, x.2.2.2.2.1, x.2.2.2.2.2.1, x.2.2.2.2.2.2.1, x.2.2.2.2.2.2.2.1, x.2.2.2.2.2.2.2.2.1, x.2.2.2.2.2.2.2.2.2.1, x.2.2.2.2.2.2.2.2.2.2.1, x.2.2.2.2.2.2.2.2.2.2.2.1, x.2.2.2.2.2.2.2.2.2.2.2.2.1, x.2.2.2.2.2.2.2.2.2.2.2.2.2.1, x.2.2.2.2.2.2.2.2.2.2.2.2.2.2.1, x.2.2.2.2.2.2.2.2.2.2.2.2.2.2.2) : gX) := by
        refine ⟨fun j hj => gup_ne (by omega), fun j hj => ?_, rfl, rfl, rfl, rfl⟩
        show gup (gup x.2.1 31 0) 32 (Int32.ofNat (pos + 1)) j = _
        rw [gup_ne (by omega), gup_ne (by omega)]
      refine ⟨x', h1, gXd_trans h0 h2 (Nat.le_refl _), fun y o z => ?_⟩
      · rw [show g + (r + 1) + 1 + 1 = (g + r + 1 + 1) + 1 by omega, r_bufStep0 D hk hl (by omega) p]
        exact h3 y o z
theorem k_hold {k : Nat} {w : Int64} {v : Int32} (hk : k < 32) : ∀ y o z, cT_holdBytes (some (3 + 5 * k)) w v (gH u y o z) = some (gH ((gup u.1 k (((u.1 k).1, (u.1 k).2.1, (u.1 k).2.2.1, (u.1 k).2.2.2.1, gup (u.1 k).2.2.2.2.1 5 v, gup (u.1 k).2.2.2.2.2 10 w) : gQ), u.2.1, u.2.2.1, u.2.2.2.1, u.2.2.2.2.1, u.2.2.2.2.2.1, u.2.2.2.2.2.2.1, u.2.2.2.2.2.2.2.1, u.2.2.2.2.2.2.2.2.1, u.2.2.2.2.2.2.2.2.2.1, u.2.2.2.2.2.2.2.2.2.2.1, u.2.2.2.2.2.2.2.2.2.2.2.1, u.2.2.2.2.2.2.2.2.2.2.2.2.1, u.2.2.2.2.2.2.2.2.2.2.2.2.2.1, u.2.2.2.2.2.2.2.2.2.2.2.2.2.2) : gU) y o z) := by
  intro y o z
  simp only [cT_holdBytes, hqT_10 hk, Option.bind_some, hpT_5 hk, gup_eq, gup_gup]
theorem k_obj {D : Nat} {t : Int32} (G : gD n0 f q m N pos u x) (hN : N < 32) {F : gx_H → Option gx_H} (hF : ∀ h, (if t = (0 : Int32) then ((gv_is h (some 187) 6).bind fun _ => (cR_readRecord W (some 187) (some 1) (some 163) (some (3 + 5 * N)) (Int32.ofNat (D + 1)) h).bind fun h10 => cR_readObject_128 W (some 187) (Int32.ofNat N) h10) else if t = (1 : Int32) then ((gv_is h (some 187) 6).bind fun _ => (cR_readList W (some 187) (some 1) (some 163) (some (3 + 5 * N)) (Int32.ofNat (D + 1)) h).bind fun h14 => cR_readObject_128 W (some 187) (Int32.ofNat N) h14) else if t = (2 : Int32) then ((gv_is h (some 187) 6).bind fun _ => (cR_readMap W (some 187) (some 1) (some 163) (some (3 + 5 * N)) (Int32.ofNat (D + 1)) h).bind fun h18 => cR_readObject_128 W (some 187) (Int32.ofNat N) h18) else if t = (3 : Int32) then ((gv_is h (some 187) 6).bind fun _ => (cR_readSet W (some 187) (some 1) (some 163) (some (3 + 5 * N)) (Int32.ofNat (D + 1)) h).bind fun h22 => cR_readObject_128 W (some 187) (Int32.ofNat N) h22) else if t = (4 : Int32) then ((gv_is h (some 187) 6).bind fun _ => (cR_readBuffer (some 187) (some 163) (some (3 + 5 * N)) h).bind fun h26 => cR_readObject_128 W (some 187) (Int32.ofNat N) h26) else (gv_is h (some 187) 6).bind fun _ => (cR_nextZigzag (some 187) (some 163) h).bind fun r30 => (gv_pV r30.2 (some (3 + 5 * N)) 2 10 (.long r30.1)).bind fun h31 => cR_readObject_128 W (some 187) (Int32.ofNat N) h31) = F h) : ∀ y o z, cR_readObject W (some 187) (some 1) (some 163) t (Int32.ofNat (D + 1)) (gH u y o z) = F (gH (ub u N t) y o z) := by
  intro y o z
  rw [cR_readObject, hi_1_1, Option.bind_some, ho_187, Option.bind_some, k_bt G hN, Option.bind_some, if_neg (by simp)]
  show (if t = 0 then _ else _) = _
  rw [show u.2.2.1 1 = Int32.ofNat N from G.un]
  exact hF _
theorem k_obj0 {D : Nat} {t : Int32} (G : gD n0 f q m 32 pos u x) : ∀ y o z, cR_readObject W (some 187) (some 1) (some 163) t (Int32.ofNat (D + 1)) (gH u y o z) = some (gH ((u.1, u.2.1, u.2.2.1, u.2.2.2.1, u.2.2.2.2.1, u.2.2.2.2.2.1, u.2.2.2.2.2.2.1, u.2.2.2.2.2.2.2.1, u.2.2.2.2.2.2.2.2.1, u.2.2.2.2.2.2.2.2.2.1, u.2.2.2.2.2.2.2.2.2.2.1, u.2.2.2.2.2.2.2.2.2.2.2.1, gup u.2.2.2.2.2.2.2.2.2.2.2.2.1 1 1, u.2.2.2.2.2.2.2.2.2.2.2.2.2.1, u.2.2.2.2.2.2.2.2.2.2.2.2.2.2) : gU) y o z) := by
  intro y o z
  rw [cR_readObject, hi_1_1, Option.bind_some, ho_187, Option.bind_some, k_bt0 G, Option.bind_some, if_pos rfl]
theorem gOb2_pre {D N : Nat} {u0 : gU} {x0 : gX} {A A0 M M0 : gx_H → Option gx_H} (hA : ∀ y o z, A (gH u y o z) = A0 (gH u0 y o z)) (hM : ∀ y o z, M (gH y x o z) = M0 (gH y x0 o z)) (hu : gUf N u u0) (hx : gXf N D x x0) (k : gOb2 n0 f q m D N u0 x0 A0 M0) : gOb2 n0 f q m D N u x A M := by
  obtain ⟨u', k1, k2, k3⟩ := k
  refine ⟨u', fun y o z => (hA y o z).trans (k1 y o z), gUf_trans hu k2 (Nat.le_refl _), ?_⟩
  rcases k3 with ⟨x', l1, N', pos', l2, l3, l4, l5⟩ | ⟨l0, x', l1, l2, l3⟩
  · exact Or.inl ⟨x', fun y o z => (hM y o z).trans (l1 y o z), N', pos', l2, l3, gXf_trans hx l4 (Nat.le_refl _) (Nat.le_refl _), l5⟩
  · exact Or.inr ⟨l0, x', fun y o z => (hM y o z).trans (l1 y o z), l2, gXd_trans hx.fd l3 (Nat.le_refl _)⟩
theorem gOb2_bad {D N : Nat} {u' : gU} {x' : gX} {A M : gx_H → Option gx_H} (h1 : ∀ y o z, A (gH u y o z) = some (gH u' y o z)) (h2 : ∀ y o z, M (gH y x o z) = some (gH y x' o z)) (h3 : gUf N u u') (h4 : u'.2.2.2.2.2.2.2.2.2.2.2.2.1 1 = 1) (h5 : x'.2.1 31 = 0) (h6 : gXd N x x') : gOb2 n0 f q m D N u x A M := ⟨u', h1, h3, Or.inr ⟨h4, x', h2, h5, h6⟩⟩
theorem rd_bufIn {D l N : Nat} (G : gD n0 f q m (N + 1) pos u x) (O : gO (N + 1) 4 0 (u.1 N) (x.1 N)) (f6 : (u.1 N).2.2.2.2.1 6 = 0) (hN : N < 32) (hn : n0 ≤ N) (h18 : x.2.1 18 = Int32.ofNat D) (hl : l ≤ 8) : gOb2 n0 f q m D N u x (fun h => (cR_nextWord (some 187) (some 163) (Int32.ofNat l) h).bind fun r8 => (gv_is r8.2 (some (3 + 5 * N)) 2).bind fun _ => (cT_holdBytes (some (3 + 5 * N)) r8.1 (Int32.ofNat l) r8.2).bind fun h26 => cR_readObject_128 W (some 187) (Int32.ofNat N) h26) (fun h => mM_takeBuffer_20 1000000000000000 (some 188) (Int32.ofNat l) (Int32.ofNat N) (Int32.ofNat 0) h) := by
  by_cases c2 : pos + l ≤ m
  · obtain ⟨G2, hG2⟩ : ∃ G, 1000000000000000 = G + l + 1 := ⟨999999999999999 - l, by omega⟩
    obtain ⟨v, v1, _, v3⟩ := r_bufL (k := N) (by omega) hl l 0 G2 _ _ pos (by omega) G O f6 c2
    have wd := k_word hl G c2
    have hb : ∀ j, j < l → ∃ t, t < 256 ∧ u.2.2.2.2.1 (pos + j) = Int32.ofNat t := fun j hj => G.b8 _ (by omega)
    obtain ⟨_, w1⟩ := gwd_byte (b := u.2.2.2.2.1) l 0 pos 0 (by omega) hb gLow0
    have O2 := gO_buf (w := gwd u.2.2.2.2.1 l 0 pos 0) (v := v) O f6 hl (fun i hi => by
      have a := v3 i hi
      have b := w1 i hi
      rw [Nat.zero_add] at a b
      rw [b]; exact a)
    have D2 : gD n0 f q m (N + 1) (pos + l) ((gup u.1 N (((u.1 N).1, (u.1 N).2.1, (u.1 N).2.2.1, (u.1 N).2.2.2.1, gup (u.1 N).2.2.2.2.1 5 (Int32.ofNat l), gup (u.1 N).2.2.2.2.2 10 (gwd u.2.2.2.2.1 l 0 pos 0)) : gQ), (su u (pos + l)).2.1, (su u (pos + l)).2.2.1, (su u (pos + l)).2.2.2.1, (su u (pos + l)).2.2.2.2.1, (su u (pos + l)).2.2.2.2.2.1, (su u (pos + l)).2.2.2.2.2.2.1, (su u (pos + l)).2.2.2.2.2.2.2.1, (su u (pos + l)).2.2.2.2.2.2.2.2.1, (su u (pos + l)).2.2.2.2.2.2.2.2.2.1, (su u (pos + l)).2.2.2.2.2.2.2.2.2.2.1, (su u (pos + l)).2.2.2.2.2.2.2.2.2.2.2.1, (su u (pos + l)).2.2.2.2.2.2.2.2.2.2.2.2.1, (su u (pos + l)).2.2.2.2.2.2.2.2.2.2.2.2.2.1, (su u (pos + l)).2.2.2.2.2.2.2.2.2.2.2.2.2.2) : gU) ((gup x.1 N (((x.1 N).1, (x.1 N).2.1, (x.1 N).2.2.1, v, (x.1 N).2.2.2.2.1, Int32.ofNat l, (x.1 N).2.2.2.2.2.2.1, (x.1 N).2.2.2.2.2.2.2) : gP), (sx x (pos + l)).2.1, (sx x (pos + l)).2.2.1, (sx x (pos + l)).2.2.2.1, (sx x (pos + l)).2.2.2.2.1, (sx x (pos + l)).2.2.2.2.2.1, (sx x (pos + l)).2.2.2.2.2.2.1, (sx x (pos + l)).2.2.2.2.2.2.2.1, (sx x (pos + l)).2.2.2.2.2.2.2.2.1, (sx x (pos + l)).2.2.2.2.2.2.2.2.2.1, (sx x (pos + l)).2.2.2.2.2.2.2.2.2.2.1, (sx x (pos + l)).2.2.2.2.2.2.2.2.2.2.2.1, (sx x (pos + l)).2.2.2.2.2.2.2.2.2.2.2.2.1, (sx x (pos + l)).2.2.2.2.2.2.2.2.2.2.2.2.2.1, (sx x (pos + l)).2.2.2.2.2.2.2.2.2.2.2.2.2.2.1, (sx x (pos + l)).2.2.2.2.2.2.2.2.2.2.2.2.2.2.2) : gX) := gD_ob (k := N) (gD_s G c2) ⟨4, l, O2⟩ f6
    refine ⟨((gup u.1 N (((u.1 N).1, (u.1 N).2.1, (u.1 N).2.2.1, (u.1 N).2.2.2.1, gup (u.1 N).2.2.2.2.1 5 (Int32.ofNat l), gup (u.1 N).2.2.2.2.2 10 (gwd u.2.2.2.2.1 l 0 pos 0)) : gQ), (su u (pos + l)).2.1, (su u (pos + l)).2.2.1, (su u (pos + l)).2.2.2.1, (su u (pos + l)).2.2.2.2.1, (su u (pos + l)).2.2.2.2.2.1, (su u (pos + l)).2.2.2.2.2.2.1, (su u (pos + l)).2.2.2.2.2.2.2.1, (su u (pos + l)).2.2.2.2.2.2.2.2.1, (su u (pos + l)).2.2.2.2.2.2.2.2.2.1, (su u (pos + l)).2.2.2.2.2.2.2.2.2.2.1, (su u (pos + l)).2.2.2.2.2.2.2.2.2.2.2.1, gup (gup (su u (pos + l)).2.2.2.2.2.2.2.2.2.2.2.2.1 2 6) 3 (Int32.ofNat N), (su u (pos + l)).2.2.2.2.2.2.2.2.2.2.2.2.2.1, (su u (pos + l)).2.2.2.2.2.2.2.2.2.2.2.2.2.2) : gU), fun y o z => ?_, ⟨fun j hj => gup_ne (by omega), rfl, rfl, rfl, rfl, rfl, rfl, rfl⟩, Or.inl ⟨((gup x.1 N (((x.1 N).1, (x.1 N).2.1, (x.1 N).2.2.1, v, (x.1 N).2.2.2.2.1, Int32.ofNat l, (x.1 N).2.2.2.2.2.2.1, (x.1 N).2.2.2.2.2.2.2) : gP), gup (gup (gup x.2.1 32 (Int32.ofNat (pos + l))) 35 6) 36 (Int32.ofNat N), x.2.2.1, x.2.2.2.1, x.2.2.2.2.1, x.2.2.2.2.2.1, x.2.2.2.2.2.2.1, x.2.2.2.2.2.2.2.1, x.2.2.2.2.2.2.2.2.1, x.2.2.2.2.2.2.2.2.2.1, x.2.2.2.2.2.2.2.2.2.2.1, x.2.2.2.2.2.2.2.2.2.2.2.1, x.2.2.2.2.2.2.2.2.2.2.2.2.1, x.2.2.2.2.2.2.2.2.2.2.2.2.2.1, x.2.2.2.2.2.2.2.2.2.2.2.2.2.2.1, x.2.2.2.2.2.2.2.2.2.2.2.2.2.2.2) : gX), fun y o z => ?_, N + 1, pos + l, gD_x D2 rfl rfl rfl rfl (fun i a b => ?_) rfl (fun i a b c => ?_) rfl rfl, by omega, ⟨⟨fun j hj => gup_ne (by omega), fun j hj => ?_, rfl, rfl, rfl, rfl⟩, fun _ _ => ⟨rfl, rfl, rfl⟩, fun _ _ => rfl, fun _ _ => ⟨rfl, rfl, rfl⟩⟩, h18, rfl, rfl, ⟨6, by omega, rfl, rfl, fun _ => ⟨N, by omega, by omega, rfl⟩⟩⟩⟩
    · show ((cR_nextWord (some 187) (some 163) (Int32.ofNat l) (gH u y o z)).bind _) = _
      rw [wd, Option.bind_some, ho_T hN, Option.bind_some, k_hold (u := su u (pos + l)) hN, Option.bind_some, k_128]
      rfl
    · show mM_takeBuffer_20 1000000000000000 (some 188) (Int32.ofNat l) (Int32.ofNat N) (Int32.ofNat 0) (gH y x o z) = _
      rw [hG2, v1]
    · show gup (gup (su u (pos + l)).2.2.2.2.2.2.2.2.2.2.2.2.1 2 6) 3 (Int32.ofNat N) i = (su u (pos + l)).2.2.2.2.2.2.2.2.2.2.2.2.1 i
      rw [gup_ne b, gup_ne a]
    · show gup (gup (gup x.2.1 32 (Int32.ofNat (pos + l))) 35 6) 36 (Int32.ofNat N) i = gup x.2.1 32 (Int32.ofNat (pos + l)) i
      rw [gup_ne c, gup_ne b]
    · show gup (gup (gup x.2.1 32 (Int32.ofNat (pos + l))) 35 6) 36 (Int32.ofNat N) j = _
      rw [gup_ne (by omega), gup_ne (by omega), gup_ne (by omega)]
  · obtain ⟨G2, hG2⟩ : ∃ G, 1000000000000000 = G + l + 1 + 1 := ⟨999999999999998 - l, by omega⟩
    obtain ⟨x', h1, h2, h3⟩ := r_bufL0 (k := N) (by omega) hl l 0 G2 _ _ pos (by omega) G O f6 c2
    obtain ⟨S', r', r1, r2⟩ := k_word0 hl G c2
    refine gOb2_bad (u' := ((gup u.1 N (((u.1 N).1, (u.1 N).2.1, (u.1 N).2.2.1, (u.1 N).2.2.2.1, gup (u.1 N).2.2.2.2.1 5 (Int32.ofNat l), gup (u.1 N).2.2.2.2.2 10 S') : gQ), u.2.1, u.2.2.1, u.2.2.2.1, u.2.2.2.2.1, u.2.2.2.2.2.1, u.2.2.2.2.2.2.1, u.2.2.2.2.2.2.2.1, u.2.2.2.2.2.2.2.2.1, u.2.2.2.2.2.2.2.2.2.1, u.2.2.2.2.2.2.2.2.2.2.1, u.2.2.2.2.2.2.2.2.2.2.2.1, gup (gup r' 2 6) 3 (Int32.ofNat N), u.2.2.2.2.2.2.2.2.2.2.2.2.2.1, u.2.2.2.2.2.2.2.2.2.2.2.2.2.2) : gU)) (x' := x') (fun y o z => ?_) (fun y o z => ?_) ⟨fun j hj => gup_ne (by omega), rfl, rfl, rfl, rfl, rfl, rfl, rfl⟩ r1 h1 h2
    · show ((cR_nextWord (some 187) (some 163) (Int32.ofNat l) (gH u y o z)).bind _) = _
      rw [r2, Option.bind_some, ho_T hN, Option.bind_some, k_hold (u := ((u.1, u.2.1, u.2.2.1, u.2.2.2.1, u.2.2.2.2.1, u.2.2.2.2.2.1, u.2.2.2.2.2.2.1, u.2.2.2.2.2.2.2.1, u.2.2.2.2.2.2.2.2.1, u.2.2.2.2.2.2.2.2.2.1, u.2.2.2.2.2.2.2.2.2.2.1, u.2.2.2.2.2.2.2.2.2.2.2.1, r', u.2.2.2.2.2.2.2.2.2.2.2.2.2.1, u.2.2.2.2.2.2.2.2.2.2.2.2.2.2) : gU)) hN, Option.bind_some, k_128]
    · show mM_takeBuffer_20 1000000000000000 (some 188) (Int32.ofNat l) (Int32.ofNat N) (Int32.ofNat 0) (gH y x o z) = _
      rw [hG2, h3]
theorem k_bufTop {D : Nat} (G : gD n0 f q m N pos u x) (hN : N < 32) : ∀ y o z, cR_readObject W (some 187) (some 1) (some 163) 4 (Int32.ofNat (D + 1)) (gH u y o z) = (cR_nextUpTo (some 187) (some 163) 8 (gH (ub u N 4) y o z)).bind fun r4 => (gv_is r4.2 (some 187) 6).bind fun _ => (cR_nextWord (some 187) (some 163) r4.1 r4.2).bind fun r8 => (gv_is r8.2 (some (3 + 5 * N)) 2).bind fun _ => (cT_holdBytes (some (3 + 5 * N)) r8.1 r4.1 r8.2).bind fun h26 => cR_readObject_128 W (some 187) (Int32.ofNat N) h26 := by
  intro y o z
  rw [k_obj (D := D) (t := 4) G hN (fun h => by rw [if_neg (by decide), if_neg (by decide), if_neg (by decide), if_neg (by decide), if_pos rfl]), ho_187, Option.bind_some]
  simp only [cR_readBuffer, ho_187, Option.bind_some, Option.bind_assoc]
/-- a buffer -/
theorem rd_buf {D : Nat} (G : gD n0 f q m N pos u x) (h18 : x.2.1 18 = Int32.ofNat D) : gOb2 n0 f q m D N u x (cR_readObject W (some 187) (some 1) (some 163) 4 (Int32.ofNat (D + 1))) (mM_takeBuffer (some 188)) := by
  have hN := G.hN
  have fN := G.fN
  have nf := G.nf
  obtain ⟨g, hg⟩ : ∃ g, 1000000000000000 = g + 1 := ⟨999999999999999, rfl⟩
  have rB : ∀ (l : Nat) (x1 x2 : gX), l ≤ 8 → (∀ y o z, mM_nextUpTo (some 188) 8 (gH y x o z) = some (Int32.ofNat l, gH y x1 o z)) → (∀ y o z, mM_nextObject (some 188) 4 (gH y x1 o z) = some (31, gH y x2 o z)) → x2.2.1 31 = 0 → gXd N x x2 → ∃ x', (∀ y o z, mM_takeBuffer (some 188) (gH y x o z) = some (gH y x' o z)) ∧ x'.2.1 31 = 0 ∧ gXd N x x' := by
    intro l x1 x2 hl a1 a2 a3 a4
    obtain ⟨x', b1, b2, b3⟩ := r_buf20D (N := N) (k := 31) (l := l) (i := 0) (G := g) (by omega) hl a3
    refine ⟨x', fun y o z => ?_, b1, gXd_trans a4 b2 (Nat.le_refl _)⟩
    rw [mM_takeBuffer, ho_188, Option.bind_some, a1, Option.bind_some, ho_188, Option.bind_some, a2, Option.bind_some, ho_188, Option.bind_some, r_en0 a3, Option.bind_some, hg]
    exact b3 y o z
  by_cases c1 : pos < m ∧ ∃ j, j ≤ 8 ∧ u.2.2.2.2.1 pos = Int32.ofNat j
  · obtain ⟨p, l, hl, el⟩ := c1
    have a2 := r_up (t := 8) G p hl (by omega) el
    have D1 : gD n0 f q m N (pos + 1) (su u (pos + 1)) (sx x (pos + 1)) := gD_s G (by omega)
    have ks : gKs x.2.1 (sx x (pos + 1)).2.1 := fun j hj => gup_ne (by omega)
    by_cases c32 : N < 32
    · have Gb := gD_beg (s := 4) G c32 (by omega) (by omega)
      have Db := gD_beg (s := 4) D1 c32 (by omega) (by omega)
      have a1 := k_up (t := 8) Gb p hl (by omega) el
      have O : gO (N + 1) 4 0 ((ub (su u (pos + 1)) N (Int32.ofNat 4)).1 N) ((xe (xb (sx x (pos + 1)) N (Int32.ofNat 4)) N f).1 N) := by
        show gO (N + 1) 4 0 (gup _ _ _ N) (gup _ _ _ N)
        rw [gup_eq, gup_eq]
        exact gO_new (s := 4) (by omega) (by omega)
      refine gOb2_pre (u0 := ub (su u (pos + 1)) N (Int32.ofNat 4)) (x0 := xe (xb (sx x (pos + 1)) N (Int32.ofNat 4)) N f) (fun y o z => ?_) (fun y o z => ?_) ⟨fun j hj => gup_ne (by omega), rfl, rfl, rfl, rfl, rfl, rfl, rfl⟩ ?_ (rd_bufIn (W := W) Db O (Db.nd N (by omega) (by omega)) c32 (by omega) h18 hl)
      · rw [k_bufTop G c32]
        show ((cR_nextUpTo (some 187) (some 163) (Int32.ofNat 8) (gH (ub u N (Int32.ofNat 4)) y o z)).bind _) = _
        rw [a1, Option.bind_some, ho_187, Option.bind_some]
        rfl
      · rw [mM_takeBuffer, ho_188, Option.bind_some, show (8 : Int32) = Int32.ofNat 8 from rfl, a2, Option.bind_some, ho_188, Option.bind_some, r_no1 D1 c32, Option.bind_some, ho_188, Option.bind_some, r_en (x := xb (sx x (pos + 1)) N 4) (f := f) D1.gg D1.be fN c32, Option.bind_some]
        rfl
      · refine ⟨⟨fun j hj => gup_ne (by omega), fun j hj => ?_, rfl, rfl, rfl, rfl⟩, fun _ _ => ⟨rfl, rfl, rfl⟩, fun _ _ => rfl, fun _ _ => ⟨rfl, rfl, rfl⟩⟩
        show gup (gup (gup x.2.1 32 _) 33 _) 29 _ j = _
        rw [gup_ne (by omega), gup_ne (by omega), gup_ne (by omega)]
    · obtain rfl : N = 32 := by omega
      obtain ⟨x', b1, b2, b3⟩ := rB l _ _ hl a2 (r_no0 D1) rfl ⟨fun _ _ => rfl, fun j hj => (gup_ne (by omega)).trans (ks j (by omega)), rfl, rfl, rfl, rfl⟩
      exact gOb2_bad (k_obj0 G) b1 gUf_r rfl b2 b3
  · obtain ⟨s1, s2, s3, a2⟩ := r_up0 (t := 8) G (by omega) c1
    obtain ⟨x', b1, b2, b3⟩ := rB 0 _ _ (by omega) a2 (r_noD (x := ((x.1, s1, x.2.2.1, x.2.2.2.1, x.2.2.2.2.1, x.2.2.2.2.2.1, x.2.2.2.2.2.2.1, x.2.2.2.2.2.2.2.1, x.2.2.2.2.2.2.2.2.1, x.2.2.2.2.2.2.2.2.2.1, x.2.2.2.2.2.2.2.2.2.2.1, x.2.2.2.2.2.2.2.2.2.2.2.1, x.2.2.2.2.2.2.2.2.2.2.2.2.1, x.2.2.2.2.2.2.2.2.2.2.2.2.2.1, x.2.2.2.2.2.2.2.2.2.2.2.2.2.2.1, x.2.2.2.2.2.2.2.2.2.2.2.2.2.2.2) : gX)) s2) rfl ⟨fun _ _ => rfl, fun j hj => (gup_ne (by omega)).trans (s3 j (by omega)), rfl, rfl, rfl, rfl⟩
    by_cases c32 : N < 32
    · have Gb := gD_beg (s := 4) G c32 (by omega) (by omega)
      obtain ⟨r1, r2, a1⟩ := k_up0 (t := 8) Gb (by omega) c1
      obtain ⟨S', w1⟩ := k_wordD (u := (((ub u N (Int32.ofNat 4)).1, (ub u N (Int32.ofNat 4)).2.1, (ub u N (Int32.ofNat 4)).2.2.1, (ub u N (Int32.ofNat 4)).2.2.2.1, (ub u N (Int32.ofNat 4)).2.2.2.2.1, (ub u N (Int32.ofNat 4)).2.2.2.2.2.1, (ub u N (Int32.ofNat 4)).2.2.2.2.2.2.1, (ub u N (Int32.ofNat 4)).2.2.2.2.2.2.2.1, (ub u N (Int32.ofNat 4)).2.2.2.2.2.2.2.2.1, (ub u N (Int32.ofNat 4)).2.2.2.2.2.2.2.2.2.1, (ub u N (Int32.ofNat 4)).2.2.2.2.2.2.2.2.2.2.1, (ub u N (Int32.ofNat 4)).2.2.2.2.2.2.2.2.2.2.2.1, r1, (ub u N (Int32.ofNat 4)).2.2.2.2.2.2.2.2.2.2.2.2.2.1, (ub u N (Int32.ofNat 4)).2.2.2.2.2.2.2.2.2.2.2.2.2.2) : gU)) (l := 0) (by omega) r2
      refine gOb2_bad (u' := ((gup (ub u N (Int32.ofNat 4)).1 N ((((ub u N (Int32.ofNat 4)).1 N).1, ((ub u N (Int32.ofNat 4)).1 N).2.1, ((ub u N (Int32.ofNat 4)).1 N).2.2.1, ((ub u N (Int32.ofNat 4)).1 N).2.2.2.1, gup ((ub u N (Int32.ofNat 4)).1 N).2.2.2.2.1 5 0, gup ((ub u N (Int32.ofNat 4)).1 N).2.2.2.2.2 10 S') : gQ), (ub u N (Int32.ofNat 4)).2.1, (ub u N (Int32.ofNat 4)).2.2.1, (ub u N (Int32.ofNat 4)).2.2.2.1, (ub u N (Int32.ofNat 4)).2.2.2.2.1, (ub u N (Int32.ofNat 4)).2.2.2.2.2.1, (ub u N (Int32.ofNat 4)).2.2.2.2.2.2.1, (ub u N (Int32.ofNat 4)).2.2.2.2.2.2.2.1, (ub u N (Int32.ofNat 4)).2.2.2.2.2.2.2.2.1, (ub u N (Int32.ofNat 4)).2.2.2.2.2.2.2.2.2.1, (ub u N (Int32.ofNat 4)).2.2.2.2.2.2.2.2.2.2.1, (ub u N (Int32.ofNat 4)).2.2.2.2.2.2.2.2.2.2.2.1, gup (gup r1 2 6) 3 (Int32.ofNat N), (ub u N (Int32.ofNat 4)).2.2.2.2.2.2.2.2.2.2.2.2.2.1, (ub u N (Int32.ofNat 4)).2.2.2.2.2.2.2.2.2.2.2.2.2.2) : gU)) (fun y o z => ?_) b1 ⟨fun j hj => (gup_ne (by omega)).trans (gup_ne (by omega)), rfl, rfl, rfl, rfl, rfl, rfl, rfl⟩ r2 b2 b3
      rw [k_bufTop G c32]
      show ((cR_nextUpTo (some 187) (some 163) (Int32.ofNat 8) (gH (ub u N (Int32.ofNat 4)) y o z)).bind _) = _
      rw [a1, Option.bind_some, ho_187, Option.bind_some]
      show ((cR_nextWord (some 187) (some 163) (Int32.ofNat 0) (gH (((ub u N (Int32.ofNat 4)).1, (ub u N (Int32.ofNat 4)).2.1, (ub u N (Int32.ofNat 4)).2.2.1, (ub u N (Int32.ofNat 4)).2.2.2.1, (ub u N (Int32.ofNat 4)).2.2.2.2.1, (ub u N (Int32.ofNat 4)).2.2.2.2.2.1, (ub u N (Int32.ofNat 4)).2.2.2.2.2.2.1, (ub u N (Int32.ofNat 4)).2.2.2.2.2.2.2.1, (ub u N (Int32.ofNat 4)).2.2.2.2.2.2.2.2.1, (ub u N (Int32.ofNat 4)).2.2.2.2.2.2.2.2.2.1, (ub u N (Int32.ofNat 4)).2.2.2.2.2.2.2.2.2.2.1, (ub u N (Int32.ofNat 4)).2.2.2.2.2.2.2.2.2.2.2.1, r1, (ub u N (Int32.ofNat 4)).2.2.2.2.2.2.2.2.2.2.2.2.2.1, (ub u N (Int32.ofNat 4)).2.2.2.2.2.2.2.2.2.2.2.2.2.2) : gU) y o z)).bind _) = _
      rw [w1, Option.bind_some, ho_T c32, Option.bind_some, k_hold (u := (((ub u N (Int32.ofNat 4)).1, (ub u N (Int32.ofNat 4)).2.1, (ub u N (Int32.ofNat 4)).2.2.1, (ub u N (Int32.ofNat 4)).2.2.2.1, (ub u N (Int32.ofNat 4)).2.2.2.2.1, (ub u N (Int32.ofNat 4)).2.2.2.2.2.1, (ub u N (Int32.ofNat 4)).2.2.2.2.2.2.1, (ub u N (Int32.ofNat 4)).2.2.2.2.2.2.2.1, (ub u N (Int32.ofNat 4)).2.2.2.2.2.2.2.2.1, (ub u N (Int32.ofNat 4)).2.2.2.2.2.2.2.2.2.1, (ub u N (Int32.ofNat 4)).2.2.2.2.2.2.2.2.2.2.1, (ub u N (Int32.ofNat 4)).2.2.2.2.2.2.2.2.2.2.2.1, r1, (ub u N (Int32.ofNat 4)).2.2.2.2.2.2.2.2.2.2.2.2.2.1, (ub u N (Int32.ofNat 4)).2.2.2.2.2.2.2.2.2.2.2.2.2.2) : gU)) c32, Option.bind_some, k_128]
    · obtain rfl : N = 32 := by omega
      exact gOb2_bad (k_obj0 G) b1 gUf_r rfl b2 b3
/-- a stamp -/
theorem rd_stamp {D : Nat} (G : gD n0 f q m N pos u x) (h18 : x.2.1 18 = Int32.ofNat D) : gOb2 n0 f q m D N u x (cR_readObject W (some 187) (some 1) (some 163) 6 (Int32.ofNat (D + 1))) (mM_takeStamp (some 188)) := by
  have hN := G.hN
  have fN := G.fN
  have nf := G.nf
  by_cases c32 : N < 32
  · have Db := gD_beg (s := 6) G c32 (by omega) (by omega)
    have O : gO (N + 1) 6 0 ((ub u N (Int32.ofNat 6)).1 N) ((xe (xb x N (Int32.ofNat 6)) N f).1 N) := by
      show gO (N + 1) 6 0 (gup _ _ _ N) (gup _ _ _ N)
      rw [gup_eq, gup_eq]
      exact gO_new (s := 6) (by omega) (by omega)
    have f6 : ((ub u N (Int32.ofNat 6)).1 N).2.2.2.2.1 6 = 0 := Db.nd N (by omega) (by omega)
    have cl : ∀ y o z, cR_readObject W (some 187) (some 1) (some 163) 6 (Int32.ofNat (D + 1)) (gH u y o z) = (cR_nextZigzag (some 187) (some 163) (gH (ub u N (Int32.ofNat 6)) y o z)).bind fun r30 => (gv_pV r30.2 (some (3 + 5 * N)) 2 10 (.long r30.1)).bind fun h31 => cR_readObject_128 W (some 187) (Int32.ofNat N) h31 := by
      intro y o z
      rw [k_obj (D := D) (t := 6) G c32 (fun h => by rw [if_neg (by decide), if_neg (by decide), if_neg (by decide), if_neg (by decide), if_neg (by decide)]), ho_187, Option.bind_some]
      rfl
    have rf : ∀ y o z, mM_takeStamp (some 188) (gH y x o z) = (mM_lengthy (some 188) 64 (gH y (xe (xb x N (Int32.ofNat 6)) N f) o z)).bind fun r11 => (mM_plain r11.1).bind fun v12 => (gv_gI r11.2 (some 188) 7 31).bind fun v13 => if v13 = 0 then mM_takeStamp_36 (some 188) (Int32.ofNat N) r11.2 else (gv_gR r11.2 (some 188) 7 5).bind fun v15 => (gv_wJ r11.2 v15 (Int32.ofNat N) v12).bind fun h16 => mM_takeStamp_36 (some 188) (Int32.ofNat N) h16 := by
      intro y o z
      rw [mM_takeStamp, ho_188, Option.bind_some, r_no1 G c32, Option.bind_some, ho_188, Option.bind_some, r_en (x := xb x N 6) (f := f) G.gg G.be fN c32, Option.bind_some, ho_188, Option.bind_some]
      rfl
    have tb : gXf N D x (xe (xb x N (Int32.ofNat 6)) N f) := by
      refine ⟨⟨fun j hj => gup_ne (by omega), fun j hj => ?_, rfl, rfl, rfl, rfl⟩, fun _ _ => ⟨rfl, rfl, rfl⟩, fun _ _ => rfl, fun _ _ => ⟨rfl, rfl, rfl⟩⟩
      show gup (gup x.2.1 33 _) 29 _ j = _
      rw [gup_ne (by omega), gup_ne (by omega)]
    have fb : gUf N u (ub u N (Int32.ofNat 6)) := ⟨fun j hj => gup_ne (by omega), rfl, rfl, rfl, rfl, rfl, rfl, rfl⟩
    have hb18 : (xe (xb x N (Int32.ofNat 6)) N f).2.1 18 = Int32.ofNat D := h18
    generalize ub u N (Int32.ofNat 6) = u1 at Db O f6 cl fb
    generalize xe (xb x N (Int32.ofNat 6)) N f = x1 at Db O rf tb hb18
    rcases d_zig Db with ⟨a, b, r, s, pos', k1, k2, rfl, k4, k5, k6, k7⟩ | ⟨a, b, r, s, k1, k2, k3, k4, k5⟩
    · have D2 : gD n0 f q m (N + 1) pos' ((gup u1.1 N (((u1.1 N).1, (u1.1 N).2.1, (u1.1 N).2.2.1, (u1.1 N).2.2.2.1, (u1.1 N).2.2.2.2.1, gup (u1.1 N).2.2.2.2.2 10 (gzz b)) : gQ), u1.2.1, u1.2.2.1, u1.2.2.2.1, u1.2.2.2.2.1, u1.2.2.2.2.2.1, u1.2.2.2.2.2.2.1, u1.2.2.2.2.2.2.2.1, u1.2.2.2.2.2.2.2.2.1, u1.2.2.2.2.2.2.2.2.2.1, u1.2.2.2.2.2.2.2.2.2.2.1, u1.2.2.2.2.2.2.2.2.2.2.2.1, r, u1.2.2.2.2.2.2.2.2.2.2.2.2.2.1, u1.2.2.2.2.2.2.2.2.2.2.2.2.2.2) : gU) ((gup x1.1 N (((x1.1 N).1, (x1.1 N).2.1, (x1.1 N).2.2.1, (x1.1 N).2.2.2.1, (x1.1 N).2.2.2.2.1, (x1.1 N).2.2.2.2.2.1, (x1.1 N).2.2.2.2.2.2.1, gzz b) : gP), s, x1.2.2.1, x1.2.2.2.1, x1.2.2.2.2.1, x1.2.2.2.2.2.1, x1.2.2.2.2.2.2.1, x1.2.2.2.2.2.2.2.1, x1.2.2.2.2.2.2.2.2.1, x1.2.2.2.2.2.2.2.2.2.1, x1.2.2.2.2.2.2.2.2.2.2.1, x1.2.2.2.2.2.2.2.2.2.2.2.1, x1.2.2.2.2.2.2.2.2.2.2.2.2.1, x1.2.2.2.2.2.2.2.2.2.2.2.2.2.1, x1.2.2.2.2.2.2.2.2.2.2.2.2.2.2.1, x1.2.2.2.2.2.2.2.2.2.2.2.2.2.2.2) : gX) := gD_ob (k := N) k4 ⟨6, 0, gO_stp O⟩ f6
      refine ⟨((gup u1.1 N (((u1.1 N).1, (u1.1 N).2.1, (u1.1 N).2.2.1, (u1.1 N).2.2.2.1, (u1.1 N).2.2.2.2.1, gup (u1.1 N).2.2.2.2.2 10 (gzz b)) : gQ), u1.2.1, u1.2.2.1, u1.2.2.2.1, u1.2.2.2.2.1, u1.2.2.2.2.2.1, u1.2.2.2.2.2.2.1, u1.2.2.2.2.2.2.2.1, u1.2.2.2.2.2.2.2.2.1, u1.2.2.2.2.2.2.2.2.2.1, u1.2.2.2.2.2.2.2.2.2.2.1, u1.2.2.2.2.2.2.2.2.2.2.2.1, gup (gup r 2 6) 3 (Int32.ofNat N), u1.2.2.2.2.2.2.2.2.2.2.2.2.2.1, u1.2.2.2.2.2.2.2.2.2.2.2.2.2.2) : gU), fun y o z => ?_, gUf_trans fb ⟨fun j hj => gup_ne (by omega), rfl, rfl, rfl, rfl, rfl, rfl, rfl⟩ (Nat.le_refl N), Or.inl ⟨((gup x1.1 N (((x1.1 N).1, (x1.1 N).2.1, (x1.1 N).2.2.1, (x1.1 N).2.2.2.1, (x1.1 N).2.2.2.2.1, (x1.1 N).2.2.2.2.2.1, (x1.1 N).2.2.2.2.2.2.1, gzz b) : gP), gup (gup s 35 6) 36 (Int32.ofNat N), x1.2.2.1, x1.2.2.2.1, x1.2.2.2.2.1, x1.2.2.2.2.2.1, x1.2.2.2.2.2.2.1, x1.2.2.2.2.2.2.2.1, x1.2.2.2.2.2.2.2.2.1, x1.2.2.2.2.2.2.2.2.2.1, x1.2.2.2.2.2.2.2.2.2.2.1, x1.2.2.2.2.2.2.2.2.2.2.2.1, x1.2.2.2.2.2.2.2.2.2.2.2.2.1, x1.2.2.2.2.2.2.2.2.2.2.2.2.2.1, x1.2.2.2.2.2.2.2.2.2.2.2.2.2.2.1, x1.2.2.2.2.2.2.2.2.2.2.2.2.2.2.2) : gX), fun y o z => ?_, N + 1, pos', gD_x D2 rfl rfl rfl rfl (fun i a b => ?_) rfl (fun i a b c => ?_) rfl rfl, by omega, gXf_trans tb ⟨⟨fun j hj => gup_ne (by omega), fun j hj => ?_, rfl, rfl, rfl, rfl⟩, fun _ _ => ⟨rfl, rfl, rfl⟩, fun _ _ => rfl, fun _ _ => ⟨rfl, rfl, rfl⟩⟩ (Nat.le_refl N) (Nat.le_refl D), (k5 18 (by omega)).trans hb18, rfl, rfl, ⟨6, by omega, rfl, rfl, fun _ => ⟨N, by omega, by omega, rfl⟩⟩⟩⟩
      · rw [cl, k1, Option.bind_some, hqT_10 c32, Option.bind_some, k_128]
      · rw [rf, k2, Option.bind_some, m_plain, Option.bind_some, hi_188_31, Option.bind_some, if_neg (show ¬ s 31 = 0 by rw [show s 31 = 1 from k4.gg]; exact i_10), hr_188_5, Option.bind_some, hb_192 c32, Option.bind_some, mM_takeStamp_36, ho_188, Option.bind_some, r_got, Option.bind_some]
      · show gup (gup r 2 6) 3 (Int32.ofNat N) i = r i
        rw [gup_ne b, gup_ne a]
      · show gup (gup s 35 6) 36 (Int32.ofNat N) i = s i
        rw [gup_ne c, gup_ne b]
      · show gup (gup s 35 6) 36 (Int32.ofNat N) j = _
        rw [gup_ne (by omega), gup_ne (by omega)]
        exact k5 j (by omega)
    · refine gOb2_bad (u' := ((gup u1.1 N (((u1.1 N).1, (u1.1 N).2.1, (u1.1 N).2.2.1, (u1.1 N).2.2.2.1, (u1.1 N).2.2.2.2.1, gup (u1.1 N).2.2.2.2.2 10 a) : gQ), u1.2.1, u1.2.2.1, u1.2.2.2.1, u1.2.2.2.2.1, u1.2.2.2.2.2.1, u1.2.2.2.2.2.2.1, u1.2.2.2.2.2.2.2.1, u1.2.2.2.2.2.2.2.2.1, u1.2.2.2.2.2.2.2.2.2.1, u1.2.2.2.2.2.2.2.2.2.2.1, u1.2.2.2.2.2.2.2.2.2.2.2.1, gup (gup r 2 6) 3 (Int32.ofNat N), u1.2.2.2.2.2.2.2.2.2.2.2.2.2.1, u1.2.2.2.2.2.2.2.2.2.2.2.2.2.2) : gU)) (x' := ((x1.1, gup (gup s 35 6) 36 (Int32.ofNat N), x1.2.2.1, x1.2.2.2.1, x1.2.2.2.2.1, x1.2.2.2.2.2.1, x1.2.2.2.2.2.2.1, x1.2.2.2.2.2.2.2.1, x1.2.2.2.2.2.2.2.2.1, x1.2.2.2.2.2.2.2.2.2.1, x1.2.2.2.2.2.2.2.2.2.2.1, x1.2.2.2.2.2.2.2.2.2.2.2.1, x1.2.2.2.2.2.2.2.2.2.2.2.2.1, x1.2.2.2.2.2.2.2.2.2.2.2.2.2.1, x1.2.2.2.2.2.2.2.2.2.2.2.2.2.2.1, x1.2.2.2.2.2.2.2.2.2.2.2.2.2.2.2) : gX)) (fun y o z => ?_) (fun y o z => ?_) (gUf_trans fb ⟨fun j hj => gup_ne (by omega), rfl, rfl, rfl, rfl, rfl, rfl, rfl⟩ (Nat.le_refl N)) k3 k4 (gXd_trans tb.fd ⟨fun _ _ => rfl, fun j hj => ?_, rfl, rfl, rfl, rfl⟩ (Nat.le_refl N))
      · rw [cl, k1, Option.bind_some, hqT_10 c32, Option.bind_some, k_128]
      · rw [rf, k2, Option.bind_some, m_plain, Option.bind_some, hi_188_31, Option.bind_some, if_pos (show s 31 = 0 from k4), mM_takeStamp_36, ho_188, Option.bind_some, r_got, Option.bind_some]
      · show gup (gup s 35 6) 36 (Int32.ofNat N) j = _
        rw [gup_ne (by omega), gup_ne (by omega)]
        exact k5 j (by omega)
  · obtain rfl : N = 32 := by omega
    obtain ⟨g, hg⟩ : ∃ g, 1000000000000000 = g + 1 := ⟨999999999999999, rfl⟩
    have e31 : gup x.2.1 31 0 31 = 0 := rfl
    refine gOb2_bad (x' := ((x.1, gup (gup (gup x.2.1 31 0) 35 6) 36 31, x.2.2.1, x.2.2.2.1, x.2.2.2.2.1, x.2.2.2.2.2.1, x.2.2.2.2.2.2.1, x.2.2.2.2.2.2.2.1, x.2.2.2.2.2.2.2.2.1, x.2.2.2.2.2.2.2.2.2.1, x.2.2.2.2.2.2.2.2.2.2.1, x.2.2.2.2.2.2.2.2.2.2.2.1, x.2.2.2.2.2.2.2.2.2.2.2.2.1, x.2.2.2.2.2.2.2.2.2.2.2.2.2.1, x.2.2.2.2.2.2.2.2.2.2.2.2.2.2.1, x.2.2.2.2.2.2.2.2.2.2.2.2.2.2.2) : gX)) (k_obj0 G) (fun y o z => ?_) gUf_r rfl rfl ⟨fun _ _ => rfl, fun j hj => ?_, rfl, rfl, rfl, rfl⟩
    · rw [mM_takeStamp, ho_188, Option.bind_some, r_no0 G, Option.bind_some, ho_188, Option.bind_some, r_en0 (x := ((x.1, gup x.2.1 31 0, x.2.2.1, x.2.2.2.1, x.2.2.2.2.1, x.2.2.2.2.2.1, x.2.2.2.2.2.2.1, x.2.2.2.2.2.2.2.1, x.2.2.2.2.2.2.2.2.1, x.2.2.2.2.2.2.2.2.2.1, x.2.2.2.2.2.2.2.2.2.2.1, x.2.2.2.2.2.2.2.2.2.2.2.1, x.2.2.2.2.2.2.2.2.2.2.2.2.1, x.2.2.2.2.2.2.2.2.2.2.2.2.2.1, x.2.2.2.2.2.2.2.2.2.2.2.2.2.2.1, x.2.2.2.2.2.2.2.2.2.2.2.2.2.2.2) : gX)) rfl, Option.bind_some, ho_188, Option.bind_some, mM_lengthy, hg, r_lstop (x := ((x.1, gup x.2.1 31 0, x.2.2.1, x.2.2.2.1, x.2.2.2.2.1, x.2.2.2.2.2.1, x.2.2.2.2.2.2.1, x.2.2.2.2.2.2.2.1, x.2.2.2.2.2.2.2.2.1, x.2.2.2.2.2.2.2.2.2.1, x.2.2.2.2.2.2.2.2.2.2.1, x.2.2.2.2.2.2.2.2.2.2.2.1, x.2.2.2.2.2.2.2.2.2.2.2.2.1, x.2.2.2.2.2.2.2.2.2.2.2.2.2.1, x.2.2.2.2.2.2.2.2.2.2.2.2.2.2.1, x.2.2.2.2.2.2.2.2.2.2.2.2.2.2.2) : gX)) rfl, Option.bind_some, m_plain, Option.bind_some, hi_188_31, Option.bind_some, if_pos (show gup x.2.1 31 0 31 = 0 from e31), mM_takeStamp_36, ho_188, Option.bind_some, r_got, Option.bind_some]
    · show gup (gup (gup x.2.1 31 0) 35 6) 36 31 j = _
      rw [gup_ne (by omega), gup_ne (by omega), gup_ne (by omega)]
end H
