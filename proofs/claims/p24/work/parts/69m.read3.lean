section
/-! read: the objects that hold others are begun -/
section H
variable {n0 f q m N pos : Nat} {u : gU} {x : gX} {W : gWr}
def xp (x : gX) (D : Nat) (a b : Int32) : gX := ((x.1, gup x.2.1 18 (Int32.ofNat (D + 1)), x.2.2.1, x.2.2.2.1, x.2.2.2.2.1, x.2.2.2.2.2.1, gup x.2.2.2.2.2.2.1 D a, gup x.2.2.2.2.2.2.2.1 D 0, gup x.2.2.2.2.2.2.2.2.1 D b, x.2.2.2.2.2.2.2.2.2.1, x.2.2.2.2.2.2.2.2.2.2.1, x.2.2.2.2.2.2.2.2.2.2.2.1, x.2.2.2.2.2.2.2.2.2.2.2.2.1, x.2.2.2.2.2.2.2.2.2.2.2.2.2.1, x.2.2.2.2.2.2.2.2.2.2.2.2.2.2.1, x.2.2.2.2.2.2.2.2.2.2.2.2.2.2.2) : gX)
theorem gXf_p {D : Nat} {a b : Int32} : gXf N D x (xp x D a b) :=
  ⟨⟨fun _ _ => rfl, fun j hj => gup_ne (by omega), rfl, rfl, rfl, rfl⟩, fun j hj => ⟨gup_ne (by omega), gup_ne (by omega), gup_ne (by omega)⟩, fun _ _ => rfl, fun _ _ => ⟨rfl, rfl, rfl⟩⟩
theorem gD_p {D : Nat} {a b : Int32} (G : gD n0 f q m N pos u x) : gD n0 f q m N pos u (xp x D a b) := gD_x G rfl rfl rfl rfl (fun _ _ _ => rfl) rfl (fun i a _ _ => gup_ne a) rfl rfl
theorem gPi_p {D k c : Nat} : gPi D k 0 c (xp x D (Int32.ofNat k) (Int32.ofNat c)) := by
  refine ⟨?_, ?_, ?_, ?_⟩
  · show gup x.2.1 18 (Int32.ofNat (D + 1)) 18 = _
    exact gup_eq
  · show gup x.2.2.2.2.2.2.1 D (Int32.ofNat k) D = _
    exact gup_eq
  · show gup x.2.2.2.2.2.2.2.1 D 0 D = _
    exact gup_eq
  · show gup x.2.2.2.2.2.2.2.2.1 D (Int32.ofNat c) D = _
    exact gup_eq
theorem r_43 {D k : Nat} {l v : Int32} (hg : x.2.1 31 = 1) (h18 : x.2.1 18 = Int32.ofNat D) (hD : D < 14) : ∀ y o z, mM_takeMany_43 (some 188) l (Int32.ofNat k) v (gH y x o z) = some (gH y (xp x D (Int32.ofNat k) (if l = 2 then 2 * v else v)) o z) := by
  intro y o z
  rw [mM_takeMany_43, hi_188_31, Option.bind_some, if_neg (show ¬ x.2.1 31 = 0 by rw [hg]; exact i_10)]
  by_cases c : l = 2
  · rw [if_pos c, if_pos c, mM_takeMany_65, ho_188, Option.bind_some, r_pushR h18 hD, Option.bind_some]
    rfl
  · rw [if_neg c, if_neg c, mM_takeMany_65, ho_188, Option.bind_some, r_pushR h18 hD, Option.bind_some]
    rfl
theorem r_43d {k l v : Int32} (hg : x.2.1 31 = 0) : ∀ y o z, mM_takeMany_43 (some 188) l k v (gH y x o z) = some (gH y x o z) := by
  intro y o z
  rw [mM_takeMany_43, hi_188_31, Option.bind_some, if_pos hg]
theorem r_upD {t : Int32} (h : x.2.1 31 = 0) : ∃ s, s 31 = 0 ∧ gKs x.2.1 s ∧ ∀ y o z, mM_nextUpTo (some 188) t (gH y x o z) = some (0, gH y ((x.1, s, x.2.2.1, x.2.2.2.1, x.2.2.2.2.1, x.2.2.2.2.2.1, x.2.2.2.2.2.2.1, x.2.2.2.2.2.2.2.1, x.2.2.2.2.2.2.2.2.1, x.2.2.2.2.2.2.2.2.2.1, x.2.2.2.2.2.2.2.2.2.2.1, x.2.2.2.2.2.2.2.2.2.2.2.1, x.2.2.2.2.2.2.2.2.2.2.2.2.1, x.2.2.2.2.2.2.2.2.2.2.2.2.2.1, x.2.2.2.2.2.2.2.2.2.2.2.2.2.2.1, x.2.2.2.2.2.2.2.2.2.2.2.2.2.2.2) : gX) o z) := by
  obtain ⟨s, s1, s2, s3⟩ := r_nxDead h
  have e31 : gup s 31 0 31 = 0 := rfl
  refine ⟨gup s 31 0, rfl, fun i hi => (gup_ne (by omega)).trans (s2 i hi), fun y o z => ?_⟩
  rw [mM_nextUpTo, ho_188, Option.bind_some, s3, Option.bind_some, hi_188_31, Option.bind_some, if_pos (show s 31 = 0 from s1), mM_nextUpTo_22, mM_nextUpTo_23, if_neg (by decide), hp_188_31, Option.bind_some, hi_188_31, Option.bind_some, if_pos (show gup s 31 0 31 = 0 from e31)]
/-- how many, at most -/
def gmx (t : Nat) : Nat := if t = 1 then 8 else if t = 2 then 4 else 5
theorem r_manyTop {t : Nat} (ht : t < 4) (G : gD n0 f q m N pos u x) (hN : N < 32) : ∀ y o z, mM_takeMany (some 188) (Int32.ofNat t) (gH y x o z) = if t = 0 then mM_takeMany_43 (some 188) (Int32.ofNat t) (Int32.ofNat N) 0 (gH y (xe (xb x N (Int32.ofNat t)) N f) o z) else (mM_nextUpTo (some 188) (Int32.ofNat (gmx t)) (gH y (xe (xb x N (Int32.ofNat t)) N f) o z)).bind fun r4 => mM_takeMany_43 (some 188) (Int32.ofNat t) (Int32.ofNat N) r4.1 r4.2 := by
  intro y o z
  rw [mM_takeMany, ho_188, Option.bind_some, r_no1 G hN, Option.bind_some, ho_188, Option.bind_some, r_en (x := xb x N (Int32.ofNat t)) (f := f) G.gg G.be G.fN hN, Option.bind_some]
  obtain rfl | rfl | rfl | rfl : t = 0 ∨ t = 1 ∨ t = 2 ∨ t = 3 := by omega
  · rw [if_pos (show Int32.ofNat 0 = 0 by decide), if_pos rfl]
  · rw [if_neg (show ¬ Int32.ofNat 1 = 0 by decide), if_pos (show Int32.ofNat 1 = 1 by decide), if_neg (by omega), mM_takeMany_40, ho_188, Option.bind_some]
    rfl
  · rw [if_neg (show ¬ Int32.ofNat 2 = 0 by decide), if_neg (show ¬ Int32.ofNat 2 = 1 by decide), if_pos (show Int32.ofNat 2 = 2 by decide), if_neg (by omega), mM_takeMany_40, ho_188, Option.bind_some]
    rfl
  · rw [if_neg (show ¬ Int32.ofNat 3 = 0 by decide), if_neg (show ¬ Int32.ofNat 3 = 1 by decide), if_neg (show ¬ Int32.ofNat 3 = 2 by decide), if_neg (by omega), mM_takeMany_40, ho_188, Option.bind_some]
    rfl
theorem r_many32 {t : Nat} (ht : t < 4) (G : gD n0 f q m 32 pos u x) : ∃ x', x'.2.1 31 = 0 ∧ gXd 32 x x' ∧ ∀ y o z, mM_takeMany (some 188) (Int32.ofNat t) (gH y x o z) = some (gH y x' o z) := by
  have e31 : (((x.1, gup x.2.1 31 0, x.2.2.1, x.2.2.2.1, x.2.2.2.2.1, x.2.2.2.2.2.1, x.2.2.2.2.2.2.1, x.2.2.2.2.2.2.2.1, x.2.2.2.2.2.2.2.2.1, x.2.2.2.2.2.2.2.2.2.1, x.2.2.2.2.2.2.2.2.2.2.1, x.2.2.2.2.2.2.2.2.2.2.2.1, x.2.2.2.2.2.2.2.2.2.2.2.2.1, x.2.2.2.2.2.2.2.2.2.2.2.2.2.1, x.2.2.2.2.2.2.2.2.2.2.2.2.2.2.1, x.2.2.2.2.2.2.2.2.2.2.2.2.2.2.2) : gX) : gX).2.1 31 = 0 := rfl
  have d0 : gXd 32 x ((x.1, gup x.2.1 31 0, x.2.2.1, x.2.2.2.1, x.2.2.2.2.1, x.2.2.2.2.2.1, x.2.2.2.2.2.2.1, x.2.2.2.2.2.2.2.1, x.2.2.2.2.2.2.2.2.1, x.2.2.2.2.2.2.2.2.2.1, x.2.2.2.2.2.2.2.2.2.2.1, x.2.2.2.2.2.2.2.2.2.2.2.1, x.2.2.2.2.2.2.2.2.2.2.2.2.1, x.2.2.2.2.2.2.2.2.2.2.2.2.2.1, x.2.2.2.2.2.2.2.2.2.2.2.2.2.2.1, x.2.2.2.2.2.2.2.2.2.2.2.2.2.2.2) : gX) := ⟨fun _ _ => rfl, fun j hj => gup_ne (by omega), rfl, rfl, rfl, rfl⟩
  have top : ∀ y o z, mM_takeMany (some 188) (Int32.ofNat t) (gH y x o z) = if t = 0 then mM_takeMany_43 (some 188) (Int32.ofNat t) 31 0 (gH y ((x.1, gup x.2.1 31 0, x.2.2.1, x.2.2.2.1, x.2.2.2.2.1, x.2.2.2.2.2.1, x.2.2.2.2.2.2.1, x.2.2.2.2.2.2.2.1, x.2.2.2.2.2.2.2.2.1, x.2.2.2.2.2.2.2.2.2.1, x.2.2.2.2.2.2.2.2.2.2.1, x.2.2.2.2.2.2.2.2.2.2.2.1, x.2.2.2.2.2.2.2.2.2.2.2.2.1, x.2.2.2.2.2.2.2.2.2.2.2.2.2.1, x.2.2.2.2.2.2.2.2.2.2.2.2.2.2.1, x.2.2.2.2.2.2.2.2.2.2.2.2.2.2.2) : gX) o z) else (mM_nextUpTo (some 188) (Int32.ofNat (gmx t)) (gH y ((x.1, gup x.2.1 31 0, x.2.2.1, x.2.2.2.1, x.2.2.2.2.1, x.2.2.2.2.2.1, x.2.2.2.2.2.2.1, x.2.2.2.2.2.2.2.1, x.2.2.2.2.2.2.2.2.1, x.2.2.2.2.2.2.2.2.2.1, x.2.2.2.2.2.2.2.2.2.2.1, x.2.2.2.2.2.2.2.2.2.2.2.1, x.2.2.2.2.2.2.2.2.2.2.2.2.1, x.2.2.2.2.2.2.2.2.2.2.2.2.2.1, x.2.2.2.2.2.2.2.2.2.2.2.2.2.2.1, x.2.2.2.2.2.2.2.2.2.2.2.2.2.2.2) : gX) o z)).bind fun r4 => mM_takeMany_43 (some 188) (Int32.ofNat t) 31 r4.1 r4.2 := by
    intro y o z
    rw [mM_takeMany, ho_188, Option.bind_some, r_no0 G, Option.bind_some, ho_188, Option.bind_some, r_en0 (x := ((x.1, gup x.2.1 31 0, x.2.2.1, x.2.2.2.1, x.2.2.2.2.1, x.2.2.2.2.2.1, x.2.2.2.2.2.2.1, x.2.2.2.2.2.2.2.1, x.2.2.2.2.2.2.2.2.1, x.2.2.2.2.2.2.2.2.2.1, x.2.2.2.2.2.2.2.2.2.2.1, x.2.2.2.2.2.2.2.2.2.2.2.1, x.2.2.2.2.2.2.2.2.2.2.2.2.1, x.2.2.2.2.2.2.2.2.2.2.2.2.2.1, x.2.2.2.2.2.2.2.2.2.2.2.2.2.2.1, x.2.2.2.2.2.2.2.2.2.2.2.2.2.2.2) : gX)) e31, Option.bind_some]
    obtain rfl | rfl | rfl | rfl : t = 0 ∨ t = 1 ∨ t = 2 ∨ t = 3 := by omega
    · rw [if_pos (show Int32.ofNat 0 = 0 by decide), if_pos rfl]
    · rw [if_neg (show ¬ Int32.ofNat 1 = 0 by decide), if_pos (show Int32.ofNat 1 = 1 by decide), if_neg (by omega), mM_takeMany_40, ho_188, Option.bind_some]
      rfl
    · rw [if_neg (show ¬ Int32.ofNat 2 = 0 by decide), if_neg (show ¬ Int32.ofNat 2 = 1 by decide), if_pos (show Int32.ofNat 2 = 2 by decide), if_neg (by omega), mM_takeMany_40, ho_188, Option.bind_some]
      rfl
    · rw [if_neg (show ¬ Int32.ofNat 3 = 0 by decide), if_neg (show ¬ Int32.ofNat 3 = 1 by decide), if_neg (show ¬ Int32.ofNat 3 = 2 by decide), if_neg (by omega), mM_takeMany_40, ho_188, Option.bind_some]
      rfl
  by_cases c : t = 0
  · refine ⟨_, e31, d0, fun y o z => ?_⟩
    rw [top, if_pos c, r_43d e31]
  · obtain ⟨s, s1, s2, s3⟩ := r_upD (t := Int32.ofNat (gmx t)) e31
    refine ⟨((x.1, s, x.2.2.1, x.2.2.2.1, x.2.2.2.2.1, x.2.2.2.2.2.1, x.2.2.2.2.2.2.1, x.2.2.2.2.2.2.2.1, x.2.2.2.2.2.2.2.2.1, x.2.2.2.2.2.2.2.2.2.1, x.2.2.2.2.2.2.2.2.2.2.1, x.2.2.2.2.2.2.2.2.2.2.2.1, x.2.2.2.2.2.2.2.2.2.2.2.2.1, x.2.2.2.2.2.2.2.2.2.2.2.2.2.1, x.2.2.2.2.2.2.2.2.2.2.2.2.2.2.1, x.2.2.2.2.2.2.2.2.2.2.2.2.2.2.2) : gX), s1, gXd_trans d0 ⟨fun _ _ => rfl, fun j hj => s2 j (by omega), rfl, rfl, rfl, rfl⟩ (Nat.le_refl _), fun y o z => ?_⟩
    rw [top, if_neg c, s3, Option.bind_some, r_43d (x := ((x.1, s, x.2.2.1, x.2.2.2.1, x.2.2.2.2.1, x.2.2.2.2.2.1, x.2.2.2.2.2.2.1, x.2.2.2.2.2.2.2.1, x.2.2.2.2.2.2.2.2.1, x.2.2.2.2.2.2.2.2.2.1, x.2.2.2.2.2.2.2.2.2.2.1, x.2.2.2.2.2.2.2.2.2.2.2.1, x.2.2.2.2.2.2.2.2.2.2.2.2.1, x.2.2.2.2.2.2.2.2.2.2.2.2.2.1, x.2.2.2.2.2.2.2.2.2.2.2.2.2.2.1, x.2.2.2.2.2.2.2.2.2.2.2.2.2.2.2) : gX)) s1]
theorem n_2m {l : Nat} : (2 : Int32) * Int32.ofNat l = Int32.ofNat (2 * l) := by
  rw [Int32.ofNat_mul]; rfl
theorem k_manyTop {t D : Nat} (ht : t < 4) (t0 : ¬ t = 0) (G : gD n0 f q m N pos u x) (hN : N < 32) : ∀ y o z, cR_readObject W (some 187) (some 1) (some 163) (Int32.ofNat t) (Int32.ofNat (D + 1)) (gH u y o z) = (cR_nextUpTo (some 187) (some 163) (Int32.ofNat (gmx t)) (gH (ub u N (Int32.ofNat t)) y o z)).bind fun r4 => (if t = 1 then cR_readList_12 W 1000000000000000 (some 187) (some 1) (some 163) (some (3 + 5 * N)) (Int32.ofNat (D + 1)) r4.1 0 r4.2 else if t = 2 then cR_readMap_11 W 1000000000000000 (some 187) (some 1) (some 163) (some (3 + 5 * N)) (Int32.ofNat (D + 1)) r4.1 0 r4.2 else cR_readSet_11 W 1000000000000000 (some 187) (some 1) (some 163) (some (3 + 5 * N)) (Int32.ofNat (D + 1)) r4.1 0 r4.2).bind fun h => cR_readObject_128 W (some 187) (Int32.ofNat N) h := by
  intro y o z
  obtain rfl | rfl | rfl : t = 1 ∨ t = 2 ∨ t = 3 := by omega
  · rw [k_obj (D := D) (t := Int32.ofNat 1) G hN (fun h => by rw [if_neg (by decide), if_pos (by decide)]), ho_187, Option.bind_some]
    simp only [cR_readList, ho_187, Option.bind_some, Option.bind_assoc, if_true]
    rfl
  · rw [k_obj (D := D) (t := Int32.ofNat 2) G hN (fun h => by rw [if_neg (by decide), if_neg (by decide), if_pos (by decide)]), ho_187, Option.bind_some]
    simp only [cR_readMap, ho_187, Option.bind_some, Option.bind_assoc, if_neg (show ¬ 2 = 1 by omega), if_true]
    rfl
  · rw [k_obj (D := D) (t := Int32.ofNat 3) G hN (fun h => by rw [if_neg (by decide), if_neg (by decide), if_neg (by decide), if_pos (by decide)]), ho_187, Option.bind_some]
    simp only [cR_readSet, ho_187, Option.bind_some, Option.bind_assoc, if_neg (show ¬ 3 = 1 by omega), if_neg (show ¬ 3 = 2 by omega)]
    rfl
theorem rd_many {t D B : Nat} {x0 : gX} (ht : t < 4) (hD : D + 1 ≤ 12) (ih : gIR n0 f q m (D + 1) B W) (dead : gDe W) (G : gD n0 f q m N pos u x) (h18 : x.2.1 18 = Int32.ofNat D) (hg0 : x0.2.1 31 = 1) (hx0 : gXf N D x0 x) (tv : ∀ y o z, mM_takeValue (some 188) (gH y x0 o z) = (mM_takeMany (some 188) (Int32.ofNat t) (gH y x o z)).bind fun h => some (0, h)) : gVal n0 f q m D (8 * (B + 1) + 3) N 1 u x0 (cR_readObject W (some 187) (some 1) (some 163) (Int32.ofNat t) (Int32.ofNat (D + 1))) := by
  have hN := G.hN
  have fN := G.fN
  have nf := G.nf
  have hD14 : D < 14 := by omega
  by_cases c32 : N < 32
  · have Db := gD_beg (s := t) G c32 (by omega) (by omega)
    have O : gO (N + 1) t 0 ((ub u N (Int32.ofNat t)).1 N) ((xe (xb x N (Int32.ofNat t)) N f).1 N) := by
      show gO (N + 1) t 0 (gup _ _ _ N) (gup _ _ _ N)
      rw [gup_eq, gup_eq]
      exact gO_new (by omega) (by omega)
    have tb : gXf N D x0 (xe (xb x N (Int32.ofNat t)) N f) := by
      refine gXf_trans hx0 (N2 := N) (D2 := D) ⟨⟨fun j hj => gup_ne (by omega), fun j hj => ?_, rfl, rfl, rfl, rfl⟩, fun _ _ => ⟨rfl, rfl, rfl⟩, fun _ _ => rfl, fun _ _ => ⟨rfl, rfl, rfl⟩⟩ (Nat.le_refl _) (Nat.le_refl _)
      show gup (gup x.2.1 33 _) 29 _ j = _
      rw [gup_ne (by omega), gup_ne (by omega)]
    have fb : gUf N u (ub u N (Int32.ofNat t)) := ⟨fun j hj => gup_ne (by omega), rfl, rfl, rfl, rfl, rfl, rfl, rfl⟩
    have hb18 : (xe (xb x N (Int32.ofNat t)) N f).2.1 18 = Int32.ofNat D := h18
    have rT := r_manyTop ht G c32
    have kT := fun (h : ¬ t = 0) => k_manyTop (W := W) (D := D) ht h G c32
    have kR : t = 0 → ∀ y o z, cR_readObject W (some 187) (some 1) (some 163) (Int32.ofNat t) (Int32.ofNat (D + 1)) (gH u y o z) = (cR_readRecord_3 W 1000000000000000 (some 187) (some 1) (some 163) (some (3 + 5 * N)) (Int32.ofNat (D + 1)) 0 (gH (ub u N (Int32.ofNat t)) y o z)).bind fun h => cR_readObject_128 W (some 187) (Int32.ofNat N) h := by
      intro e y o z
      subst e
      rw [k_obj (D := D) (t := Int32.ofNat 0) G c32 (fun h => by rw [if_pos (by decide)]), ho_187, Option.bind_some]
      rfl
    generalize ub u N (Int32.ofNat t) = u1 at Db O fb kT kR
    generalize xe (xb x N (Int32.ofNat t)) N f = x1 at Db O rT tb hb18
    have push : ∀ (x2 : gX) (c : Int32), x2.2.1 31 = 1 → x2.2.1 18 = Int32.ofNat D → (∀ y o z, mM_takeMany (some 188) (Int32.ofNat t) (gH y x o z) = mM_takeMany_43 (some 188) (Int32.ofNat t) (Int32.ofNat N) c (gH y x2 o z)) → gTo 1 1 0 x0 (xp x2 D (Int32.ofNat N) (if Int32.ofNat t = 2 then 2 * c else c)) := by
      intro x2 c e1 e2 e3
      refine gTo_val hg0 (fun y o z => ?_)
      rw [tv, e3, r_43 e1 e2 hD14, Option.bind_some]
    by_cases t0 : t = 0
    · subst t0
      have to := push x1 0 Db.gg hb18 (fun y o z => by rw [rT, if_pos rfl])
      rw [if_neg (show ¬ Int32.ofNat 0 = 2 by decide)] at to
      obtain ⟨G2, hG2⟩ : ∃ G, 1000000000000000 = G + 6 + 1 := ⟨999999999999993, rfl⟩
      have K := rd_recL (D := D) (k := N) hD (by omega) ih dead 6 0 G2 u1 (xp x1 D (Int32.ofNat N) 0) (N + 1) pos (by omega) (gD_p Db) (by omega) O gPi_p
      refine gVal_mono (gVal_step to fb (gXf_trans tb gXf_p (Nat.le_refl N) (Nat.le_refl D)) (fun y o z => ?_) K) (by omega)
      rw [kR rfl, hG2]
      rfl
    · have hmx : gmx t < 256 := by unfold gmx; split; omega; split <;> omega
      by_cases c1 : pos < m ∧ ∃ j, j ≤ gmx t ∧ u1.2.2.2.2.1 pos = Int32.ofNat j
      · obtain ⟨p, l, hl, el⟩ := c1
        have a1 := k_up (t := gmx t) Db p hl hmx el
        have a2 := r_up (t := gmx t) Db p hl hmx el
        have D2 : gD n0 f q m (N + 1) (pos + 1) (su u1 (pos + 1)) (sx x1 (pos + 1)) := gD_s Db (by omega)
        have to := push (sx x1 (pos + 1)) (Int32.ofNat l) D2.gg hb18 (fun y o z => by rw [rT, if_neg t0, a2, Option.bind_some])
        have fx : ∀ c, gXf N D x0 (xp (sx x1 (pos + 1)) D (Int32.ofNat N) c) := fun c => gXf_trans (gXf_trans tb (gXf_s (N := N) (D := D) (fun j hj => gup_ne (by omega))) (Nat.le_refl N) (Nat.le_refl D)) gXf_p (Nat.le_refl N) (Nat.le_refl D)
        have fu : gUf N u (su u1 (pos + 1)) := gUf_trans fb gUf_r (Nat.le_refl N)
        obtain rfl | rfl | rfl : t = 1 ∨ t = 2 ∨ t = 3 := by omega
        · have l8 : l ≤ 8 := hl
          rw [if_neg (show ¬ Int32.ofNat 1 = 2 by decide)] at to
          obtain ⟨G2, hG2⟩ : ∃ G, 1000000000000000 = G + l + 1 := ⟨999999999999999 - l, by omega⟩
          have K := rd_listL (D := D) (k := N) hD (by omega) ih l8 l 0 G2 (su u1 (pos + 1)) (xp (sx x1 (pos + 1)) D (Int32.ofNat N) (Int32.ofNat l)) (N + 1) (pos + 1) (by omega) (gD_p D2) (by omega) O gPi_p
          have bd : l * (B + 1) ≤ 8 * (B + 1) := Nat.mul_le_mul_right _ l8
          refine gVal_mono (gVal_step to fu (fx _) (fun y o z => ?_) K) (by omega)
          rw [kT t0, a1, Option.bind_some, if_pos rfl, hG2]
          rfl
        · have l4 : l ≤ 4 := hl
          rw [if_pos (show Int32.ofNat 2 = 2 by decide), n_2m] at to
          obtain ⟨G2, hG2⟩ : ∃ G, 1000000000000000 = G + l + 1 := ⟨999999999999999 - l, by omega⟩
          have K := rd_mapL (D := D) (k := N) hD (by omega) ih dead l4 l 0 G2 (su u1 (pos + 1)) (xp (sx x1 (pos + 1)) D (Int32.ofNat N) (Int32.ofNat (2 * l))) (N + 1) (pos + 1) (by omega) (gD_p D2) (by omega) O gPi_p
          have bd : l * (2 * (B + 1)) ≤ 4 * (2 * (B + 1)) := Nat.mul_le_mul_right _ l4
          refine gVal_mono (gVal_step to fu (fx _) (fun y o z => ?_) K) (by omega)
          rw [kT t0, a1, Option.bind_some, if_neg (by omega), if_pos rfl, hG2]
          rfl
        · have l5 : l ≤ 5 := hl
          rw [if_neg (show ¬ Int32.ofNat 3 = 2 by decide)] at to
          obtain ⟨G2, hG2⟩ : ∃ G, 1000000000000000 = G + l + 1 := ⟨999999999999999 - l, by omega⟩
          have K := rd_setL (D := D) (k := N) hD (by omega) ih l5 l 0 G2 (su u1 (pos + 1)) (xp (sx x1 (pos + 1)) D (Int32.ofNat N) (Int32.ofNat l)) (N + 1) (pos + 1) (by omega) (gD_p D2) (by omega) O gPi_p
          have bd : l * (B + 1) ≤ 8 * (B + 1) := Nat.mul_le_mul_right _ (by omega)
          refine gVal_mono (gVal_step to fu (fx _) (fun y o z => ?_) K) (by omega)
          rw [kT t0, a1, Option.bind_some, if_neg (by omega), if_neg (by omega), hG2]
          rfl
      · obtain ⟨r1, r2, a1⟩ := k_up0 (t := gmx t) Db hmx c1
        obtain ⟨s1, s2, s3, a2⟩ := r_up0 (t := gmx t) Db hmx c1
        have tk : ∀ y o z, mM_takeValue (some 188) (gH y x0 o z) = some (0, gH y ((x1.1, s1, x1.2.2.1, x1.2.2.2.1, x1.2.2.2.2.1, x1.2.2.2.2.2.1, x1.2.2.2.2.2.2.1, x1.2.2.2.2.2.2.2.1, x1.2.2.2.2.2.2.2.2.1, x1.2.2.2.2.2.2.2.2.2.1, x1.2.2.2.2.2.2.2.2.2.2.1, x1.2.2.2.2.2.2.2.2.2.2.2.1, x1.2.2.2.2.2.2.2.2.2.2.2.2.1, x1.2.2.2.2.2.2.2.2.2.2.2.2.2.1, x1.2.2.2.2.2.2.2.2.2.2.2.2.2.2.1, x1.2.2.2.2.2.2.2.2.2.2.2.2.2.2.2) : gX) o z) := by
          intro y o z
          rw [tv, rT, if_neg t0, a2, Option.bind_some, r_43d (x := ((x1.1, s1, x1.2.2.1, x1.2.2.2.1, x1.2.2.2.2.1, x1.2.2.2.2.2.1, x1.2.2.2.2.2.2.1, x1.2.2.2.2.2.2.2.1, x1.2.2.2.2.2.2.2.2.1, x1.2.2.2.2.2.2.2.2.2.1, x1.2.2.2.2.2.2.2.2.2.2.1, x1.2.2.2.2.2.2.2.2.2.2.2.1, x1.2.2.2.2.2.2.2.2.2.2.2.2.1, x1.2.2.2.2.2.2.2.2.2.2.2.2.2.1, x1.2.2.2.2.2.2.2.2.2.2.2.2.2.2.1, x1.2.2.2.2.2.2.2.2.2.2.2.2.2.2.2) : gX)) s2, Option.bind_some]
        obtain ⟨g, hg⟩ : ∃ g, 1000000000000000 = g + 1 := ⟨999999999999999, rfl⟩
        refine gVal_bad (u' := ((u1.1, u1.2.1, u1.2.2.1, u1.2.2.2.1, u1.2.2.2.2.1, u1.2.2.2.2.2.1, u1.2.2.2.2.2.2.1, u1.2.2.2.2.2.2.2.1, u1.2.2.2.2.2.2.2.2.1, u1.2.2.2.2.2.2.2.2.2.1, u1.2.2.2.2.2.2.2.2.2.2.1, u1.2.2.2.2.2.2.2.2.2.2.2.1, gup (gup r1 2 6) 3 (Int32.ofNat N), u1.2.2.2.2.2.2.2.2.2.2.2.2.2.1, u1.2.2.2.2.2.2.2.2.2.2.2.2.2.2) : gU)) (fun y o z => ?_) (gUf_trans fb gUf_r (Nat.le_refl N)) r2 (gRF_mono (gRF_val hg0 tk s2) (by omega)) (gXd_trans tb.fd ⟨fun _ _ => rfl, fun j hj => s3 j (by omega), rfl, rfl, rfl, rfl⟩ (Nat.le_refl N))
        rw [kT t0, a1, Option.bind_some, hg, k_listD (u := ((u1.1, u1.2.1, u1.2.2.1, u1.2.2.2.1, u1.2.2.2.2.1, u1.2.2.2.2.2.1, u1.2.2.2.2.2.2.1, u1.2.2.2.2.2.2.2.1, u1.2.2.2.2.2.2.2.2.1, u1.2.2.2.2.2.2.2.2.2.1, u1.2.2.2.2.2.2.2.2.2.2.1, u1.2.2.2.2.2.2.2.2.2.2.2.1, r1, u1.2.2.2.2.2.2.2.2.2.2.2.2.2.1, u1.2.2.2.2.2.2.2.2.2.2.2.2.2.2) : gU)) r2, k_mapD (u := ((u1.1, u1.2.1, u1.2.2.1, u1.2.2.2.1, u1.2.2.2.2.1, u1.2.2.2.2.2.1, u1.2.2.2.2.2.2.1, u1.2.2.2.2.2.2.2.1, u1.2.2.2.2.2.2.2.2.1, u1.2.2.2.2.2.2.2.2.2.1, u1.2.2.2.2.2.2.2.2.2.2.1, u1.2.2.2.2.2.2.2.2.2.2.2.1, r1, u1.2.2.2.2.2.2.2.2.2.2.2.2.2.1, u1.2.2.2.2.2.2.2.2.2.2.2.2.2.2) : gU)) r2, k_setD (u := ((u1.1, u1.2.1, u1.2.2.1, u1.2.2.2.1, u1.2.2.2.2.1, u1.2.2.2.2.2.1, u1.2.2.2.2.2.2.1, u1.2.2.2.2.2.2.2.1, u1.2.2.2.2.2.2.2.2.1, u1.2.2.2.2.2.2.2.2.2.1, u1.2.2.2.2.2.2.2.2.2.2.1, u1.2.2.2.2.2.2.2.2.2.2.2.1, r1, u1.2.2.2.2.2.2.2.2.2.2.2.2.2.1, u1.2.2.2.2.2.2.2.2.2.2.2.2.2.2) : gU)) r2, ite_self, ite_self, Option.bind_some, k_128]
  · obtain rfl : N = 32 := by omega
    obtain ⟨x', h1, h2, h3⟩ := r_many32 ht G
    refine gVal_bad (k_obj0 G) gUf_r rfl (gRF_mono (gRF_val (t := 0) hg0 (fun y o z => ?_) h1) (by omega)) (gXd_trans hx0.fd h2 (Nat.le_refl _))
    rw [tv, h3, Option.bind_some]
end H
end
section
/-! read: views -/
/-- what the class does behind the viewed value -/
def cvr (un fr co : Int32) (h15 : gx_H) : Option gx_H :=
  (gv_gI h15 (some 187) 6 1).bind fun v16 =>
  if v16 = 0 then (
    (gv_gI h15 (some 187) 6 3).bind fun v18 =>
    (gv_is h15 (some 1) 1).bind fun _ =>
    (cS_thingAt (some 1) v18 h15).bind fun v20 =>
    (gv_gI h15 (some 187) 6 2).bind fun v21 =>
    if v21 = (6 : Int32) then (
      if v20 = none then (
        (gv_pV h15 (some 187) 6 1 (.int (1 : Int32))).bind fun h24 =>
        some h24) else
      (gv_is h15 v20 2).bind fun _ =>
      (cT_canBeViewed v20 un fr co h15).bind fun v26 =>
      if v26 = 0 then (
        (gv_pV h15 (some 187) 6 1 (.int (1 : Int32))).bind fun h28 =>
        some h28) else
      (gv_is h15 (some 187) 6).bind fun _ =>
      (cR_beginThing (some 187) (some 1) (5 : Int32) h15).bind fun r32 =>
      if r32.1 = none then (
        some r32.2) else
      (gv_is r32.2 r32.1 2).bind fun _ =>
      (cT_lookAt r32.1 v18 un fr co r32.2).bind fun h36 =>
      (gv_gI h36 (some 1) 1 1).bind fun v37 =>
      (gv_is h36 (some 187) 6).bind fun _ =>
      (cR_settle (some 187) (6 : Int32) (v37 - (1 : Int32)) h36).bind fun h40 =>
      some h40) else
    (gv_pV h15 (some 187) 6 1 (.int (1 : Int32))).bind fun h41 =>
    some h41) else
  some h15
/-- the state with a view's three bytes -/
def xv (x : gX) (D p : Nat) (a b c : Int32) : gX := ((x.1, gup x.2.1 32 (Int32.ofNat p), x.2.2.1, x.2.2.2.1, x.2.2.2.2.1, x.2.2.2.2.2.1, x.2.2.2.2.2.2.1, x.2.2.2.2.2.2.2.1, x.2.2.2.2.2.2.2.2.1, x.2.2.2.2.2.2.2.2.2.1, gup x.2.2.2.2.2.2.2.2.2.2.1 D a, gup x.2.2.2.2.2.2.2.2.2.2.2.1 D b, gup x.2.2.2.2.2.2.2.2.2.2.2.2.1 D c, x.2.2.2.2.2.2.2.2.2.2.2.2.2.1, x.2.2.2.2.2.2.2.2.2.2.2.2.2.2.1, x.2.2.2.2.2.2.2.2.2.2.2.2.2.2.2) : gX)
section H
variable {n0 f q m N pos : Nat} {u : gU} {x : gX} {W : gWr}
theorem k_view3 {D : Nat} (G : gD n0 f q m N pos u x) (c : pos + 3 ≤ m) : ∀ y o z, cR_readView W (some 187) (some 1) (some 163) (Int32.ofNat (D + 1)) (gH u y o z) = (W (some 187) (some 1) (some 163) (Int32.ofNat (D + 2)) (gH (su u (pos + 3)) y o z)).bind (cvr (u.2.2.2.2.1 pos) (u.2.2.2.2.1 (pos + 1)) (u.2.2.2.2.1 (pos + 2))) := by
  intro y o z
  have G1 : gD n0 f q m N (pos + 1) (su u (pos + 1)) (sx x (pos + 1)) := gD_s G (by omega)
  have G2 : gD n0 f q m N (pos + 2) (su u (pos + 2)) (sx x (pos + 2)) := gD_s G (by omega)
  have e1 : su (su u (pos + 1)) (pos + 1 + 1) = su u (pos + 2) := by
    show (((u.1, u.2.1, u.2.2.1, u.2.2.2.1, u.2.2.2.2.1, u.2.2.2.2.2.1, u.2.2.2.2.2.2.1, u.2.2.2.2.2.2.2.1, u.2.2.2.2.2.2.2.2.1, u.2.2.2.2.2.2.2.2.2.1, u.2.2.2.2.2.2.2.2.2.2.1, u.2.2.2.2.2.2.2.2.2.2.2.1, gup (gup u.2.2.2.2.2.2.2.2.2.2.2.2.1 0 (Int32.ofNat (pos + 1))) 0 (Int32.ofNat (pos + 2)), u.2.2.2.2.2.2.2.2.2.2.2.2.2.1, u.2.2.2.2.2.2.2.2.2.2.2.2.2.2) : gU) : gU) = _
    rw [gup_gup]; rfl
  have e2 : su (su u (pos + 2)) (pos + 2 + 1) = su u (pos + 3) := by
    show (((u.1, u.2.1, u.2.2.1, u.2.2.2.1, u.2.2.2.2.1, u.2.2.2.2.2.1, u.2.2.2.2.2.2.1, u.2.2.2.2.2.2.2.1, u.2.2.2.2.2.2.2.2.1, u.2.2.2.2.2.2.2.2.2.1, u.2.2.2.2.2.2.2.2.2.2.1, u.2.2.2.2.2.2.2.2.2.2.2.1, gup (gup u.2.2.2.2.2.2.2.2.2.2.2.2.1 0 (Int32.ofNat (pos + 2))) 0 (Int32.ofNat (pos + 3)), u.2.2.2.2.2.2.2.2.2.2.2.2.2.1, u.2.2.2.2.2.2.2.2.2.2.2.2.2.2) : gU) : gU) = _
    rw [gup_gup]; rfl
  rw [cR_readView, ho_187, Option.bind_some, k_nx G (by omega), Option.bind_some, ho_187, Option.bind_some, k_nx G1 (by omega), e1, Option.bind_some, ho_187, Option.bind_some, k_nx G2 (by omega), e2, Option.bind_some, ho_187, Option.bind_some, n_succ]
  rfl
theorem k_view0 {D : Nat} (dead : gDe W) (G : gD n0 f q m N pos u x) (c : ¬ pos + 3 ≤ m) : ∃ r, r 1 = 1 ∧ ∀ y o z, cR_readView W (some 187) (some 1) (some 163) (Int32.ofNat (D + 1)) (gH u y o z) = some (gH ((u.1, u.2.1, u.2.2.1, u.2.2.2.1, u.2.2.2.2.1, u.2.2.2.2.2.1, u.2.2.2.2.2.2.1, u.2.2.2.2.2.2.2.1, u.2.2.2.2.2.2.2.2.1, u.2.2.2.2.2.2.2.2.2.1, u.2.2.2.2.2.2.2.2.2.2.1, u.2.2.2.2.2.2.2.2.2.2.2.1, r, u.2.2.2.2.2.2.2.2.2.2.2.2.2.1, u.2.2.2.2.2.2.2.2.2.2.2.2.2.2) : gU) y o z) := by
  have tl : ∀ (r : Nat → Int32) (y : gX) (o : Nat → Int64) (z : gx_H) (a b c d : Int32), r 1 = 1 → (W (some 187) (some 1) (some 163) d (gH ((u.1, u.2.1, u.2.2.1, u.2.2.2.1, u.2.2.2.2.1, u.2.2.2.2.2.1, u.2.2.2.2.2.2.1, u.2.2.2.2.2.2.2.1, u.2.2.2.2.2.2.2.2.1, u.2.2.2.2.2.2.2.2.2.1, u.2.2.2.2.2.2.2.2.2.2.1, u.2.2.2.2.2.2.2.2.2.2.2.1, r, u.2.2.2.2.2.2.2.2.2.2.2.2.2.1, u.2.2.2.2.2.2.2.2.2.2.2.2.2.2) : gU) y o z)).bind (cvr a b c) = some (gH ((u.1, u.2.1, u.2.2.1, u.2.2.2.1, u.2.2.2.2.1, u.2.2.2.2.2.1, u.2.2.2.2.2.2.1, u.2.2.2.2.2.2.2.1, u.2.2.2.2.2.2.2.2.1, u.2.2.2.2.2.2.2.2.2.1, u.2.2.2.2.2.2.2.2.2.2.1, u.2.2.2.2.2.2.2.2.2.2.2.1, r, u.2.2.2.2.2.2.2.2.2.2.2.2.2.1, u.2.2.2.2.2.2.2.2.2.2.2.2.2.2) : gU) y o z) := by
    intro r y o z a b c d h
    rw [dead ((u.1, u.2.1, u.2.2.1, u.2.2.2.1, u.2.2.2.2.1, u.2.2.2.2.2.1, u.2.2.2.2.2.2.1, u.2.2.2.2.2.2.2.1, u.2.2.2.2.2.2.2.2.1, u.2.2.2.2.2.2.2.2.2.1, u.2.2.2.2.2.2.2.2.2.2.1, u.2.2.2.2.2.2.2.2.2.2.2.1, r, u.2.2.2.2.2.2.2.2.2.2.2.2.2.1, u.2.2.2.2.2.2.2.2.2.2.2.2.2.2) : gU) y o z d h, Option.bind_some, cvr, hi_187_1, Option.bind_some]
    exact if_neg (show ¬ r 1 = 0 by rw [h]; exact i_10)
  by_cases p1 : pos < m
  · have G1 : gD n0 f q m N (pos + 1) (su u (pos + 1)) (sx x (pos + 1)) := gD_s G (by omega)
    by_cases p2 : pos + 1 < m
    · have G2 : gD n0 f q m N (pos + 2) (su u (pos + 2)) (sx x (pos + 2)) := gD_s G (by omega)
      have e1 : su (su u (pos + 1)) (pos + 1 + 1) = su u (pos + 2) := by
        show (((u.1, u.2.1, u.2.2.1, u.2.2.2.1, u.2.2.2.2.1, u.2.2.2.2.2.1, u.2.2.2.2.2.2.1, u.2.2.2.2.2.2.2.1, u.2.2.2.2.2.2.2.2.1, u.2.2.2.2.2.2.2.2.2.1, u.2.2.2.2.2.2.2.2.2.2.1, u.2.2.2.2.2.2.2.2.2.2.2.1, gup (gup u.2.2.2.2.2.2.2.2.2.2.2.2.1 0 (Int32.ofNat (pos + 1))) 0 (Int32.ofNat (pos + 2)), u.2.2.2.2.2.2.2.2.2.2.2.2.2.1, u.2.2.2.2.2.2.2.2.2.2.2.2.2.2) : gU) : gU) = _
        rw [gup_gup]; rfl
      refine ⟨gup (gup u.2.2.2.2.2.2.2.2.2.2.2.2.1 0 (Int32.ofNat (pos + 2))) 1 1, rfl, fun y o z => ?_⟩
      rw [cR_readView, ho_187, Option.bind_some, k_nx G (by omega), Option.bind_some, ho_187, Option.bind_some, k_nx G1 (by omega), e1, Option.bind_some, ho_187, Option.bind_some, k_nx0 G2 (by omega), Option.bind_some, ho_187, Option.bind_some]
      exact tl _ y o z _ _ _ _ rfl
    · refine ⟨gup (gup u.2.2.2.2.2.2.2.2.2.2.2.2.1 0 (Int32.ofNat (pos + 1))) 1 1, rfl, fun y o z => ?_⟩
      rw [cR_readView, ho_187, Option.bind_some, k_nx G (by omega), Option.bind_some, ho_187, Option.bind_some, k_nx0 G1 (by omega), Option.bind_some, ho_187, Option.bind_some, k_byteDead (u := (((su u (pos + 1)).1, (su u (pos + 1)).2.1, (su u (pos + 1)).2.2.1, (su u (pos + 1)).2.2.2.1, (su u (pos + 1)).2.2.2.2.1, (su u (pos + 1)).2.2.2.2.2.1, (su u (pos + 1)).2.2.2.2.2.2.1, (su u (pos + 1)).2.2.2.2.2.2.2.1, (su u (pos + 1)).2.2.2.2.2.2.2.2.1, (su u (pos + 1)).2.2.2.2.2.2.2.2.2.1, (su u (pos + 1)).2.2.2.2.2.2.2.2.2.2.1, (su u (pos + 1)).2.2.2.2.2.2.2.2.2.2.2.1, gup (su u (pos + 1)).2.2.2.2.2.2.2.2.2.2.2.2.1 1 1, (su u (pos + 1)).2.2.2.2.2.2.2.2.2.2.2.2.2.1, (su u (pos + 1)).2.2.2.2.2.2.2.2.2.2.2.2.2.2) : gU)) rfl, Option.bind_some, ho_187, Option.bind_some]
      exact tl _ y o z _ _ _ _ rfl
  · refine ⟨gup u.2.2.2.2.2.2.2.2.2.2.2.2.1 1 1, rfl, fun y o z => ?_⟩
    rw [cR_readView, ho_187, Option.bind_some, k_nx0 G (by omega), Option.bind_some, ho_187, Option.bind_some, k_byteDead (u := ((u.1, u.2.1, u.2.2.1, u.2.2.2.1, u.2.2.2.2.1, u.2.2.2.2.2.1, u.2.2.2.2.2.2.1, u.2.2.2.2.2.2.2.1, u.2.2.2.2.2.2.2.2.1, u.2.2.2.2.2.2.2.2.2.1, u.2.2.2.2.2.2.2.2.2.2.1, u.2.2.2.2.2.2.2.2.2.2.2.1, gup u.2.2.2.2.2.2.2.2.2.2.2.2.1 1 1, u.2.2.2.2.2.2.2.2.2.2.2.2.2.1, u.2.2.2.2.2.2.2.2.2.2.2.2.2.2) : gU)) rfl, Option.bind_some, ho_187, Option.bind_some, k_byteDead (u := ((u.1, u.2.1, u.2.2.1, u.2.2.2.1, u.2.2.2.2.1, u.2.2.2.2.2.1, u.2.2.2.2.2.2.1, u.2.2.2.2.2.2.2.1, u.2.2.2.2.2.2.2.2.1, u.2.2.2.2.2.2.2.2.2.1, u.2.2.2.2.2.2.2.2.2.2.1, u.2.2.2.2.2.2.2.2.2.2.2.1, gup u.2.2.2.2.2.2.2.2.2.2.2.2.1 1 1, u.2.2.2.2.2.2.2.2.2.2.2.2.2.1, u.2.2.2.2.2.2.2.2.2.2.2.2.2.2) : gU)) rfl, Option.bind_some, ho_187, Option.bind_some]
    exact tl _ y o z _ _ _ _ rfl
/-- the reference's three bytes, whatever they are -/
theorem r_v3 {D : Nat} {v1 v2 v3 : Int32} {s1 s2 s3 : Nat → Int32} (hD : D < 14) (h18 : x.2.1 18 = Int32.ofNat D) (d1 : s1 18 = Int32.ofNat D) (d2 : s2 18 = Int32.ofNat D) (d3 : s3 18 = Int32.ofNat D) (h1 : ∀ y o z, mM_next (some 188) (gH y x o z) = some (v1, gH y ((x.1, s1, x.2.2.1, x.2.2.2.1, x.2.2.2.2.1, x.2.2.2.2.2.1, x.2.2.2.2.2.2.1, x.2.2.2.2.2.2.2.1, x.2.2.2.2.2.2.2.2.1, x.2.2.2.2.2.2.2.2.2.1, x.2.2.2.2.2.2.2.2.2.2.1, x.2.2.2.2.2.2.2.2.2.2.2.1, x.2.2.2.2.2.2.2.2.2.2.2.2.1, x.2.2.2.2.2.2.2.2.2.2.2.2.2.1, x.2.2.2.2.2.2.2.2.2.2.2.2.2.2.1, x.2.2.2.2.2.2.2.2.2.2.2.2.2.2.2) : gX) o z)) (h2 : ∀ y o z, mM_next (some 188) (gH y ((x.1, s1, x.2.2.1, x.2.2.2.1, x.2.2.2.2.1, x.2.2.2.2.2.1, x.2.2.2.2.2.2.1, x.2.2.2.2.2.2.2.1, x.2.2.2.2.2.2.2.2.1, x.2.2.2.2.2.2.2.2.2.1, gup x.2.2.2.2.2.2.2.2.2.2.1 D v1, x.2.2.2.2.2.2.2.2.2.2.2.1, x.2.2.2.2.2.2.2.2.2.2.2.2.1, x.2.2.2.2.2.2.2.2.2.2.2.2.2.1, x.2.2.2.2.2.2.2.2.2.2.2.2.2.2.1, x.2.2.2.2.2.2.2.2.2.2.2.2.2.2.2) : gX) o z) = some (v2, gH y ((x.1, s2, x.2.2.1, x.2.2.2.1, x.2.2.2.2.1, x.2.2.2.2.2.1, x.2.2.2.2.2.2.1, x.2.2.2.2.2.2.2.1, x.2.2.2.2.2.2.2.2.1, x.2.2.2.2.2.2.2.2.2.1, gup x.2.2.2.2.2.2.2.2.2.2.1 D v1, x.2.2.2.2.2.2.2.2.2.2.2.1, x.2.2.2.2.2.2.2.2.2.2.2.2.1, x.2.2.2.2.2.2.2.2.2.2.2.2.2.1, x.2.2.2.2.2.2.2.2.2.2.2.2.2.2.1, x.2.2.2.2.2.2.2.2.2.2.2.2.2.2.2) : gX) o z)) (h3 : ∀ y o z, mM_next (some 188) (gH y ((x.1, s2, x.2.2.1, x.2.2.2.1, x.2.2.2.2.1, x.2.2.2.2.2.1, x.2.2.2.2.2.2.1, x.2.2.2.2.2.2.2.1, x.2.2.2.2.2.2.2.2.1, x.2.2.2.2.2.2.2.2.2.1, gup x.2.2.2.2.2.2.2.2.2.2.1 D v1, gup x.2.2.2.2.2.2.2.2.2.2.2.1 D v2, x.2.2.2.2.2.2.2.2.2.2.2.2.1, x.2.2.2.2.2.2.2.2.2.2.2.2.2.1, x.2.2.2.2.2.2.2.2.2.2.2.2.2.2.1, x.2.2.2.2.2.2.2.2.2.2.2.2.2.2.2) : gX) o z) = some (v3, gH y ((x.1, s3, x.2.2.1, x.2.2.2.1, x.2.2.2.2.1, x.2.2.2.2.2.1, x.2.2.2.2.2.2.1, x.2.2.2.2.2.2.2.1, x.2.2.2.2.2.2.2.2.1, x.2.2.2.2.2.2.2.2.2.1, gup x.2.2.2.2.2.2.2.2.2.2.1 D v1, gup x.2.2.2.2.2.2.2.2.2.2.2.1 D v2, x.2.2.2.2.2.2.2.2.2.2.2.2.1, x.2.2.2.2.2.2.2.2.2.2.2.2.2.1, x.2.2.2.2.2.2.2.2.2.2.2.2.2.2.1, x.2.2.2.2.2.2.2.2.2.2.2.2.2.2.2) : gX) o z)) (t : Int32) : ∀ y o z, mM_takeValue_44 (some 188) t 13 (gH y x o z) = mM_takeValue_261 (some 188) (some 188) (if s3 31 = 0 then 0 else if v1 = 1 ∨ v1 = 2 ∨ v1 = 4 then 1 else 0) (gH y ((x.1, s3, x.2.2.1, x.2.2.2.1, x.2.2.2.2.1, x.2.2.2.2.2.1, x.2.2.2.2.2.2.1, x.2.2.2.2.2.2.2.1, x.2.2.2.2.2.2.2.2.1, x.2.2.2.2.2.2.2.2.2.1, gup x.2.2.2.2.2.2.2.2.2.2.1 D v1, gup x.2.2.2.2.2.2.2.2.2.2.2.1 D v2, gup x.2.2.2.2.2.2.2.2.2.2.2.2.1 D v3, x.2.2.2.2.2.2.2.2.2.2.2.2.2.1, x.2.2.2.2.2.2.2.2.2.2.2.2.2.2.1, x.2.2.2.2.2.2.2.2.2.2.2.2.2.2.2) : gX) o z) := by
  intro y o z
  have iu : mM_isUnit v1 = some (if v1 = 1 ∨ v1 = 2 ∨ v1 = 4 then 1 else 0) := by
    unfold mM_isUnit
    by_cases a : v1 = 1
    · rw [if_pos a, if_pos (Or.inl a)]
    · by_cases b : v1 = 2
      · rw [if_neg a, if_pos b, if_pos (Or.inr (Or.inl b))]
      · by_cases c : v1 = 4
        · rw [if_neg a, if_neg b, if_pos c, if_pos (Or.inr (Or.inr c))]
        · rw [if_neg a, if_neg b, if_neg c, if_neg (fun k => by rcases k with k | k | k; exact a k; exact b k; exact c k)]
  rw [mM_takeValue_44, if_neg (by decide), if_neg (by decide), if_neg (by decide), if_neg (by decide), if_neg (by decide), if_neg (by decide), if_neg (by decide), if_neg (by decide), if_neg (by decide), if_neg (by decide), if_neg (by decide), if_neg (by decide), if_neg (by decide), if_pos rfl]
  simp only [hr_188_23, Option.bind_some, hi_188_18, h18, ho_188, h1, hb_205 hD, hr_188_24, d1, h2, hb_206 hD, hr_188_25, d2, h3, hb_207 hD, hi_188_31, d3, ha_205 hD, gup_eq, iu, mM_takeValue_260]
  by_cases c : s3 31 = 0
  · rw [if_pos c, if_pos c]
  · rw [if_neg c, if_neg c]
    by_cases e : v1 = 1 ∨ v1 = 2 ∨ v1 = 4
    · rw [if_pos e, if_neg i_10]
    · rw [if_neg e, if_pos rfl]
theorem r_261 {D : Nat} {s : Int32} (hs : s = 0 ∨ s = 1) (hD : D < 14) (h18 : x.2.1 18 = Int32.ofNat D) : ∀ y o z, mM_takeValue_261 (some 188) (some 188) s (gH y x o z) = some (0, gH y (xp ((x.1, gup x.2.1 31 s, x.2.2.1, x.2.2.2.1, x.2.2.2.2.1, x.2.2.2.2.2.1, x.2.2.2.2.2.2.1, x.2.2.2.2.2.2.2.1, x.2.2.2.2.2.2.2.2.1, x.2.2.2.2.2.2.2.2.2.1, x.2.2.2.2.2.2.2.2.2.2.1, x.2.2.2.2.2.2.2.2.2.2.2.1, x.2.2.2.2.2.2.2.2.2.2.2.2.1, x.2.2.2.2.2.2.2.2.2.2.2.2.2.1, x.2.2.2.2.2.2.2.2.2.2.2.2.2.2.1, x.2.2.2.2.2.2.2.2.2.2.2.2.2.2.2) : gX) D (-1) 1) o z) := by
  intro y o z
  rw [mM_takeValue_261, if_neg (fun k => k hs), hp_188_31, Option.bind_some, ho_188, Option.bind_some, r_pushR (x := ((x.1, gup x.2.1 31 s, x.2.2.1, x.2.2.2.1, x.2.2.2.2.1, x.2.2.2.2.2.1, x.2.2.2.2.2.2.1, x.2.2.2.2.2.2.2.1, x.2.2.2.2.2.2.2.2.1, x.2.2.2.2.2.2.2.2.2.1, x.2.2.2.2.2.2.2.2.2.2.1, x.2.2.2.2.2.2.2.2.2.2.2.1, x.2.2.2.2.2.2.2.2.2.2.2.2.1, x.2.2.2.2.2.2.2.2.2.2.2.2.2.1, x.2.2.2.2.2.2.2.2.2.2.2.2.2.2.1, x.2.2.2.2.2.2.2.2.2.2.2.2.2.2.2) : gX)) h18 hD, Option.bind_some]
  rfl
theorem r_vw3 {D : Nat} (G : gD n0 f q m N pos u x) (c : pos + 3 ≤ m) (hD : D < 14) (h18 : x.2.1 18 = Int32.ofNat D) (t : Int32) : ∀ y o z, mM_takeValue_44 (some 188) t 13 (gH y x o z) = mM_takeValue_261 (some 188) (some 188) (if u.2.2.2.2.1 pos = 1 ∨ u.2.2.2.2.1 pos = 2 ∨ u.2.2.2.2.1 pos = 4 then 1 else 0) (gH y (xv x D (pos + 3) (u.2.2.2.2.1 pos) (u.2.2.2.2.1 (pos + 1)) (u.2.2.2.2.1 (pos + 2))) o z) := by
  intro y o z
  have G1 : gD n0 f q m N (pos + 1) (su u (pos + 1)) (((sx x (pos + 1)).1, (sx x (pos + 1)).2.1, (sx x (pos + 1)).2.2.1, (sx x (pos + 1)).2.2.2.1, (sx x (pos + 1)).2.2.2.2.1, (sx x (pos + 1)).2.2.2.2.2.1, (sx x (pos + 1)).2.2.2.2.2.2.1, (sx x (pos + 1)).2.2.2.2.2.2.2.1, (sx x (pos + 1)).2.2.2.2.2.2.2.2.1, (sx x (pos + 1)).2.2.2.2.2.2.2.2.2.1, gup x.2.2.2.2.2.2.2.2.2.2.1 D (u.2.2.2.2.1 pos), (sx x (pos + 1)).2.2.2.2.2.2.2.2.2.2.2.1, (sx x (pos + 1)).2.2.2.2.2.2.2.2.2.2.2.2.1, (sx x (pos + 1)).2.2.2.2.2.2.2.2.2.2.2.2.2.1, (sx x (pos + 1)).2.2.2.2.2.2.2.2.2.2.2.2.2.2.1, (sx x (pos + 1)).2.2.2.2.2.2.2.2.2.2.2.2.2.2.2) : gX) := gD_x (gD_s (p := pos + 1) G (by omega)) rfl rfl rfl rfl (fun _ _ _ => rfl) rfl (fun _ _ _ _ => rfl) rfl rfl
  have G2 : gD n0 f q m N (pos + 2) (su u (pos + 2)) (((sx x (pos + 2)).1, (sx x (pos + 2)).2.1, (sx x (pos + 2)).2.2.1, (sx x (pos + 2)).2.2.2.1, (sx x (pos + 2)).2.2.2.2.1, (sx x (pos + 2)).2.2.2.2.2.1, (sx x (pos + 2)).2.2.2.2.2.2.1, (sx x (pos + 2)).2.2.2.2.2.2.2.1, (sx x (pos + 2)).2.2.2.2.2.2.2.2.1, (sx x (pos + 2)).2.2.2.2.2.2.2.2.2.1, gup x.2.2.2.2.2.2.2.2.2.2.1 D (u.2.2.2.2.1 pos), gup x.2.2.2.2.2.2.2.2.2.2.2.1 D (u.2.2.2.2.1 (pos + 1)), (sx x (pos + 2)).2.2.2.2.2.2.2.2.2.2.2.2.1, (sx x (pos + 2)).2.2.2.2.2.2.2.2.2.2.2.2.2.1, (sx x (pos + 2)).2.2.2.2.2.2.2.2.2.2.2.2.2.2.1, (sx x (pos + 2)).2.2.2.2.2.2.2.2.2.2.2.2.2.2.2) : gX) := gD_x (gD_s (p := pos + 2) G (by omega)) rfl rfl rfl rfl (fun _ _ _ => rfl) rfl (fun _ _ _ _ => rfl) rfl rfl
  have h2 : ∀ y o z, mM_next (some 188) (gH y ((x.1, gup x.2.1 32 (Int32.ofNat (pos + 1)), x.2.2.1, x.2.2.2.1, x.2.2.2.2.1, x.2.2.2.2.2.1, x.2.2.2.2.2.2.1, x.2.2.2.2.2.2.2.1, x.2.2.2.2.2.2.2.2.1, x.2.2.2.2.2.2.2.2.2.1, gup x.2.2.2.2.2.2.2.2.2.2.1 D (u.2.2.2.2.1 pos), x.2.2.2.2.2.2.2.2.2.2.2.1, x.2.2.2.2.2.2.2.2.2.2.2.2.1, x.2.2.2.2.2.2.2.2.2.2.2.2.2.1, x.2.2.2.2.2.2.2.2.2.2.2.2.2.2.1, x.2.2.2.2.2.2.2.2.2.2.2.2.2.2.2) : gX) o z) = some (u.2.2.2.2.1 (pos + 1), gH y ((x.1, gup x.2.1 32 (Int32.ofNat (pos + 2)), x.2.2.1, x.2.2.2.1, x.2.2.2.2.1, x.2.2.2.2.2.1, x.2.2.2.2.2.2.1, x.2.2.2.2.2.2.2.1, x.2.2.2.2.2.2.2.2.1, x.2.2.2.2.2.2.2.2.2.1, gup x.2.2.2.2.2.2.2.2.2.2.1 D (u.2.2.2.2.1 pos), x.2.2.2.2.2.2.2.2.2.2.2.1, x.2.2.2.2.2.2.2.2.2.2.2.2.1, x.2.2.2.2.2.2.2.2.2.2.2.2.2.1, x.2.2.2.2.2.2.2.2.2.2.2.2.2.2.1, x.2.2.2.2.2.2.2.2.2.2.2.2.2.2.2) : gX) o z) := by
    intro y o z
    refine (r_nx G1 (by omega) y o z).trans ?_
    show some (u.2.2.2.2.1 (pos + 1), gH y ((x.1, gup (gup x.2.1 32 (Int32.ofNat (pos + 1))) 32 (Int32.ofNat (pos + 2)), x.2.2.1, x.2.2.2.1, x.2.2.2.2.1, x.2.2.2.2.2.1, x.2.2.2.2.2.2.1, x.2.2.2.2.2.2.2.1, x.2.2.2.2.2.2.2.2.1, x.2.2.2.2.2.2.2.2.2.1, gup x.2.2.2.2.2.2.2.2.2.2.1 D (u.2.2.2.2.1 pos), x.2.2.2.2.2.2.2.2.2.2.2.1, x.2.2.2.2.2.2.2.2.2.2.2.2.1, x.2.2.2.2.2.2.2.2.2.2.2.2.2.1, x.2.2.2.2.2.2.2.2.2.2.2.2.2.2.1, x.2.2.2.2.2.2.2.2.2.2.2.2.2.2.2) : gX) o z) = _
    rw [gup_gup]
  have h3 : ∀ y o z, mM_next (some 188) (gH y ((x.1, gup x.2.1 32 (Int32.ofNat (pos + 2)), x.2.2.1, x.2.2.2.1, x.2.2.2.2.1, x.2.2.2.2.2.1, x.2.2.2.2.2.2.1, x.2.2.2.2.2.2.2.1, x.2.2.2.2.2.2.2.2.1, x.2.2.2.2.2.2.2.2.2.1, gup x.2.2.2.2.2.2.2.2.2.2.1 D (u.2.2.2.2.1 pos), gup x.2.2.2.2.2.2.2.2.2.2.2.1 D (u.2.2.2.2.1 (pos + 1)), x.2.2.2.2.2.2.2.2.2.2.2.2.1, x.2.2.2.2.2.2.2.2.2.2.2.2.2.1, x.2.2.2.2.2.2.2.2.2.2.2.2.2.2.1, x.2.2.2.2.2.2.2.2.2.2.2.2.2.2.2) : gX) o z) = some (u.2.2.2.2.1 (pos + 2), gH y ((x.1, gup x.2.1 32 (Int32.ofNat (pos + 3)), x.2.2.1, x.2.2.2.1, x.2.2.2.2.1, x.2.2.2.2.2.1, x.2.2.2.2.2.2.1, x.2.2.2.2.2.2.2.1, x.2.2.2.2.2.2.2.2.1, x.2.2.2.2.2.2.2.2.2.1, gup x.2.2.2.2.2.2.2.2.2.2.1 D (u.2.2.2.2.1 pos), gup x.2.2.2.2.2.2.2.2.2.2.2.1 D (u.2.2.2.2.1 (pos + 1)), x.2.2.2.2.2.2.2.2.2.2.2.2.1, x.2.2.2.2.2.2.2.2.2.2.2.2.2.1, x.2.2.2.2.2.2.2.2.2.2.2.2.2.2.1, x.2.2.2.2.2.2.2.2.2.2.2.2.2.2.2) : gX) o z) := by
    intro y o z
    refine (r_nx G2 (by omega) y o z).trans ?_
    show some (u.2.2.2.2.1 (pos + 2), gH y ((x.1, gup (gup x.2.1 32 (Int32.ofNat (pos + 2))) 32 (Int32.ofNat (pos + 3)), x.2.2.1, x.2.2.2.1, x.2.2.2.2.1, x.2.2.2.2.2.1, x.2.2.2.2.2.2.1, x.2.2.2.2.2.2.2.1, x.2.2.2.2.2.2.2.2.1, x.2.2.2.2.2.2.2.2.2.1, gup x.2.2.2.2.2.2.2.2.2.2.1 D (u.2.2.2.2.1 pos), gup x.2.2.2.2.2.2.2.2.2.2.2.1 D (u.2.2.2.2.1 (pos + 1)), x.2.2.2.2.2.2.2.2.2.2.2.2.1, x.2.2.2.2.2.2.2.2.2.2.2.2.2.1, x.2.2.2.2.2.2.2.2.2.2.2.2.2.2.1, x.2.2.2.2.2.2.2.2.2.2.2.2.2.2.2) : gX) o z) = _
    rw [gup_gup]
  have g31 : ¬ gup x.2.1 32 (Int32.ofNat (pos + 3)) 31 = 0 := by rw [gup_ne (by omega), G.gg]; exact i_10
  refine (r_v3 hD h18 ((gup_ne (by omega)).trans h18) ((gup_ne (by omega)).trans h18) ((gup_ne (by omega)).trans h18) (r_nx G (by omega)) h2 h3 t y o z).trans ?_
  rw [if_neg g31]
  rfl
theorem r_vw0 {D : Nat} (G : gD n0 f q m N pos u x) (c : ¬ pos + 3 ≤ m) (hD : D < 14) (h18 : x.2.1 18 = Int32.ofNat D) (t : Int32) : ∃ x', x'.2.1 31 = 0 ∧ gXd N x x' ∧ ∀ y o z, mM_takeValue_44 (some 188) t 13 (gH y x o z) = some (0, gH y x' o z) := by
  have key : ∃ (v1 v2 v3 : Int32) (s1 s2 s3 : Nat → Int32), s3 31 = 0 ∧ gKs x.2.1 s1 ∧ gKs x.2.1 s2 ∧ gKs x.2.1 s3 ∧ (∀ y o z, mM_next (some 188) (gH y x o z) = some (v1, gH y ((x.1, s1, x.2.2.1, x.2.2.2.1, x.2.2.2.2.1, x.2.2.2.2.2.1, x.2.2.2.2.2.2.1, x.2.2.2.2.2.2.2.1, x.2.2.2.2.2.2.2.2.1, x.2.2.2.2.2.2.2.2.2.1, x.2.2.2.2.2.2.2.2.2.2.1, x.2.2.2.2.2.2.2.2.2.2.2.1, x.2.2.2.2.2.2.2.2.2.2.2.2.1, x.2.2.2.2.2.2.2.2.2.2.2.2.2.1, x.2.2.2.2.2.2.2.2.2.2.2.2.2.2.1, x.2.2.2.2.2.2.2.2.2.2.2.2.2.2.2) : gX) o z)) ∧ (∀ y o z, mM_next (some 188) (gH y ((x.1, s1, x.2.2.1, x.2.2.2.1, x.2.2.2.2.1, x.2.2.2.2.2.1, x.2.2.2.2.2.2.1, x.2.2.2.2.2.2.2.1, x.2.2.2.2.2.2.2.2.1, x.2.2.2.2.2.2.2.2.2.1, gup x.2.2.2.2.2.2.2.2.2.2.1 D v1, x.2.2.2.2.2.2.2.2.2.2.2.1, x.2.2.2.2.2.2.2.2.2.2.2.2.1, x.2.2.2.2.2.2.2.2.2.2.2.2.2.1, x.2.2.2.2.2.2.2.2.2.2.2.2.2.2.1, x.2.2.2.2.2.2.2.2.2.2.2.2.2.2.2) : gX) o z) = some (v2, gH y ((x.1, s2, x.2.2.1, x.2.2.2.1, x.2.2.2.2.1, x.2.2.2.2.2.1, x.2.2.2.2.2.2.1, x.2.2.2.2.2.2.2.1, x.2.2.2.2.2.2.2.2.1, x.2.2.2.2.2.2.2.2.2.1, gup x.2.2.2.2.2.2.2.2.2.2.1 D v1, x.2.2.2.2.2.2.2.2.2.2.2.1, x.2.2.2.2.2.2.2.2.2.2.2.2.1, x.2.2.2.2.2.2.2.2.2.2.2.2.2.1, x.2.2.2.2.2.2.2.2.2.2.2.2.2.2.1, x.2.2.2.2.2.2.2.2.2.2.2.2.2.2.2) : gX) o z)) ∧ (∀ y o z, mM_next (some 188) (gH y ((x.1, s2, x.2.2.1, x.2.2.2.1, x.2.2.2.2.1, x.2.2.2.2.2.1, x.2.2.2.2.2.2.1, x.2.2.2.2.2.2.2.1, x.2.2.2.2.2.2.2.2.1, x.2.2.2.2.2.2.2.2.2.1, gup x.2.2.2.2.2.2.2.2.2.2.1 D v1, gup x.2.2.2.2.2.2.2.2.2.2.2.1 D v2, x.2.2.2.2.2.2.2.2.2.2.2.2.1, x.2.2.2.2.2.2.2.2.2.2.2.2.2.1, x.2.2.2.2.2.2.2.2.2.2.2.2.2.2.1, x.2.2.2.2.2.2.2.2.2.2.2.2.2.2.2) : gX) o z) = some (v3, gH y ((x.1, s3, x.2.2.1, x.2.2.2.1, x.2.2.2.2.1, x.2.2.2.2.2.1, x.2.2.2.2.2.2.1, x.2.2.2.2.2.2.2.1, x.2.2.2.2.2.2.2.2.1, x.2.2.2.2.2.2.2.2.2.1, gup x.2.2.2.2.2.2.2.2.2.2.1 D v1, gup x.2.2.2.2.2.2.2.2.2.2.2.1 D v2, x.2.2.2.2.2.2.2.2.2.2.2.2.1, x.2.2.2.2.2.2.2.2.2.2.2.2.2.1, x.2.2.2.2.2.2.2.2.2.2.2.2.2.2.1, x.2.2.2.2.2.2.2.2.2.2.2.2.2.2.2) : gX) o z)) := by
    by_cases p1 : pos < m
    · have G1 : gD n0 f q m N (pos + 1) (su u (pos + 1)) (((sx x (pos + 1)).1, (sx x (pos + 1)).2.1, (sx x (pos + 1)).2.2.1, (sx x (pos + 1)).2.2.2.1, (sx x (pos + 1)).2.2.2.2.1, (sx x (pos + 1)).2.2.2.2.2.1, (sx x (pos + 1)).2.2.2.2.2.2.1, (sx x (pos + 1)).2.2.2.2.2.2.2.1, (sx x (pos + 1)).2.2.2.2.2.2.2.2.1, (sx x (pos + 1)).2.2.2.2.2.2.2.2.2.1, gup x.2.2.2.2.2.2.2.2.2.2.1 D (u.2.2.2.2.1 pos), (sx x (pos + 1)).2.2.2.2.2.2.2.2.2.2.2.1, (sx x (pos + 1)).2.2.2.2.2.2.2.2.2.2.2.2.1, (sx x (pos + 1)).2.2.2.2.2.2.2.2.2.2.2.2.2.1, (sx x (pos + 1)).2.2.2.2.2.2.2.2.2.2.2.2.2.2.1, (sx x (pos + 1)).2.2.2.2.2.2.2.2.2.2.2.2.2.2.2) : gX) := gD_x (gD_s (p := pos + 1) G (by omega)) rfl rfl rfl rfl (fun _ _ _ => rfl) rfl (fun _ _ _ _ => rfl) rfl rfl
      have ks1 : gKs x.2.1 (gup x.2.1 32 (Int32.ofNat (pos + 1))) := fun i hi => gup_ne (by omega)
      by_cases p2 : pos + 1 < m
      · have G2 : gD n0 f q m N (pos + 2) (su u (pos + 2)) (((sx x (pos + 2)).1, (sx x (pos + 2)).2.1, (sx x (pos + 2)).2.2.1, (sx x (pos + 2)).2.2.2.1, (sx x (pos + 2)).2.2.2.2.1, (sx x (pos + 2)).2.2.2.2.2.1, (sx x (pos + 2)).2.2.2.2.2.2.1, (sx x (pos + 2)).2.2.2.2.2.2.2.1, (sx x (pos + 2)).2.2.2.2.2.2.2.2.1, (sx x (pos + 2)).2.2.2.2.2.2.2.2.2.1, gup x.2.2.2.2.2.2.2.2.2.2.1 D (u.2.2.2.2.1 pos), gup x.2.2.2.2.2.2.2.2.2.2.2.1 D (u.2.2.2.2.1 (pos + 1)), (sx x (pos + 2)).2.2.2.2.2.2.2.2.2.2.2.2.1, (sx x (pos + 2)).2.2.2.2.2.2.2.2.2.2.2.2.2.1, (sx x (pos + 2)).2.2.2.2.2.2.2.2.2.2.2.2.2.2.1, (sx x (pos + 2)).2.2.2.2.2.2.2.2.2.2.2.2.2.2.2) : gX) := gD_x (gD_s (p := pos + 2) G (by omega)) rfl rfl rfl rfl (fun _ _ _ => rfl) rfl (fun _ _ _ _ => rfl) rfl rfl
        refine ⟨_, u.2.2.2.2.1 (pos + 1), _, _, gup x.2.1 32 (Int32.ofNat (pos + 2)), _, ?_, ks1, fun i hi => gup_ne (by omega), ?_, r_nx G p1, fun y o z => ?_, r_nx0 G2 (by omega)⟩
        · rfl
        · intro i hi
          show gup (gup (gup x.2.1 32 (Int32.ofNat (pos + 2))) 31 0) 32 (Int32.ofNat (pos + 2 + 1)) i = _
          rw [gup_ne (by omega), gup_ne (by omega), gup_ne (by omega)]
        · refine (r_nx G1 p2 y o z).trans ?_
          show some (u.2.2.2.2.1 (pos + 1), gH y ((x.1, gup (gup x.2.1 32 (Int32.ofNat (pos + 1))) 32 (Int32.ofNat (pos + 2)), x.2.2.1, x.2.2.2.1, x.2.2.2.2.1, x.2.2.2.2.2.1, x.2.2.2.2.2.2.1, x.2.2.2.2.2.2.2.1, x.2.2.2.2.2.2.2.2.1, x.2.2.2.2.2.2.2.2.2.1, gup x.2.2.2.2.2.2.2.2.2.2.1 D (u.2.2.2.2.1 pos), x.2.2.2.2.2.2.2.2.2.2.2.1, x.2.2.2.2.2.2.2.2.2.2.2.2.1, x.2.2.2.2.2.2.2.2.2.2.2.2.2.1, x.2.2.2.2.2.2.2.2.2.2.2.2.2.2.1, x.2.2.2.2.2.2.2.2.2.2.2.2.2.2.2) : gX) o z) = _
          rw [gup_gup]
      · have e2 := r_nx0 G1 p2
        have dd : (((x.1, gup (gup (gup x.2.1 32 (Int32.ofNat (pos + 1))) 31 0) 32 (Int32.ofNat (pos + 1 + 1)), x.2.2.1, x.2.2.2.1, x.2.2.2.2.1, x.2.2.2.2.2.1, x.2.2.2.2.2.2.1, x.2.2.2.2.2.2.2.1, x.2.2.2.2.2.2.2.2.1, x.2.2.2.2.2.2.2.2.2.1, gup x.2.2.2.2.2.2.2.2.2.2.1 D (u.2.2.2.2.1 pos), gup x.2.2.2.2.2.2.2.2.2.2.2.1 D 0, x.2.2.2.2.2.2.2.2.2.2.2.2.1, x.2.2.2.2.2.2.2.2.2.2.2.2.2.1, x.2.2.2.2.2.2.2.2.2.2.2.2.2.2.1, x.2.2.2.2.2.2.2.2.2.2.2.2.2.2.2) : gX) : gX).2.1 31 = 0 := rfl
        obtain ⟨s3, a1, a2, a3⟩ := r_nxDead dd
        have ks2 : gKs x.2.1 (gup (gup (gup x.2.1 32 (Int32.ofNat (pos + 1))) 31 0) 32 (Int32.ofNat (pos + 1 + 1))) := fun i hi => by rw [gup_ne (by omega), gup_ne (by omega), gup_ne (by omega)]
        exact ⟨_, _, _, _, _, s3, a1, ks1, ks2, gKs_trans ks2 a2, r_nx G p1, e2, a3⟩
    · have ks1 : gKs x.2.1 (gup (gup x.2.1 31 0) 32 (Int32.ofNat (pos + 1))) := fun i hi => by rw [gup_ne (by omega), gup_ne (by omega)]
      have dd : (((x.1, gup (gup x.2.1 31 0) 32 (Int32.ofNat (pos + 1)), x.2.2.1, x.2.2.2.1, x.2.2.2.2.1, x.2.2.2.2.2.1, x.2.2.2.2.2.2.1, x.2.2.2.2.2.2.2.1, x.2.2.2.2.2.2.2.2.1, x.2.2.2.2.2.2.2.2.2.1, gup x.2.2.2.2.2.2.2.2.2.2.1 D 0, x.2.2.2.2.2.2.2.2.2.2.2.1, x.2.2.2.2.2.2.2.2.2.2.2.2.1, x.2.2.2.2.2.2.2.2.2.2.2.2.2.1, x.2.2.2.2.2.2.2.2.2.2.2.2.2.2.1, x.2.2.2.2.2.2.2.2.2.2.2.2.2.2.2) : gX) : gX).2.1 31 = 0 := rfl
      obtain ⟨s2, a1, a2, a3⟩ := r_nxDead dd
      have dd2 : (((x.1, s2, x.2.2.1, x.2.2.2.1, x.2.2.2.2.1, x.2.2.2.2.2.1, x.2.2.2.2.2.2.1, x.2.2.2.2.2.2.2.1, x.2.2.2.2.2.2.2.2.1, x.2.2.2.2.2.2.2.2.2.1, gup x.2.2.2.2.2.2.2.2.2.2.1 D 0, gup x.2.2.2.2.2.2.2.2.2.2.2.1 D 0, x.2.2.2.2.2.2.2.2.2.2.2.2.1, x.2.2.2.2.2.2.2.2.2.2.2.2.2.1, x.2.2.2.2.2.2.2.2.2.2.2.2.2.2.1, x.2.2.2.2.2.2.2.2.2.2.2.2.2.2.2) : gX) : gX).2.1 31 = 0 := a1
      obtain ⟨s3, b1, b2, b3⟩ := r_nxDead dd2
      exact ⟨_, _, _, _, s2, s3, b1, ks1, gKs_trans ks1 a2, gKs_trans (gKs_trans ks1 a2) b2, r_nx0 G p1, a3, b3⟩
  obtain ⟨v1, v2, v3, s1, s2, s3, c0, c1, c2, c3, c4, c5, c6⟩ := key
  have h3 : s3 18 = Int32.ofNat D := (c3 18 (by omega)).trans h18
  refine ⟨xp ((x.1, gup s3 31 0, x.2.2.1, x.2.2.2.1, x.2.2.2.2.1, x.2.2.2.2.2.1, x.2.2.2.2.2.2.1, x.2.2.2.2.2.2.2.1, x.2.2.2.2.2.2.2.2.1, x.2.2.2.2.2.2.2.2.2.1, gup x.2.2.2.2.2.2.2.2.2.2.1 D v1, gup x.2.2.2.2.2.2.2.2.2.2.2.1 D v2, gup x.2.2.2.2.2.2.2.2.2.2.2.2.1 D v3, x.2.2.2.2.2.2.2.2.2.2.2.2.2.1, x.2.2.2.2.2.2.2.2.2.2.2.2.2.2.1, x.2.2.2.2.2.2.2.2.2.2.2.2.2.2.2) : gX) D (-1) 1, rfl, ⟨fun _ _ => rfl, fun i hi => ?_, rfl, rfl, rfl, rfl⟩, fun y o z => ?_⟩
  · show gup (gup s3 31 0) 18 (Int32.ofNat (D + 1)) i = _
    rw [gup_ne (by omega), gup_ne (by omega)]
    exact c3 i (by omega)
  · rw [r_v3 hD h18 ((c1 18 (by omega)).trans h18) ((c2 18 (by omega)).trans h18) h3 c4 c5 c6 t, if_pos c0]
    exact r_261 (x := ((x.1, s3, x.2.2.1, x.2.2.2.1, x.2.2.2.2.1, x.2.2.2.2.2.1, x.2.2.2.2.2.2.1, x.2.2.2.2.2.2.2.1, x.2.2.2.2.2.2.2.2.1, x.2.2.2.2.2.2.2.2.2.1, gup x.2.2.2.2.2.2.2.2.2.2.1 D v1, gup x.2.2.2.2.2.2.2.2.2.2.2.1 D v2, gup x.2.2.2.2.2.2.2.2.2.2.2.2.1 D v3, x.2.2.2.2.2.2.2.2.2.2.2.2.2.1, x.2.2.2.2.2.2.2.2.2.2.2.2.2.2.1, x.2.2.2.2.2.2.2.2.2.2.2.2.2.2.2) : gX)) (Or.inl rfl) hD h3 y o z
/-- the pile's top is a view's -/
def gPv (D : Nat) (i : Int32) (x : gX) : Prop := x.2.1 18 = Int32.ofNat (D + 1) ∧ x.2.2.2.2.2.2.1 D = -1 ∧ x.2.2.2.2.2.2.2.1 D = i ∧ x.2.2.2.2.2.2.2.2.1 D = 1
theorem r_goV1 {D : Nat} (P : gPv D 0 x) (hD : D < 14) : ∀ y o z, mM_goesOn (some 188) (gH y x o z) = some (1, gH y x o z) := by
  intro y o z
  obtain ⟨p1, p2, p3, p4⟩ := P
  rw [mM_goesOn, hi_188_18, Option.bind_some, p1, n_pred, hr_188_19, Option.bind_some, ha_201 hD, Option.bind_some, p2, if_pos (by decide), mM_goesOn_28, if_neg (by decide), hr_188_20, Option.bind_some, ha_202 hD, Option.bind_some, hr_188_21, Option.bind_some, ha_203 hD, Option.bind_some, p3, p4, if_neg (by decide), if_neg (by decide)]
theorem r_goV2 {D : Nat} (P : gPv D 1 x) (hD : D < 14) : ∀ y o z, mM_goesOn (some 188) (gH y x o z) = (mM_finish (some 188) (-1) (gH y x o z)).bind fun h => some (2, h) := by
  intro y o z
  obtain ⟨p1, p2, p3, p4⟩ := P
  rw [mM_goesOn, hi_188_18, Option.bind_some, p1, n_pred, hr_188_19, Option.bind_some, ha_201 hD, Option.bind_some, p2, if_pos (by decide), mM_goesOn_28, if_neg (by decide), hr_188_20, Option.bind_some, ha_202 hD, Option.bind_some, hr_188_21, Option.bind_some, ha_203 hD, Option.bind_some, p3, p4, if_pos rfl, ho_188, Option.bind_some]
theorem r_dlV {D : Nat} (P : gPv D 0 x) (hD : D < 14) : ∀ y o z, mM_deliver (some 188) (gH y x o z) = some (gH y ((x.1, x.2.1, x.2.2.1, x.2.2.2.1, x.2.2.2.2.1, x.2.2.2.2.2.1, x.2.2.2.2.2.2.1, gup x.2.2.2.2.2.2.2.1 D 1, x.2.2.2.2.2.2.2.2.1, x.2.2.2.2.2.2.2.2.2.1, x.2.2.2.2.2.2.2.2.2.2.1, x.2.2.2.2.2.2.2.2.2.2.2.1, x.2.2.2.2.2.2.2.2.2.2.2.2.1, x.2.2.2.2.2.2.2.2.2.2.2.2.2.1, x.2.2.2.2.2.2.2.2.2.2.2.2.2.2.1, x.2.2.2.2.2.2.2.2.2.2.2.2.2.2.2) : gX) o z) := by
  intro y o z
  obtain ⟨p1, p2, p3, p4⟩ := P
  rw [mM_deliver, hi_188_18, Option.bind_some, p1, n_pred, hr_188_19, Option.bind_some, ha_201 hD, Option.bind_some, p2, if_pos (by decide), mM_deliver_28, hr_188_20, Option.bind_some, ha_202 hD, Option.bind_some, Option.bind_some, ha_202 hD, Option.bind_some, hb_202 hD, Option.bind_some, if_neg (by decide), if_neg (by decide), if_neg (by decide), if_neg (by decide), mM_deliver_273, if_neg (by decide), p3]
  rfl
theorem r_97 {v : Int32} : ∃ x', x'.2.1 31 = 0 ∧ gXd N x x' ∧ ∀ y o z, mM_finish_97 (some 188) v (some 188) (gH y x o z) = some (gH y x' o z) := by
  have e31 : (((x.1, gup x.2.1 31 0, x.2.2.1, x.2.2.2.1, x.2.2.2.2.1, x.2.2.2.2.2.1, x.2.2.2.2.2.2.1, x.2.2.2.2.2.2.2.1, x.2.2.2.2.2.2.2.2.1, x.2.2.2.2.2.2.2.2.2.1, x.2.2.2.2.2.2.2.2.2.2.1, x.2.2.2.2.2.2.2.2.2.2.2.1, x.2.2.2.2.2.2.2.2.2.2.2.2.1, x.2.2.2.2.2.2.2.2.2.2.2.2.2.1, x.2.2.2.2.2.2.2.2.2.2.2.2.2.2.1, x.2.2.2.2.2.2.2.2.2.2.2.2.2.2.2) : gX) : gX).2.1 31 = 0 := rfl
  have f31 : (((x.1, gup (gup x.2.1 31 0) 31 0, x.2.2.1, x.2.2.2.1, x.2.2.2.2.1, x.2.2.2.2.2.1, x.2.2.2.2.2.2.1, x.2.2.2.2.2.2.2.1, x.2.2.2.2.2.2.2.2.1, x.2.2.2.2.2.2.2.2.2.1, x.2.2.2.2.2.2.2.2.2.2.1, x.2.2.2.2.2.2.2.2.2.2.2.1, x.2.2.2.2.2.2.2.2.2.2.2.2.1, x.2.2.2.2.2.2.2.2.2.2.2.2.2.1, x.2.2.2.2.2.2.2.2.2.2.2.2.2.2.1, x.2.2.2.2.2.2.2.2.2.2.2.2.2.2.2) : gX) : gX).2.1 31 = 0 := rfl
  refine ⟨((x.1, gup (gup (gup (gup x.2.1 31 0) 31 0) 35 6) 36 31, x.2.2.1, x.2.2.2.1, x.2.2.2.2.1, x.2.2.2.2.2.1, x.2.2.2.2.2.2.1, x.2.2.2.2.2.2.2.1, x.2.2.2.2.2.2.2.2.1, x.2.2.2.2.2.2.2.2.2.1, x.2.2.2.2.2.2.2.2.2.2.1, x.2.2.2.2.2.2.2.2.2.2.2.1, x.2.2.2.2.2.2.2.2.2.2.2.2.1, x.2.2.2.2.2.2.2.2.2.2.2.2.2.1, x.2.2.2.2.2.2.2.2.2.2.2.2.2.2.1, x.2.2.2.2.2.2.2.2.2.2.2.2.2.2.2) : gX), rfl, ⟨fun _ _ => rfl, fun i hi => ?_, rfl, rfl, rfl, rfl⟩, fun y o z => ?_⟩
  · show gup (gup (gup (gup x.2.1 31 0) 31 0) 35 6) 36 31 i = _
    rw [gup_ne (by omega), gup_ne (by omega), gup_ne (by omega), gup_ne (by omega)]
  · rw [mM_finish_97, mM_finish_98, if_neg (fun k => k (Or.inl rfl)), hp_188_31, Option.bind_some, ho_188, Option.bind_some, r_noD (x := ((x.1, gup x.2.1 31 0, x.2.2.1, x.2.2.2.1, x.2.2.2.2.1, x.2.2.2.2.2.1, x.2.2.2.2.2.2.1, x.2.2.2.2.2.2.2.1, x.2.2.2.2.2.2.2.2.1, x.2.2.2.2.2.2.2.2.2.1, x.2.2.2.2.2.2.2.2.2.2.1, x.2.2.2.2.2.2.2.2.2.2.2.1, x.2.2.2.2.2.2.2.2.2.2.2.2.1, x.2.2.2.2.2.2.2.2.2.2.2.2.2.1, x.2.2.2.2.2.2.2.2.2.2.2.2.2.2.1, x.2.2.2.2.2.2.2.2.2.2.2.2.2.2.2) : gX)) e31, Option.bind_some, hi_188_31, Option.bind_some, if_pos f31, mM_finish_147, ho_188, Option.bind_some, r_en0 (x := ((x.1, gup (gup x.2.1 31 0) 31 0, x.2.2.1, x.2.2.2.1, x.2.2.2.2.1, x.2.2.2.2.2.1, x.2.2.2.2.2.2.1, x.2.2.2.2.2.2.2.1, x.2.2.2.2.2.2.2.2.1, x.2.2.2.2.2.2.2.2.2.1, x.2.2.2.2.2.2.2.2.2.2.1, x.2.2.2.2.2.2.2.2.2.2.2.1, x.2.2.2.2.2.2.2.2.2.2.2.2.1, x.2.2.2.2.2.2.2.2.2.2.2.2.2.1, x.2.2.2.2.2.2.2.2.2.2.2.2.2.2.1, x.2.2.2.2.2.2.2.2.2.2.2.2.2.2.2) : gX)) f31, Option.bind_some, ho_188, Option.bind_some, r_got, Option.bind_some]
/-- what the reference holds against a view -/
def gNo (x : gX) (un fr co : Int32) : Prop := ¬ x.2.1 35 = 6 ∨ (x.2.1 35 = 6 ∧ ∃ k, k < 32 ∧ x.2.1 36 = Int32.ofNat k ∧ (¬ (x.1 k).2.2.2.2.1 = 4 ∨ ((x.1 k).2.2.2.2.1 = 4 ∧ mM_lies un fr co (x.1 k).2.2.2.2.2.1 = some 0)))
def gYes (x : gX) (un fr co : Int32) (k : Nat) : Prop := x.2.1 35 = 6 ∧ k < 32 ∧ x.2.1 36 = Int32.ofNat k ∧ (x.1 k).2.2.2.2.1 = 4 ∧ mM_lies un fr co (x.1 k).2.2.2.2.2.1 = some 1
theorem r_finTop {D : Nat} (h18 : x.2.1 18 = Int32.ofNat (D + 1)) (hg : x.2.1 31 = 1) : ∀ y o z, mM_finish (some 188) (-1) (gH y x o z) = (fun h2 => if x.2.1 35 = 6 then ((gv_gR h2 (some 188) 7 2).bind fun v9 => (gv_lI h2 v9 (x.2.1 36)).bind fun v10 => if v10 = (4 : Int32) then ((gv_gR h2 (some 188) 7 23).bind fun v12 => (gv_gI h2 (some 188) 7 18).bind fun v13 => (gv_lI h2 v12 v13).bind fun v14 => (gv_gR h2 (some 188) 7 24).bind fun v15 => (gv_gI h2 (some 188) 7 18).bind fun v16 => (gv_lI h2 v15 v16).bind fun v17 => (gv_gR h2 (some 188) 7 25).bind fun v18 => (gv_gI h2 (some 188) 7 18).bind fun v19 => (gv_lI h2 v18 v19).bind fun v20 => (gv_gR h2 (some 188) 7 3).bind fun v21 => (gv_lI h2 v21 (x.2.1 36)).bind fun v22 => (mM_lies v14 v17 v20 v22).bind fun v23 => if v23 = 0 then mM_finish_97 (some 188) (x.2.1 36) (some 188) h2 else mM_finish_98 (some 188) (x.2.1 36) (some 188) (1 : Int32) h2) else mM_finish_97 (some 188) (x.2.1 36) (some 188) h2) else mM_finish_97 (some 188) (x.2.1 36) (some 188) h2) (gH y ((x.1, gup x.2.1 18 (Int32.ofNat D), x.2.2.1, x.2.2.2.1, x.2.2.2.2.1, x.2.2.2.2.2.1, x.2.2.2.2.2.2.1, x.2.2.2.2.2.2.2.1, x.2.2.2.2.2.2.2.2.1, x.2.2.2.2.2.2.2.2.2.1, x.2.2.2.2.2.2.2.2.2.2.1, x.2.2.2.2.2.2.2.2.2.2.2.1, x.2.2.2.2.2.2.2.2.2.2.2.2.1, x.2.2.2.2.2.2.2.2.2.2.2.2.2.1, x.2.2.2.2.2.2.2.2.2.2.2.2.2.2.1, x.2.2.2.2.2.2.2.2.2.2.2.2.2.2.2) : gX) o z) := by
  intro y o z
  have g31 : ¬ gup x.2.1 18 (Int32.ofNat D) 31 = 0 := by rw [gup_ne (by omega), hg]; exact i_10
  have g35 : gup x.2.1 18 (Int32.ofNat D) 35 = x.2.1 35 := gup_ne (by omega)
  have g36 : gup x.2.1 18 (Int32.ofNat D) 36 = x.2.1 36 := gup_ne (by omega)
  rw [mM_finish, hi_188_18, Option.bind_some, h18, n_pred, hp_188_18, Option.bind_some, if_pos (by decide), hi_188_36, Option.bind_some, hi_188_31, Option.bind_some, if_neg g31, hi_188_35, Option.bind_some]
  show (if gup x.2.1 18 (Int32.ofNat D) 35 = 6 then _ else _) = _
  simp only [g35, g36]
theorem r_finC {D k : Nat} (h18 : x.2.1 18 = Int32.ofNat (D + 1)) (hg : x.2.1 31 = 1) (hD : D < 14) (h35 : x.2.1 35 = 6) (hk : k < 32) (h36 : x.2.1 36 = Int32.ofNat k) : ∀ y o z, mM_finish (some 188) (-1) (gH y x o z) = (fun h2 => if (x.1 k).2.2.2.2.1 = 4 then (mM_lies (x.2.2.2.2.2.2.2.2.2.2.1 D) (x.2.2.2.2.2.2.2.2.2.2.2.1 D) (x.2.2.2.2.2.2.2.2.2.2.2.2.1 D) (x.1 k).2.2.2.2.2.1).bind fun v23 => (if v23 = 0 then mM_finish_97 (some 188) (x.2.1 36) (some 188) h2 else mM_finish_98 (some 188) (x.2.1 36) (some 188) (1 : Int32) h2) else mM_finish_97 (some 188) (x.2.1 36) (some 188) h2) (gH y ((x.1, gup x.2.1 18 (Int32.ofNat D), x.2.2.1, x.2.2.2.1, x.2.2.2.2.1, x.2.2.2.2.2.1, x.2.2.2.2.2.2.1, x.2.2.2.2.2.2.2.1, x.2.2.2.2.2.2.2.2.1, x.2.2.2.2.2.2.2.2.2.1, x.2.2.2.2.2.2.2.2.2.2.1, x.2.2.2.2.2.2.2.2.2.2.2.1, x.2.2.2.2.2.2.2.2.2.2.2.2.1, x.2.2.2.2.2.2.2.2.2.2.2.2.2.1, x.2.2.2.2.2.2.2.2.2.2.2.2.2.2.1, x.2.2.2.2.2.2.2.2.2.2.2.2.2.2.2) : gX) o z) := by
  intro y o z
  have g18 : gup x.2.1 18 (Int32.ofNat D) 18 = Int32.ofNat D := gup_eq
  rw [r_finTop h18 hg]
  show (if x.2.1 35 = 6 then _ else _) = _
  rw [if_pos h35, h36]
  simp only [hr_188_2, Option.bind_some, ha_189 hk, hr_188_23, hr_188_24, hr_188_25, hi_188_18, g18, ha_205 hD, ha_206 hD, ha_207 hD, hr_188_3, ha_190 hk]
theorem r_finN {D : Nat} (h18 : x.2.1 18 = Int32.ofNat (D + 1)) (hg : x.2.1 31 = 1) (hD : D < 14) (no : gNo x (x.2.2.2.2.2.2.2.2.2.2.1 D) (x.2.2.2.2.2.2.2.2.2.2.2.1 D) (x.2.2.2.2.2.2.2.2.2.2.2.2.1 D)) : ∃ x', x'.2.1 31 = 0 ∧ gXd N x x' ∧ ∀ y o z, mM_finish (some 188) (-1) (gH y x o z) = some (gH y x' o z) := by
  obtain ⟨x', h1, h2, h3⟩ := r_97 (N := N) (x := ((x.1, gup x.2.1 18 (Int32.ofNat D), x.2.2.1, x.2.2.2.1, x.2.2.2.2.1, x.2.2.2.2.2.1, x.2.2.2.2.2.2.1, x.2.2.2.2.2.2.2.1, x.2.2.2.2.2.2.2.2.1, x.2.2.2.2.2.2.2.2.2.1, x.2.2.2.2.2.2.2.2.2.2.1, x.2.2.2.2.2.2.2.2.2.2.2.1, x.2.2.2.2.2.2.2.2.2.2.2.2.1, x.2.2.2.2.2.2.2.2.2.2.2.2.2.1, x.2.2.2.2.2.2.2.2.2.2.2.2.2.2.1, x.2.2.2.2.2.2.2.2.2.2.2.2.2.2.2) : gX)) (v := x.2.1 36)
  have h0 : gXd N x ((x.1, gup x.2.1 18 (Int32.ofNat D), x.2.2.1, x.2.2.2.1, x.2.2.2.2.1, x.2.2.2.2.2.1, x.2.2.2.2.2.2.1, x.2.2.2.2.2.2.2.1, x.2.2.2.2.2.2.2.2.1, x.2.2.2.2.2.2.2.2.2.1, x.2.2.2.2.2.2.2.2.2.2.1, x.2.2.2.2.2.2.2.2.2.2.2.1, x.2.2.2.2.2.2.2.2.2.2.2.2.1, x.2.2.2.2.2.2.2.2.2.2.2.2.2.1, x.2.2.2.2.2.2.2.2.2.2.2.2.2.2.1, x.2.2.2.2.2.2.2.2.2.2.2.2.2.2.2) : gX) := ⟨fun _ _ => rfl, fun i hi => gup_ne (by omega), rfl, rfl, rfl, rfl⟩
  refine ⟨x', h1, gXd_trans h0 h2 (Nat.le_refl _), fun y o z => ?_⟩
  rcases no with n1 | ⟨n1, k, n2, n3, n4⟩
  · rw [r_finTop h18 hg]
    exact (if_neg n1).trans (h3 y o z)
  · rw [r_finC h18 hg hD n1 n2 n3]
    show (if (x.1 k).2.2.2.2.1 = 4 then _ else _) = _
    rcases n4 with n4 | ⟨n4, n5⟩
    · rw [if_neg n4]
      exact h3 y o z
    · rw [if_pos n4, n5, Option.bind_some, if_pos rfl]
      exact h3 y o z
/-- the state with a view more -/
def xw (x : gX) (N f D k : Nat) : gX := ((gup x.1 N (gp_view (gp_new (x.1 N) 5) (Int32.ofNat k) (x.2.2.2.2.2.2.2.2.2.2.1 D) (x.2.2.2.2.2.2.2.2.2.2.2.1 D) (x.2.2.2.2.2.2.2.2.2.2.2.2.1 D)), gup (gup (gup (gup (gup x.2.1 18 (Int32.ofNat D)) 33 (Int32.ofNat (N + 1))) 29 (Int32.ofNat (N + 1 - f))) 35 6) 36 (Int32.ofNat N), x.2.2.1, x.2.2.2.1, x.2.2.2.2.1, x.2.2.2.2.2.1, x.2.2.2.2.2.2.1, x.2.2.2.2.2.2.2.1, x.2.2.2.2.2.2.2.2.1, x.2.2.2.2.2.2.2.2.2.1, x.2.2.2.2.2.2.2.2.2.2.1, x.2.2.2.2.2.2.2.2.2.2.2.1, x.2.2.2.2.2.2.2.2.2.2.2.2.1, x.2.2.2.2.2.2.2.2.2.2.2.2.2.1, x.2.2.2.2.2.2.2.2.2.2.2.2.2.2.1, gup x.2.2.2.2.2.2.2.2.2.2.2.2.2.2.2 (N - f) (Int32.ofNat N)) : gX)
def xq (x : gX) (N D k : Nat) : gX := ((gup x.1 N (gp_view (gp_new (x.1 N) 5) (Int32.ofNat k) (x.2.2.2.2.2.2.2.2.2.2.1 D) (x.2.2.2.2.2.2.2.2.2.2.2.1 D) (x.2.2.2.2.2.2.2.2.2.2.2.2.1 D)), gup x.2.1 33 (Int32.ofNat (N + 1)), x.2.2.1, x.2.2.2.1, x.2.2.2.2.1, x.2.2.2.2.2.1, x.2.2.2.2.2.2.1, x.2.2.2.2.2.2.2.1, x.2.2.2.2.2.2.2.2.1, x.2.2.2.2.2.2.2.2.2.1, x.2.2.2.2.2.2.2.2.2.2.1, x.2.2.2.2.2.2.2.2.2.2.2.1, x.2.2.2.2.2.2.2.2.2.2.2.2.1, x.2.2.2.2.2.2.2.2.2.2.2.2.2.1, x.2.2.2.2.2.2.2.2.2.2.2.2.2.2.1, x.2.2.2.2.2.2.2.2.2.2.2.2.2.2.2) : gX)
theorem r_147 (hg : x.2.1 31 = 1) (hb : x.2.1 29 = Int32.ofNat (N - f)) (hf : f ≤ N) (hN : N < 32) : ∀ y o z, mM_finish_147 (some 188) (Int32.ofNat N) (gH y x o z) = some (gH y ((x.1, gup (gup (gup x.2.1 29 (Int32.ofNat (N + 1 - f))) 35 6) 36 (Int32.ofNat N), x.2.2.1, x.2.2.2.1, x.2.2.2.2.1, x.2.2.2.2.2.1, x.2.2.2.2.2.2.1, x.2.2.2.2.2.2.2.1, x.2.2.2.2.2.2.2.2.1, x.2.2.2.2.2.2.2.2.2.1, x.2.2.2.2.2.2.2.2.2.2.1, x.2.2.2.2.2.2.2.2.2.2.2.1, x.2.2.2.2.2.2.2.2.2.2.2.2.1, x.2.2.2.2.2.2.2.2.2.2.2.2.2.1, x.2.2.2.2.2.2.2.2.2.2.2.2.2.2.1, gup x.2.2.2.2.2.2.2.2.2.2.2.2.2.2.2 (N - f) (Int32.ofNat N)) : gX) o z) := by
  intro y o z
  rw [mM_finish_147, ho_188, Option.bind_some, r_en hg hb hf hN, Option.bind_some, ho_188, Option.bind_some, r_got, Option.bind_some]
  rfl
theorem r_98a {D k : Nat} (h18 : x.2.1 18 = Int32.ofNat D) (hD : D < 14) (hN : N < 32) : ∀ y o z, ((gv_gR (gH y (xb x N 5) o z) (some 188) 7 23).bind fun v9 => (gv_gI (gH y (xb x N 5) o z) (some 188) 7 18).bind fun v10 => (gv_lI (gH y (xb x N 5) o z) v9 v10).bind fun v11 => (gv_gR (gH y (xb x N 5) o z) (some 188) 7 24).bind fun v12 => (gv_gI (gH y (xb x N 5) o z) (some 188) 7 18).bind fun v13 => (gv_lI (gH y (xb x N 5) o z) v12 v13).bind fun v14 => (gv_gR (gH y (xb x N 5) o z) (some 188) 7 25).bind fun v15 => (gv_gI (gH y (xb x N 5) o z) (some 188) 7 18).bind fun v16 => (gv_lI (gH y (xb x N 5) o z) v15 v16).bind fun v17 => (gv_is (gH y (xb x N 5) o z) (some 188) 7).bind fun _ => (mM_setView (some 188) (Int32.ofNat N) (Int32.ofNat k) v11 v14 v17 (gH y (xb x N 5) o z)).bind fun h20 => mM_finish_147 (some 188) (Int32.ofNat N) h20) = mM_finish_147 (some 188) (Int32.ofNat N) (gH y (xq x N D k) o z) := by
  intro y o z
  have g18 : (xb x N 5).2.1 18 = Int32.ofNat D := h18
  have eR : (xb x N 5).1 N = gp_new (x.1 N) 5 := gup_eq
  have eRR : ∀ v, gup (xb x N 5).1 N v = gup x.1 N v := fun v => gup_gup
  simp only [hr_188_23, Option.bind_some, hi_188_18, g18, ha_205 hD, hr_188_24, ha_206 hD, hr_188_25, ha_207 hD, ho_188, r_setView hN, eR, eRR]
  rfl
theorem r_98 {D k : Nat} (G : gD n0 f q m N pos u x) (hN : N < 32) (h18 : x.2.1 18 = Int32.ofNat D) (hD : D < 14) : ∀ y o z, mM_finish_98 (some 188) (Int32.ofNat k) (some 188) 1 (gH y x o z) = some (gH y ((gup x.1 N (gp_view (gp_new (x.1 N) 5) (Int32.ofNat k) (x.2.2.2.2.2.2.2.2.2.2.1 D) (x.2.2.2.2.2.2.2.2.2.2.2.1 D) (x.2.2.2.2.2.2.2.2.2.2.2.2.1 D)), gup (gup (gup (gup x.2.1 33 (Int32.ofNat (N + 1))) 29 (Int32.ofNat (N + 1 - f))) 35 6) 36 (Int32.ofNat N), x.2.2.1, x.2.2.2.1, x.2.2.2.2.1, x.2.2.2.2.2.1, x.2.2.2.2.2.2.1, x.2.2.2.2.2.2.2.1, x.2.2.2.2.2.2.2.2.1, x.2.2.2.2.2.2.2.2.2.1, x.2.2.2.2.2.2.2.2.2.2.1, x.2.2.2.2.2.2.2.2.2.2.2.1, x.2.2.2.2.2.2.2.2.2.2.2.2.1, x.2.2.2.2.2.2.2.2.2.2.2.2.2.1, x.2.2.2.2.2.2.2.2.2.2.2.2.2.2.1, gup x.2.2.2.2.2.2.2.2.2.2.2.2.2.2.2 (N - f) (Int32.ofNat N)) : gX) o z) := by
  intro y o z
  have g31 : ¬ (xb x N 5).2.1 31 = 0 := by
    show ¬ gup x.2.1 33 (Int32.ofNat (N + 1)) 31 = 0
    rw [gup_ne (by omega), G.gg]; exact i_10
  have s31 : (((x.1, gup x.2.1 31 1, x.2.2.1, x.2.2.2.1, x.2.2.2.2.1, x.2.2.2.2.2.1, x.2.2.2.2.2.2.1, x.2.2.2.2.2.2.2.1, x.2.2.2.2.2.2.2.2.1, x.2.2.2.2.2.2.2.2.2.1, x.2.2.2.2.2.2.2.2.2.2.1, x.2.2.2.2.2.2.2.2.2.2.2.1, x.2.2.2.2.2.2.2.2.2.2.2.2.1, x.2.2.2.2.2.2.2.2.2.2.2.2.2.1, x.2.2.2.2.2.2.2.2.2.2.2.2.2.2.1, x.2.2.2.2.2.2.2.2.2.2.2.2.2.2.2) : gX) : gX) = x := by rw [gup_same G.gg]
  have hx : gv_pV (gH y x o z) (some 188) 7 31 (.int 1) = some (gH y x o z) := by
    rw [hp_188_31]
    exact congrArg (fun w => some (gH y w o z)) s31
  have e1 : (xq x N D k).2.1 31 = 1 := by
    show gup x.2.1 33 (Int32.ofNat (N + 1)) 31 = 1
    rw [gup_ne (by omega), G.gg]
  have e2 : (xq x N D k).2.1 29 = Int32.ofNat (N - f) := by
    show gup x.2.1 33 (Int32.ofNat (N + 1)) 29 = _
    rw [gup_ne (by omega), G.be]
  rw [mM_finish_98, if_neg (fun k => k (Or.inr rfl)), hx, Option.bind_some, ho_188, Option.bind_some, r_no1 G hN, Option.bind_some, hi_188_31, Option.bind_some, if_neg g31]
  refine (r_98a h18 hD hN y o z).trans ?_
  exact r_147 e1 e2 G.fN hN y o z
theorem r_980 {k : Int32} (G : gD n0 f q m 32 pos u x) : ∃ x', x'.2.1 31 = 0 ∧ gXd 32 x x' ∧ ∀ y o z, mM_finish_98 (some 188) k (some 188) 1 (gH y x o z) = some (gH y x' o z) := by
  have e31 : (((x.1, gup x.2.1 31 0, x.2.2.1, x.2.2.2.1, x.2.2.2.2.1, x.2.2.2.2.2.1, x.2.2.2.2.2.2.1, x.2.2.2.2.2.2.2.1, x.2.2.2.2.2.2.2.2.1, x.2.2.2.2.2.2.2.2.2.1, x.2.2.2.2.2.2.2.2.2.2.1, x.2.2.2.2.2.2.2.2.2.2.2.1, x.2.2.2.2.2.2.2.2.2.2.2.2.1, x.2.2.2.2.2.2.2.2.2.2.2.2.2.1, x.2.2.2.2.2.2.2.2.2.2.2.2.2.2.1, x.2.2.2.2.2.2.2.2.2.2.2.2.2.2.2) : gX) : gX).2.1 31 = 0 := rfl
  have s31 : (((x.1, gup x.2.1 31 1, x.2.2.1, x.2.2.2.1, x.2.2.2.2.1, x.2.2.2.2.2.1, x.2.2.2.2.2.2.1, x.2.2.2.2.2.2.2.1, x.2.2.2.2.2.2.2.2.1, x.2.2.2.2.2.2.2.2.2.1, x.2.2.2.2.2.2.2.2.2.2.1, x.2.2.2.2.2.2.2.2.2.2.2.1, x.2.2.2.2.2.2.2.2.2.2.2.2.1, x.2.2.2.2.2.2.2.2.2.2.2.2.2.1, x.2.2.2.2.2.2.2.2.2.2.2.2.2.2.1, x.2.2.2.2.2.2.2.2.2.2.2.2.2.2.2) : gX) : gX) = x := by rw [gup_same G.gg]
  refine ⟨((x.1, gup (gup (gup x.2.1 31 0) 35 6) 36 31, x.2.2.1, x.2.2.2.1, x.2.2.2.2.1, x.2.2.2.2.2.1, x.2.2.2.2.2.2.1, x.2.2.2.2.2.2.2.1, x.2.2.2.2.2.2.2.2.1, x.2.2.2.2.2.2.2.2.2.1, x.2.2.2.2.2.2.2.2.2.2.1, x.2.2.2.2.2.2.2.2.2.2.2.1, x.2.2.2.2.2.2.2.2.2.2.2.2.1, x.2.2.2.2.2.2.2.2.2.2.2.2.2.1, x.2.2.2.2.2.2.2.2.2.2.2.2.2.2.1, x.2.2.2.2.2.2.2.2.2.2.2.2.2.2.2) : gX), rfl, ⟨fun _ _ => rfl, fun i hi => ?_, rfl, rfl, rfl, rfl⟩, fun y o z => ?_⟩
  · show gup (gup (gup x.2.1 31 0) 35 6) 36 31 i = _
    rw [gup_ne (by omega), gup_ne (by omega), gup_ne (by omega)]
  · have hx : gv_pV (gH y x o z) (some 188) 7 31 (.int 1) = some (gH y x o z) := by
      rw [hp_188_31]
      exact congrArg (fun w => some (gH y w o z)) s31
    rw [mM_finish_98, if_neg (fun k => k (Or.inr rfl)), hx, Option.bind_some, ho_188, Option.bind_some, r_no0 G, Option.bind_some, hi_188_31, Option.bind_some, if_pos e31, mM_finish_147, ho_188, Option.bind_some, r_en0 (x := ((x.1, gup x.2.1 31 0, x.2.2.1, x.2.2.2.1, x.2.2.2.2.1, x.2.2.2.2.2.1, x.2.2.2.2.2.2.1, x.2.2.2.2.2.2.2.1, x.2.2.2.2.2.2.2.2.1, x.2.2.2.2.2.2.2.2.2.1, x.2.2.2.2.2.2.2.2.2.2.1, x.2.2.2.2.2.2.2.2.2.2.2.1, x.2.2.2.2.2.2.2.2.2.2.2.2.1, x.2.2.2.2.2.2.2.2.2.2.2.2.2.1, x.2.2.2.2.2.2.2.2.2.2.2.2.2.2.1, x.2.2.2.2.2.2.2.2.2.2.2.2.2.2.2) : gX)) e31, Option.bind_some, ho_188, Option.bind_some, r_got, Option.bind_some]
theorem r_finY {D k : Nat} (G : gD n0 f q m N pos u x) (hN : N < 32) (h18 : x.2.1 18 = Int32.ofNat (D + 1)) (hD : D < 14) (yes : gYes x (x.2.2.2.2.2.2.2.2.2.2.1 D) (x.2.2.2.2.2.2.2.2.2.2.2.1 D) (x.2.2.2.2.2.2.2.2.2.2.2.2.1 D) k) : ∀ y o z, mM_finish (some 188) (-1) (gH y x o z) = some (gH y (xw x N f D k) o z) := by
  intro y o z
  obtain ⟨n1, n2, n3, n4, n5⟩ := yes
  have G5 : gD n0 f q m N pos u ((x.1, gup x.2.1 18 (Int32.ofNat D), x.2.2.1, x.2.2.2.1, x.2.2.2.2.1, x.2.2.2.2.2.1, x.2.2.2.2.2.2.1, x.2.2.2.2.2.2.2.1, x.2.2.2.2.2.2.2.2.1, x.2.2.2.2.2.2.2.2.2.1, x.2.2.2.2.2.2.2.2.2.2.1, x.2.2.2.2.2.2.2.2.2.2.2.1, x.2.2.2.2.2.2.2.2.2.2.2.2.1, x.2.2.2.2.2.2.2.2.2.2.2.2.2.1, x.2.2.2.2.2.2.2.2.2.2.2.2.2.2.1, x.2.2.2.2.2.2.2.2.2.2.2.2.2.2.2) : gX) := gD_x G rfl rfl rfl rfl (fun _ _ _ => rfl) rfl (fun i a _ _ => gup_ne a) rfl rfl
  rw [r_finC h18 G.gg hD n1 n2 n3]
  show (if (x.1 k).2.2.2.2.1 = 4 then _ else _) = _
  rw [if_pos n4, n5, Option.bind_some, if_neg i_10, n3]
  exact r_98 G5 hN rfl hD y o z
theorem r_finY0 {D k : Nat} (G : gD n0 f q m 32 pos u x) (h18 : x.2.1 18 = Int32.ofNat (D + 1)) (hD : D < 14) (yes : gYes x (x.2.2.2.2.2.2.2.2.2.2.1 D) (x.2.2.2.2.2.2.2.2.2.2.2.1 D) (x.2.2.2.2.2.2.2.2.2.2.2.2.1 D) k) : ∃ x', x'.2.1 31 = 0 ∧ gXd 32 x x' ∧ ∀ y o z, mM_finish (some 188) (-1) (gH y x o z) = some (gH y x' o z) := by
  obtain ⟨n1, n2, n3, n4, n5⟩ := yes
  have G5 : gD n0 f q m 32 pos u ((x.1, gup x.2.1 18 (Int32.ofNat D), x.2.2.1, x.2.2.2.1, x.2.2.2.2.1, x.2.2.2.2.2.1, x.2.2.2.2.2.2.1, x.2.2.2.2.2.2.2.1, x.2.2.2.2.2.2.2.2.1, x.2.2.2.2.2.2.2.2.2.1, x.2.2.2.2.2.2.2.2.2.2.1, x.2.2.2.2.2.2.2.2.2.2.2.1, x.2.2.2.2.2.2.2.2.2.2.2.2.1, x.2.2.2.2.2.2.2.2.2.2.2.2.2.1, x.2.2.2.2.2.2.2.2.2.2.2.2.2.2.1, x.2.2.2.2.2.2.2.2.2.2.2.2.2.2.2) : gX) := gD_x G rfl rfl rfl rfl (fun _ _ _ => rfl) rfl (fun i a _ _ => gup_ne a) rfl rfl
  obtain ⟨x', h1, h2, h3⟩ := r_980 (k := Int32.ofNat k) G5
  have h0 : gXd 32 x ((x.1, gup x.2.1 18 (Int32.ofNat D), x.2.2.1, x.2.2.2.1, x.2.2.2.2.1, x.2.2.2.2.2.1, x.2.2.2.2.2.2.1, x.2.2.2.2.2.2.2.1, x.2.2.2.2.2.2.2.2.1, x.2.2.2.2.2.2.2.2.2.1, x.2.2.2.2.2.2.2.2.2.2.1, x.2.2.2.2.2.2.2.2.2.2.2.1, x.2.2.2.2.2.2.2.2.2.2.2.2.1, x.2.2.2.2.2.2.2.2.2.2.2.2.2.1, x.2.2.2.2.2.2.2.2.2.2.2.2.2.2.1, x.2.2.2.2.2.2.2.2.2.2.2.2.2.2.2) : gX) := ⟨fun _ _ => rfl, fun i hi => gup_ne (by omega), rfl, rfl, rfl, rfl⟩
  refine ⟨x', h1, gXd_trans h0 h2 (Nat.le_refl _), fun y o z => ?_⟩
  rw [r_finC h18 G.gg hD n1 n2 n3]
  show (if (x.1 k).2.2.2.2.1 = 4 then _ else _) = _
  rw [if_pos n4, n5, Option.bind_some, if_neg i_10, n3]
  exact h3 y o z
/-- the class's side -/
theorem k_cvI {k : Nat} {un fr co : Int32} {y y' : gX} {o o' : Nat → Int64} {z z' : gx_H} (hk : k < 32) : cT_canBeViewed (some (3 + 5 * k)) un fr co (gH u y o z) = cT_canBeViewed (some (3 + 5 * k)) un fr co (gH u y' o' z') := by
  simp only [cT_canBeViewed, cT_canBeViewed_34, hiT_4 hk, hiT_5 hk, hiT_6 hk, Option.bind_some]
def uw (u : gU) (N k : Nat) (un fr co : Int32) : gU := ((gup u.1 N (gq_view (gq_new (u.1 N) 5) (Int32.ofNat k) un fr co), u.2.1, gup u.2.2.1 1 (Int32.ofNat (N + 1)), u.2.2.2.1, u.2.2.2.2.1, u.2.2.2.2.2.1, u.2.2.2.2.2.2.1, u.2.2.2.2.2.2.2.1, u.2.2.2.2.2.2.2.2.1, u.2.2.2.2.2.2.2.2.2.1, u.2.2.2.2.2.2.2.2.2.2.1, u.2.2.2.2.2.2.2.2.2.2.2.1, gup (gup u.2.2.2.2.2.2.2.2.2.2.2.2.1 2 6) 3 (Int32.ofNat N), u.2.2.2.2.2.2.2.2.2.2.2.2.2.1, u.2.2.2.2.2.2.2.2.2.2.2.2.2.2) : gU)
theorem k_cvr {un fr co : Int32} (G : gD n0 f q m N pos u x) (V : gV1 n0 N (u.2.2.2.2.2.2.2.2.2.2.2.2.1 2) (u.2.2.2.2.2.2.2.2.2.2.2.2.1 3)) (e35 : x.2.1 35 = u.2.2.2.2.2.2.2.2.2.2.2.2.1 2) (e36 : x.2.1 36 = u.2.2.2.2.2.2.2.2.2.2.2.2.1 3) : ((∀ y o z, cvr un fr co (gH u y o z) = some (gH ((u.1, u.2.1, u.2.2.1, u.2.2.2.1, u.2.2.2.2.1, u.2.2.2.2.2.1, u.2.2.2.2.2.2.1, u.2.2.2.2.2.2.2.1, u.2.2.2.2.2.2.2.2.1, u.2.2.2.2.2.2.2.2.2.1, u.2.2.2.2.2.2.2.2.2.2.1, u.2.2.2.2.2.2.2.2.2.2.2.1, gup u.2.2.2.2.2.2.2.2.2.2.2.2.1 1 1, u.2.2.2.2.2.2.2.2.2.2.2.2.2.1, u.2.2.2.2.2.2.2.2.2.2.2.2.2.2) : gU) y o z)) ∧ (gNo x un fr co ∨ (N = 32 ∧ ∃ k, gYes x un fr co k))) ∨ (N < 32 ∧ ∃ k a b, k < N ∧ gYes x un fr co k ∧ (un = 1 ∨ un = 2 ∨ un = 4) ∧ a ≤ 8 ∧ b ≤ 8 ∧ fr = Int32.ofNat a ∧ co = Int32.ofNat b ∧ ∀ y o z, cvr un fr co (gH u y o z) = some (gH (uw u N k un fr co) y o z)) := by
  have hN := G.hN
  obtain ⟨j, v1, v2, v3, v4⟩ := V
  by_cases c6 : u.2.2.2.2.2.2.2.2.2.2.2.2.1 2 = 6
  · have j6 : j = 6 := by
      rw [v2] at c6
      exact (n_eq (m := 6) (show j < 2 ^ 31 by omega) (by omega)).mp c6
    obtain ⟨k, b1, b2, b3⟩ := v4 j6
    obtain ⟨s, c, O⟩ := G.ob k b2
    have hk : k < 32 := by omega
    have f6 := G.nd k b1 b2
    obtain ⟨_, _, _, _, _, _, _, e4, _⟩ := n_s6 s O.s8
    obtain ⟨r, r1, r2, r3, r4, r5⟩ := cv_ob (u := u) (x := x) (o := fun _ => 0) (z := []) (un := un) (fr := fr) (co := co) hk O
    have r2' : ∀ y o z, cT_canBeViewed (some (3 + 5 * k)) un fr co (gH u y o z) = some r := fun y o z => (k_cvI hk).trans r2
    have top : ∀ y o z, cvr un fr co (gH u y o z) = if r = 0 then ((gv_pV (gH u y o z) (some 187) 6 1 (.int (1 : Int32))).bind fun h28 => some h28) else (cR_beginThing (some 187) (some 1) (5 : Int32) (gH u y o z)).bind fun r32 => if r32.1 = none then some r32.2 else (gv_is r32.2 r32.1 2).bind fun _ => (cT_lookAt r32.1 (Int32.ofNat k) un fr co r32.2).bind fun h36 => (gv_gI h36 (some 1) 1 1).bind fun v37 => (gv_is h36 (some 187) 6).bind fun _ => (cR_settle (some 187) (6 : Int32) (v37 - (1 : Int32)) h36).bind fun h40 => some h40 := by
      intro y o z
      rw [cvr, hi_187_1, Option.bind_some, if_pos (show u.2.2.2.2.2.2.2.2.2.2.2.2.1 1 = 0 from G.wr), hi_187_3, Option.bind_some, ho_1, Option.bind_some, b3, k_tin G.un hN b2, Option.bind_some, hi_187_2, Option.bind_some, if_pos (show u.2.2.2.2.2.2.2.2.2.2.2.2.1 2 = 6 from c6), if_neg (by simp), ho_T hk, Option.bind_some, r2', Option.bind_some, ho_187, Option.bind_some]
    rcases r1 with h0 | h1
    · refine Or.inl ⟨fun y o z => ?_, Or.inl (Or.inr ⟨e35.trans c6, k, hk, e36.trans b3, ?_⟩)⟩
      · rw [top, if_pos h0, hp_187_1, Option.bind_some]
      · by_cases c4 : s = 4
        · exact Or.inr ⟨by rw [O.et]; exact e4.mpr c4, by rw [r4 c4 f6, h0]⟩
        · exact Or.inl (by rw [O.et]; exact fun h => c4 (e4.mp h))
    · obtain ⟨c4, _, hun, a, b, ha, hb, efr, eco⟩ := r3 h1
      have yes : gYes x un fr co k := ⟨e35.trans c6, hk, e36.trans b3, by rw [O.et]; exact e4.mpr c4, by rw [r4 c4 f6, h1]⟩
      by_cases c32 : N < 32
      · refine Or.inr ⟨c32, k, a, b, b2, yes, hun, ha, hb, efr, eco, fun y o z => ?_⟩
        have eC : (ub u N 5).1 N = gq_new (u.1 N) 5 := gup_eq
        have eCC : ∀ v, gup (ub u N 5).1 N v = gup u.1 N v := fun v => gup_gup
        have e1 : (((gup u.1 N (gq_view (gq_new (u.1 N) 5) (Int32.ofNat k) un fr co), (ub u N 5).2.1, (ub u N 5).2.2.1, (ub u N 5).2.2.2.1, (ub u N 5).2.2.2.2.1, (ub u N 5).2.2.2.2.2.1, (ub u N 5).2.2.2.2.2.2.1, (ub u N 5).2.2.2.2.2.2.2.1, (ub u N 5).2.2.2.2.2.2.2.2.1, (ub u N 5).2.2.2.2.2.2.2.2.2.1, (ub u N 5).2.2.2.2.2.2.2.2.2.2.1, (ub u N 5).2.2.2.2.2.2.2.2.2.2.2.1, (ub u N 5).2.2.2.2.2.2.2.2.2.2.2.2.1, (ub u N 5).2.2.2.2.2.2.2.2.2.2.2.2.2.1, (ub u N 5).2.2.2.2.2.2.2.2.2.2.2.2.2.2) : gU) : gU).2.2.1 1 = Int32.ofNat (N + 1) := rfl
        rw [top, if_neg (by rw [h1]; exact i_10), k_bt G c32, Option.bind_some, if_neg (by simp), ho_T c32, Option.bind_some, k_lookAt c32, Option.bind_some, eC, eCC, hi_1_1, Option.bind_some, ho_187, Option.bind_some, e1, n_pred, k_settle, Option.bind_some]
        rfl
      · obtain rfl : N = 32 := by omega
        refine Or.inl ⟨fun y o z => ?_, Or.inr ⟨rfl, k, yes⟩⟩
        rw [top, if_neg (by rw [h1]; exact i_10), k_bt0 G, Option.bind_some, if_pos rfl]
  · refine Or.inl ⟨fun y o z => ?_, Or.inl (Or.inl (by rw [e35]; exact c6))⟩
    have th : ∃ w, cS_thingAt (some 1) (u.2.2.2.2.2.2.2.2.2.2.2.2.1 3) (gH u y o z) = some w := by
      rcases g_ob (u.2.2.2.2.2.2.2.2.2.2.2.2.1 3) N (by omega) with c | ⟨k, hk, e⟩
      · exact ⟨_, k_tout G.un c⟩
      · rw [e]; exact ⟨_, k_tin G.un hN hk⟩
    obtain ⟨w, hw⟩ := th
    rw [cvr, hi_187_1, Option.bind_some, if_pos (show u.2.2.2.2.2.2.2.2.2.2.2.2.1 1 = 0 from G.wr), hi_187_3, Option.bind_some, ho_1, Option.bind_some, hw, Option.bind_some, hi_187_2, Option.bind_some, if_neg (show ¬ u.2.2.2.2.2.2.2.2.2.2.2.2.1 2 = 6 from c6), hp_187_1, Option.bind_some]
end H
end
section
/-! read: a view, both sides -/
section H
variable {n0 f q m N pos : Nat} {u : gU} {x : gX} {W : gWr}
theorem gXf_v {D p : Nat} {a b c : Int32} : gXf N D x (xv x D p a b c) :=
  ⟨⟨fun _ _ => rfl, fun j hj => gup_ne (by omega), rfl, rfl, rfl, rfl⟩, fun j hj => ⟨rfl, rfl, rfl⟩, fun _ _ => rfl, fun j hj => ⟨gup_ne (by omega), gup_ne (by omega), gup_ne (by omega)⟩⟩
theorem gD_v {D p : Nat} {a b c : Int32} (G : gD n0 f q m N pos u x) (h : p ≤ m) : gD n0 f q m N p (su u p) (xv x D p a b c) :=
  gD_x (gD_s G h) rfl rfl rfl rfl (fun _ _ _ => rfl) rfl (fun _ _ _ _ => rfl) rfl rfl
theorem gPv_p {D : Nat} : gPv D 0 (xp x D (-1) 1) := by
  refine ⟨?_, ?_, ?_, ?_⟩
  · show gup x.2.1 18 (Int32.ofNat (D + 1)) 18 = _
    exact gup_eq
  · show gup x.2.2.2.2.2.2.1 D (-1) D = _
    exact gup_eq
  · show gup x.2.2.2.2.2.2.2.1 D 0 D = _
    exact gup_eq
  · show gup x.2.2.2.2.2.2.2.2.1 D 1 D = _
    exact gup_eq
/-- a view more on both sides -/
theorem gD_w {D k a b : Nat} {un fr co : Int32} (G : gD n0 f q m N pos u x) (hN : N < 32) (hk : k < N) (hun : un = 1 ∨ un = 2 ∨ un = 4) (ha : a ≤ 8) (hb : b ≤ 8) (efr : fr = Int32.ofNat a) (eco : co = Int32.ofNat b) (e5 : x.2.2.2.2.2.2.2.2.2.2.1 D = un) (e6 : x.2.2.2.2.2.2.2.2.2.2.2.1 D = fr) (e7 : x.2.2.2.2.2.2.2.2.2.2.2.2.1 D = co) : gD n0 f q m (N + 1) pos (uw u N k un fr co) (xw x N f D k) := by
  subst efr eco
  have ho : ∃ s c, gO (N + 1) s c (gq_view (gq_new (u.1 N) 5) (Int32.ofNat k) un (Int32.ofNat a) (Int32.ofNat b)) (gp_view (gp_new (x.1 N) 5) (Int32.ofNat k) (x.2.2.2.2.2.2.2.2.2.2.1 D) (x.2.2.2.2.2.2.2.2.2.2.2.1 D) (x.2.2.2.2.2.2.2.2.2.2.2.2.1 D)) := by
    rw [e5, e6, e7]
    exact ⟨5, b, gO_view (by omega) ha hb hun⟩
  have h1 : gup u.2.2.1 1 (Int32.ofNat (N + 1)) 1 = Int32.ofNat (N + 1) := gup_eq
  have s33 : gup (gup x.2.1 33 (Int32.ofNat (N + 1))) 29 (Int32.ofNat (N + 1 - f)) 33 = Int32.ofNat (N + 1) := by rw [gup_ne (by omega), gup_eq]
  have s29 : gup (gup x.2.1 33 (Int32.ofNat (N + 1))) 29 (Int32.ofNat (N + 1 - f)) 29 = Int32.ofNat (N + 1 - f) := gup_eq
  have sk : ∀ i, ¬ i = 33 → ¬ i = 29 → gup (gup x.2.1 33 (Int32.ofNat (N + 1))) 29 (Int32.ofNat (N + 1 - f)) i = x.2.1 i := fun i a b => by rw [gup_ne b, gup_ne a]
  have K := gD_new G hN ho rfl h1 s33 s29 sk rfl
  refine gD_x K rfl rfl rfl rfl (fun i a b => ?_) rfl (fun i a b c => ?_) rfl rfl
  · show gup (gup u.2.2.2.2.2.2.2.2.2.2.2.2.1 2 6) 3 (Int32.ofNat N) i = u.2.2.2.2.2.2.2.2.2.2.2.2.1 i
    rw [gup_ne b, gup_ne a]
  · show gup (gup (gup (gup (gup x.2.1 18 (Int32.ofNat D)) 33 (Int32.ofNat (N + 1))) 29 (Int32.ofNat (N + 1 - f))) 35 6) 36 (Int32.ofNat N) i = gup (gup x.2.1 33 (Int32.ofNat (N + 1))) 29 (Int32.ofNat (N + 1 - f)) i
    rw [gup_ne c, gup_ne b]
    by_cases c1 : i = 29
    · subst c1; rw [gup_eq, gup_eq]
    · rw [gup_ne c1, gup_ne c1]
      by_cases c2 : i = 33
      · subst c2; rw [gup_eq, gup_eq]
      · rw [gup_ne c2, gup_ne c2, gup_ne a]
theorem gXf_w {D k N2 : Nat} (h : N ≤ N2) : gXf N D x (xw x N2 f D k) := by
  refine ⟨⟨fun j hj => gup_ne (by omega), fun j hj => ?_, rfl, rfl, rfl, rfl⟩, fun _ _ => ⟨rfl, rfl, rfl⟩, fun _ _ => rfl, fun _ _ => ⟨rfl, rfl, rfl⟩⟩
  show gup (gup (gup (gup (gup x.2.1 18 (Int32.ofNat D)) 33 (Int32.ofNat (N2 + 1))) 29 (Int32.ofNat (N2 + 1 - f))) 35 6) 36 (Int32.ofNat N2) j = _
  rw [gup_ne (by omega), gup_ne (by omega), gup_ne (by omega), gup_ne (by omega), gup_ne (by omega)]
/-- behind the viewed value, where the reference goes on -/
theorem rd_viewEnd {D B N1 : Nat} {x0 x2 : gX} {u0 : gU} {un fr co : Int32} {F : gx_H → Option gx_H} (hD : D < 14) (n1 : N ≤ N1) (to : gTo B 1 1 x0 x2) (G : gD n0 f q m N1 pos u x) {B2 : Nat} (rt : gRT B2 1 x2 x) (P : gPv D 0 x) (e5 : x.2.2.2.2.2.2.2.2.2.2.1 D = un) (e6 : x.2.2.2.2.2.2.2.2.2.2.2.1 D = fr) (e7 : x.2.2.2.2.2.2.2.2.2.2.2.2.1 D = co) (fx : gXf N D x0 x) (fu : gUf N u0 u) (V : gV1 n0 N1 (u.2.2.2.2.2.2.2.2.2.2.2.2.1 2) (u.2.2.2.2.2.2.2.2.2.2.2.2.1 3)) (e35 : x.2.1 35 = u.2.2.2.2.2.2.2.2.2.2.2.2.1 2) (e36 : x.2.1 36 = u.2.2.2.2.2.2.2.2.2.2.2.2.1 3) (hF : ∀ y o z, F (gH u0 y o z) = cvr un fr co (gH u y o z)) : gVal n0 f q m D (B + B2 + 2) N 1 u0 x0 F := by
  have t4 : gTo B2 1 0 x2 ((x.1, x.2.1, x.2.2.1, x.2.2.2.1, x.2.2.2.2.1, x.2.2.2.2.2.1, x.2.2.2.2.2.2.1, gup x.2.2.2.2.2.2.2.1 D 1, x.2.2.2.2.2.2.2.2.1, x.2.2.2.2.2.2.2.2.2.1, x.2.2.2.2.2.2.2.2.2.2.1, x.2.2.2.2.2.2.2.2.2.2.2.1, x.2.2.2.2.2.2.2.2.2.2.2.2.1, x.2.2.2.2.2.2.2.2.2.2.2.2.2.1, x.2.2.2.2.2.2.2.2.2.2.2.2.2.2.1, x.2.2.2.2.2.2.2.2.2.2.2.2.2.2.2) : gX) := gRT_dl rt G.gg P.1 hD (r_dlV P hD)
  have t5 := gTo_trans to t4
  have P4 : gPv D 1 ((x.1, x.2.1, x.2.2.1, x.2.2.2.1, x.2.2.2.2.1, x.2.2.2.2.2.1, x.2.2.2.2.2.2.1, gup x.2.2.2.2.2.2.2.1 D 1, x.2.2.2.2.2.2.2.2.1, x.2.2.2.2.2.2.2.2.2.1, x.2.2.2.2.2.2.2.2.2.2.1, x.2.2.2.2.2.2.2.2.2.2.2.1, x.2.2.2.2.2.2.2.2.2.2.2.2.1, x.2.2.2.2.2.2.2.2.2.2.2.2.2.1, x.2.2.2.2.2.2.2.2.2.2.2.2.2.2.1, x.2.2.2.2.2.2.2.2.2.2.2.2.2.2.2) : gX) := ⟨P.1, P.2.1, gup_eq, P.2.2.2⟩
  have G4 : gD n0 f q m N1 pos u ((x.1, x.2.1, x.2.2.1, x.2.2.2.1, x.2.2.2.2.1, x.2.2.2.2.2.1, x.2.2.2.2.2.2.1, gup x.2.2.2.2.2.2.2.1 D 1, x.2.2.2.2.2.2.2.2.1, x.2.2.2.2.2.2.2.2.2.1, x.2.2.2.2.2.2.2.2.2.2.1, x.2.2.2.2.2.2.2.2.2.2.2.1, x.2.2.2.2.2.2.2.2.2.2.2.2.1, x.2.2.2.2.2.2.2.2.2.2.2.2.2.1, x.2.2.2.2.2.2.2.2.2.2.2.2.2.2.1, x.2.2.2.2.2.2.2.2.2.2.2.2.2.2.2) : gX) := gD_x G rfl rfl rfl rfl (fun _ _ _ => rfl) rfl (fun _ _ _ _ => rfl) rfl rfl
  have f4 : gXf N D x0 ((x.1, x.2.1, x.2.2.1, x.2.2.2.1, x.2.2.2.2.1, x.2.2.2.2.2.1, x.2.2.2.2.2.2.1, gup x.2.2.2.2.2.2.2.1 D 1, x.2.2.2.2.2.2.2.2.1, x.2.2.2.2.2.2.2.2.2.1, x.2.2.2.2.2.2.2.2.2.2.1, x.2.2.2.2.2.2.2.2.2.2.2.1, x.2.2.2.2.2.2.2.2.2.2.2.2.1, x.2.2.2.2.2.2.2.2.2.2.2.2.2.1, x.2.2.2.2.2.2.2.2.2.2.2.2.2.2.1, x.2.2.2.2.2.2.2.2.2.2.2.2.2.2.2) : gX) := gXf_trans fx (N2 := N) (D2 := D) ⟨⟨fun _ _ => rfl, fun _ _ => rfl, rfl, rfl, rfl, rfl⟩, fun j hj => ⟨rfl, gup_ne (by omega), rfl⟩, fun _ _ => rfl, fun _ _ => ⟨rfl, rfl, rfl⟩⟩ (Nat.le_refl _) (Nat.le_refl _)
  have f5 : (((x.1, x.2.1, x.2.2.1, x.2.2.2.1, x.2.2.2.2.1, x.2.2.2.2.2.1, x.2.2.2.2.2.2.1, gup x.2.2.2.2.2.2.2.1 D 1, x.2.2.2.2.2.2.2.2.1, x.2.2.2.2.2.2.2.2.2.1, x.2.2.2.2.2.2.2.2.2.2.1, x.2.2.2.2.2.2.2.2.2.2.2.1, x.2.2.2.2.2.2.2.2.2.2.2.2.1, x.2.2.2.2.2.2.2.2.2.2.2.2.2.1, x.2.2.2.2.2.2.2.2.2.2.2.2.2.2.1, x.2.2.2.2.2.2.2.2.2.2.2.2.2.2.2) : gX) : gX).2.2.2.2.2.2.2.2.2.2.1 D = un := e5
  have f6 : (((x.1, x.2.1, x.2.2.1, x.2.2.2.1, x.2.2.2.2.1, x.2.2.2.2.2.1, x.2.2.2.2.2.2.1, gup x.2.2.2.2.2.2.2.1 D 1, x.2.2.2.2.2.2.2.2.1, x.2.2.2.2.2.2.2.2.2.1, x.2.2.2.2.2.2.2.2.2.2.1, x.2.2.2.2.2.2.2.2.2.2.2.1, x.2.2.2.2.2.2.2.2.2.2.2.2.1, x.2.2.2.2.2.2.2.2.2.2.2.2.2.1, x.2.2.2.2.2.2.2.2.2.2.2.2.2.2.1, x.2.2.2.2.2.2.2.2.2.2.2.2.2.2.2) : gX) : gX).2.2.2.2.2.2.2.2.2.2.2.1 D = fr := e6
  have f7 : (((x.1, x.2.1, x.2.2.1, x.2.2.2.1, x.2.2.2.2.1, x.2.2.2.2.2.1, x.2.2.2.2.2.2.1, gup x.2.2.2.2.2.2.2.1 D 1, x.2.2.2.2.2.2.2.2.1, x.2.2.2.2.2.2.2.2.2.1, x.2.2.2.2.2.2.2.2.2.2.1, x.2.2.2.2.2.2.2.2.2.2.2.1, x.2.2.2.2.2.2.2.2.2.2.2.2.1, x.2.2.2.2.2.2.2.2.2.2.2.2.2.1, x.2.2.2.2.2.2.2.2.2.2.2.2.2.2.1, x.2.2.2.2.2.2.2.2.2.2.2.2.2.2.2) : gX) : gX).2.2.2.2.2.2.2.2.2.2.2.2.1 D = co := e7
  have f35 : (((x.1, x.2.1, x.2.2.1, x.2.2.2.1, x.2.2.2.2.1, x.2.2.2.2.2.1, x.2.2.2.2.2.2.1, gup x.2.2.2.2.2.2.2.1 D 1, x.2.2.2.2.2.2.2.2.1, x.2.2.2.2.2.2.2.2.2.1, x.2.2.2.2.2.2.2.2.2.2.1, x.2.2.2.2.2.2.2.2.2.2.2.1, x.2.2.2.2.2.2.2.2.2.2.2.2.1, x.2.2.2.2.2.2.2.2.2.2.2.2.2.1, x.2.2.2.2.2.2.2.2.2.2.2.2.2.2.1, x.2.2.2.2.2.2.2.2.2.2.2.2.2.2.2) : gX) : gX).2.1 35 = u.2.2.2.2.2.2.2.2.2.2.2.2.1 2 := e35
  have f36 : (((x.1, x.2.1, x.2.2.1, x.2.2.2.1, x.2.2.2.2.1, x.2.2.2.2.2.1, x.2.2.2.2.2.2.1, gup x.2.2.2.2.2.2.2.1 D 1, x.2.2.2.2.2.2.2.2.1, x.2.2.2.2.2.2.2.2.2.1, x.2.2.2.2.2.2.2.2.2.2.1, x.2.2.2.2.2.2.2.2.2.2.2.1, x.2.2.2.2.2.2.2.2.2.2.2.2.1, x.2.2.2.2.2.2.2.2.2.2.2.2.2.1, x.2.2.2.2.2.2.2.2.2.2.2.2.2.2.1, x.2.2.2.2.2.2.2.2.2.2.2.2.2.2.2) : gX) : gX).2.1 36 = u.2.2.2.2.2.2.2.2.2.2.2.2.1 3 := e36
  generalize (((x.1, x.2.1, x.2.2.1, x.2.2.2.1, x.2.2.2.2.1, x.2.2.2.2.2.1, x.2.2.2.2.2.2.1, gup x.2.2.2.2.2.2.2.1 D 1, x.2.2.2.2.2.2.2.2.1, x.2.2.2.2.2.2.2.2.2.1, x.2.2.2.2.2.2.2.2.2.2.1, x.2.2.2.2.2.2.2.2.2.2.2.1, x.2.2.2.2.2.2.2.2.2.2.2.2.1, x.2.2.2.2.2.2.2.2.2.2.2.2.2.1, x.2.2.2.2.2.2.2.2.2.2.2.2.2.2.1, x.2.2.2.2.2.2.2.2.2.2.2.2.2.2.2) : gX) : gX) = x4 at *
  have bad : ∀ x', x'.2.1 31 = 0 → gXd N x4 x' → (∀ y o z, mM_finish (some 188) (-1) (gH y x4 o z) = some (gH y x' o z)) → (∀ y o z, cvr un fr co (gH u y o z) = some (gH ((u.1, u.2.1, u.2.2.1, u.2.2.2.1, u.2.2.2.2.1, u.2.2.2.2.2.1, u.2.2.2.2.2.2.1, u.2.2.2.2.2.2.2.1, u.2.2.2.2.2.2.2.2.1, u.2.2.2.2.2.2.2.2.2.1, u.2.2.2.2.2.2.2.2.2.2.1, u.2.2.2.2.2.2.2.2.2.2.2.1, gup u.2.2.2.2.2.2.2.2.2.2.2.2.1 1 1, u.2.2.2.2.2.2.2.2.2.2.2.2.2.1, u.2.2.2.2.2.2.2.2.2.2.2.2.2.2) : gU) y o z)) → gVal n0 f q m D (B + B2 + 2) N 1 u0 x0 F := by
    intro x' a1 a2 a3 a4
    refine gVal_bad (u' := ((u.1, u.2.1, u.2.2.1, u.2.2.2.1, u.2.2.2.2.1, u.2.2.2.2.2.1, u.2.2.2.2.2.2.1, u.2.2.2.2.2.2.2.1, u.2.2.2.2.2.2.2.2.1, u.2.2.2.2.2.2.2.2.2.1, u.2.2.2.2.2.2.2.2.2.2.1, u.2.2.2.2.2.2.2.2.2.2.2.1, gup u.2.2.2.2.2.2.2.2.2.2.2.2.1 1 1, u.2.2.2.2.2.2.2.2.2.2.2.2.2.1, u.2.2.2.2.2.2.2.2.2.2.2.2.2.2) : gU)) (x' := x') (fun y o z => (hF y o z).trans (a4 y o z)) (gUf_trans fu gUf_r (Nat.le_refl _)) rfl ?_ (gXd_trans f4.fd a2 (Nat.le_refl _))
    exact gTo_F t5 (gRF_go (t := 2) G4.gg (fun y o z => by rw [r_goV2 P4 hD, a3, Option.bind_some]) a1)
  rcases k_cvr (un := un) (fr := fr) (co := co) G4 V f35 f36 with ⟨a1, no | ⟨rfl, k, yes⟩⟩ | ⟨c32, k, a, b, hk, yes, hun, ha, hb, efr, eco, a1⟩
  · obtain ⟨x', h1, h2, h3⟩ := r_finN (N := N) P4.1 G4.gg hD (by rw [f5, f6, f7]; exact no)
    exact bad x' h1 h2 h3 a1
  · obtain ⟨x', h1, h2, h3⟩ := r_finY0 (k := k) G4 P4.1 hD (by rw [f5, f6, f7]; exact yes)
    exact bad x' h1 ⟨fun j hj => h2.dR j (by omega), h2.dk, h2.d7, h2.d8, h2.d9, h2.d0⟩ h3 a1
  · have r6 := r_finY (k := k) G4 c32 P4.1 hD (by rw [f5, f6, f7]; exact yes)
    have G6 := gD_w (D := D) G4 c32 hk hun ha hb efr eco f5 f6 f7
    have nf := G4.nf
    have fN := G4.fN
    refine ⟨uw u N1 k un fr co, fun y o z => (hF y o z).trans (a1 y o z), gUf_trans fu (N2 := N) ⟨fun j hj => gup_ne (by omega), rfl, rfl, rfl, rfl, rfl, rfl, rfl⟩ (Nat.le_refl _), Or.inl ⟨xw x4 N1 f D k, ?_, N1 + 1, pos, G6, by omega, gXf_trans f4 (gXf_w n1) (Nat.le_refl _) (Nat.le_refl _), ?_, ?_, ?_, ?_⟩⟩
    · exact gRT_mono (gTo_T t5 (gRT_go2 G4.gg (fun y o z => by rw [r_goV2 P4 hD, r6, Option.bind_some]))) (by omega)
    · show gup (gup (gup (gup (gup x4.2.1 18 (Int32.ofNat D)) 33 (Int32.ofNat (N1 + 1))) 29 (Int32.ofNat (N1 + 1 - f))) 35 6) 36 (Int32.ofNat N1) 18 = _
      rw [gup_ne (by omega), gup_ne (by omega), gup_ne (by omega), gup_ne (by omega), gup_eq]
    · rfl
    · rfl
    · exact ⟨6, by omega, rfl, rfl, fun _ => ⟨N1, by omega, by omega, rfl⟩⟩
theorem k_cvrD {un fr co : Int32} (h : u.2.2.2.2.2.2.2.2.2.2.2.2.1 1 = 1) : ∀ y o z, cvr un fr co (gH u y o z) = some (gH u y o z) := by
  intro y o z
  rw [cvr, hi_187_1, Option.bind_some]
  exact if_neg (show ¬ u.2.2.2.2.2.2.2.2.2.2.2.2.1 1 = 0 by rw [h]; exact i_10)
/-- a view -/
theorem rd_view {D B : Nat} {x0 : gX} {t : Int32} (hD : D + 1 ≤ 12) (ih : gIR n0 f q m (D + 1) B W) (dead : gDe W) (G : gD n0 f q m N pos u x) (h18 : x.2.1 18 = Int32.ofNat D) (hg0 : x0.2.1 31 = 1) (hx0 : gXf N D x0 x) (tv : ∀ y o z, mM_takeValue (some 188) (gH y x0 o z) = mM_takeValue_44 (some 188) t 13 (gH y x o z)) : gVal n0 f q m D (8 * (B + 1) + 3) N 1 u x0 (cR_readView W (some 187) (some 1) (some 163) (Int32.ofNat (D + 1))) := by
  have hD14 : D < 14 := by omega
  by_cases c3 : pos + 3 ≤ m
  · have kT := k_view3 (W := W) (D := D) G c3
    have rT := r_vw3 G c3 hD14 h18 t
    have G1 : gD n0 f q m N (pos + 3) (su u (pos + 3)) (xv x D (pos + 3) (u.2.2.2.2.1 pos) (u.2.2.2.2.1 (pos + 1)) (u.2.2.2.2.1 (pos + 2))) := gD_v G c3
    have fx1 : gXf N D x0 (xv x D (pos + 3) (u.2.2.2.2.1 pos) (u.2.2.2.2.1 (pos + 1)) (u.2.2.2.2.1 (pos + 2))) := gXf_trans hx0 gXf_v (Nat.le_refl N) (Nat.le_refl D)
    have q18 : (xv x D (pos + 3) (u.2.2.2.2.1 pos) (u.2.2.2.2.1 (pos + 1)) (u.2.2.2.2.1 (pos + 2))).2.1 18 = Int32.ofNat D := h18
    have q5 : (xv x D (pos + 3) (u.2.2.2.2.1 pos) (u.2.2.2.2.1 (pos + 1)) (u.2.2.2.2.1 (pos + 2))).2.2.2.2.2.2.2.2.2.2.1 D = u.2.2.2.2.1 pos := gup_eq
    have q6 : (xv x D (pos + 3) (u.2.2.2.2.1 pos) (u.2.2.2.2.1 (pos + 1)) (u.2.2.2.2.1 (pos + 2))).2.2.2.2.2.2.2.2.2.2.2.1 D = u.2.2.2.2.1 (pos + 1) := gup_eq
    have q7 : (xv x D (pos + 3) (u.2.2.2.2.1 pos) (u.2.2.2.2.1 (pos + 1)) (u.2.2.2.2.1 (pos + 2))).2.2.2.2.2.2.2.2.2.2.2.2.1 D = u.2.2.2.2.1 (pos + 2) := gup_eq
    have fu1 : gUf N u (su u (pos + 3)) := gUf_r
    generalize su u (pos + 3) = u1 at *
    generalize xv x D (pos + 3) (u.2.2.2.2.1 pos) (u.2.2.2.2.1 (pos + 1)) (u.2.2.2.2.1 (pos + 2)) = x1 at *
    generalize u.2.2.2.2.1 pos = un at *
    generalize u.2.2.2.2.1 (pos + 1) = fr at *
    generalize u.2.2.2.2.1 (pos + 2) = co at *
    have G2 : gD n0 f q m N (pos + 3) u1 (xp x1 D (-1) 1) := gD_p G1
    have fx2 : gXf N D x0 (xp x1 D (-1) 1) := gXf_trans fx1 gXf_p (Nat.le_refl N) (Nat.le_refl D)
    have P2 : gPv D 0 (xp x1 D (-1) 1) := gPv_p
    obtain ⟨u', k1, k2, k3⟩ := ih u1 (xp x1 D (-1) 1) N (pos + 3) G2 P2.1
    have fu : gUf N u u' := gUf_trans fu1 k2 (Nat.le_refl N)
    have hF : ∀ y o z, cR_readView W (some 187) (some 1) (some 163) (Int32.ofNat (D + 1)) (gH u y o z) = cvr un fr co (gH u' y o z) := fun y o z => by
      rw [kT]
      exact (congrArg (fun w => Option.bind w (cvr un fr co)) (k1 y o z)).trans (Option.bind_some _ _)
    by_cases cu : un = 1 ∨ un = 2 ∨ un = 4
    · have s31 : (((x1.1, gup x1.2.1 31 1, x1.2.2.1, x1.2.2.2.1, x1.2.2.2.2.1, x1.2.2.2.2.2.1, x1.2.2.2.2.2.2.1, x1.2.2.2.2.2.2.2.1, x1.2.2.2.2.2.2.2.2.1, x1.2.2.2.2.2.2.2.2.2.1, x1.2.2.2.2.2.2.2.2.2.2.1, x1.2.2.2.2.2.2.2.2.2.2.2.1, x1.2.2.2.2.2.2.2.2.2.2.2.2.1, x1.2.2.2.2.2.2.2.2.2.2.2.2.2.1, x1.2.2.2.2.2.2.2.2.2.2.2.2.2.2.1, x1.2.2.2.2.2.2.2.2.2.2.2.2.2.2.2) : gX) : gX) = x1 := by rw [gup_same G1.gg]
      have tk : ∀ y o z, mM_takeValue (some 188) (gH y x0 o z) = some (0, gH y (xp x1 D (-1) 1) o z) := by
        intro y o z
        rw [tv, rT, if_pos cu, r_261 (Or.inr rfl) hD14 q18]
        exact congrArg (fun w => some (0, gH y (xp w D (-1) 1) o z)) s31
      have to : gTo (1 + 1) 1 1 x0 (xp x1 D (-1) 1) := gTo_trans (gTo_val hg0 tk) (gTo_go1 G2.gg (r_goV1 P2 hD14))
      rcases k3 with ⟨x3, l1, N1, pos1, l2, l3, l4, l5, l6, l7, l8⟩ | ⟨l0, x3, l1, l2⟩
      · obtain ⟨a1, a2, a3⟩ := l4.f1 D (by omega)
        obtain ⟨b1, b2, b3⟩ := l4.f5 D (by omega)
        refine gVal_mono (rd_viewEnd (un := un) (fr := fr) (co := co) hD14 l3 to l2 l1 ⟨l5, a1.trans P2.2.1, a2.trans P2.2.2.1, a3.trans P2.2.2.2⟩ (b1.trans q5) (b2.trans q6) (b3.trans q7) (gXf_trans fx2 (D2 := D + 1) l4 (Nat.le_refl N) (by omega)) fu l8 l6 l7 hF) (by omega)
      · refine gVal_bad (u' := u') (x' := x3) (fun y o z => (hF y o z).trans (k_cvrD l0 y o z)) fu l0 (gRF_mono (gTo_F to l1) (by omega)) (gXd_trans fx2.fd l2 (Nat.le_refl N))
    · have tk : ∀ y o z, mM_takeValue (some 188) (gH y x0 o z) = some (0, gH y (xp ((x1.1, gup x1.2.1 31 0, x1.2.2.1, x1.2.2.2.1, x1.2.2.2.2.1, x1.2.2.2.2.2.1, x1.2.2.2.2.2.2.1, x1.2.2.2.2.2.2.2.1, x1.2.2.2.2.2.2.2.2.1, x1.2.2.2.2.2.2.2.2.2.1, x1.2.2.2.2.2.2.2.2.2.2.1, x1.2.2.2.2.2.2.2.2.2.2.2.1, x1.2.2.2.2.2.2.2.2.2.2.2.2.1, x1.2.2.2.2.2.2.2.2.2.2.2.2.2.1, x1.2.2.2.2.2.2.2.2.2.2.2.2.2.2.1, x1.2.2.2.2.2.2.2.2.2.2.2.2.2.2.2) : gX) D (-1) 1) o z) := by
        intro y o z
        rw [tv, rT, if_neg cu, r_261 (Or.inl rfl) hD14 q18]
      have rf : gRF (8 * (B + 1) + 3) 1 x0 (xp ((x1.1, gup x1.2.1 31 0, x1.2.2.1, x1.2.2.2.1, x1.2.2.2.2.1, x1.2.2.2.2.2.1, x1.2.2.2.2.2.2.1, x1.2.2.2.2.2.2.2.1, x1.2.2.2.2.2.2.2.2.1, x1.2.2.2.2.2.2.2.2.2.1, x1.2.2.2.2.2.2.2.2.2.2.1, x1.2.2.2.2.2.2.2.2.2.2.2.1, x1.2.2.2.2.2.2.2.2.2.2.2.2.1, x1.2.2.2.2.2.2.2.2.2.2.2.2.2.1, x1.2.2.2.2.2.2.2.2.2.2.2.2.2.2.1, x1.2.2.2.2.2.2.2.2.2.2.2.2.2.2.2) : gX) D (-1) 1) := gRF_mono (gRF_val hg0 tk rfl) (by omega)
      have fd : gXd N x0 (xp ((x1.1, gup x1.2.1 31 0, x1.2.2.1, x1.2.2.2.1, x1.2.2.2.2.1, x1.2.2.2.2.2.1, x1.2.2.2.2.2.2.1, x1.2.2.2.2.2.2.2.1, x1.2.2.2.2.2.2.2.2.1, x1.2.2.2.2.2.2.2.2.2.1, x1.2.2.2.2.2.2.2.2.2.2.1, x1.2.2.2.2.2.2.2.2.2.2.2.1, x1.2.2.2.2.2.2.2.2.2.2.2.2.1, x1.2.2.2.2.2.2.2.2.2.2.2.2.2.1, x1.2.2.2.2.2.2.2.2.2.2.2.2.2.2.1, x1.2.2.2.2.2.2.2.2.2.2.2.2.2.2.2) : gX) D (-1) 1) := by
        refine gXd_trans fx1.fd (N2 := N) ⟨fun _ _ => rfl, fun j hj => ?_, rfl, rfl, rfl, rfl⟩ (Nat.le_refl N)
        show gup (gup x1.2.1 31 0) 18 (Int32.ofNat (D + 1)) j = _
        rw [gup_ne (by omega), gup_ne (by omega)]
      rcases k3 with ⟨x3, l1, N1, pos1, l2, l3, l4, l5, l6, l7, l8⟩ | ⟨l0, x3, l1, l2⟩
      · rcases k_cvr (un := un) (fr := fr) (co := co) l2 l8 l6 l7 with ⟨a1, _⟩ | ⟨_, _, _, _, _, _, hun, _⟩
        · exact gVal_bad (u' := ((u'.1, u'.2.1, u'.2.2.1, u'.2.2.2.1, u'.2.2.2.2.1, u'.2.2.2.2.2.1, u'.2.2.2.2.2.2.1, u'.2.2.2.2.2.2.2.1, u'.2.2.2.2.2.2.2.2.1, u'.2.2.2.2.2.2.2.2.2.1, u'.2.2.2.2.2.2.2.2.2.2.1, u'.2.2.2.2.2.2.2.2.2.2.2.1, gup u'.2.2.2.2.2.2.2.2.2.2.2.2.1 1 1, u'.2.2.2.2.2.2.2.2.2.2.2.2.2.1, u'.2.2.2.2.2.2.2.2.2.2.2.2.2.2) : gU)) (fun y o z => (hF y o z).trans (a1 y o z)) (gUf_trans fu gUf_r (Nat.le_refl N)) rfl rf fd
        · exact absurd hun cu
      · exact gVal_bad (u' := u') (fun y o z => (hF y o z).trans (k_cvrD l0 y o z)) fu l0 rf fd
  · obtain ⟨r, r1, r2⟩ := k_view0 (W := W) (D := D) dead G c3
    obtain ⟨x', h1, h2, h3⟩ := r_vw0 G c3 hD14 h18 t
    refine gVal_bad (u' := ((u.1, u.2.1, u.2.2.1, u.2.2.2.1, u.2.2.2.2.1, u.2.2.2.2.2.1, u.2.2.2.2.2.2.1, u.2.2.2.2.2.2.2.1, u.2.2.2.2.2.2.2.2.1, u.2.2.2.2.2.2.2.2.2.1, u.2.2.2.2.2.2.2.2.2.2.1, u.2.2.2.2.2.2.2.2.2.2.2.1, r, u.2.2.2.2.2.2.2.2.2.2.2.2.2.1, u.2.2.2.2.2.2.2.2.2.2.2.2.2.2) : gU)) (x' := x') r2 gUf_r r1 (gRF_mono (gRF_val (t := 0) hg0 (fun y o z => ?_) h1) (by omega)) (gXd_trans hx0.fd h2 (Nat.le_refl N))
    rw [tv, h3]
end H
end
section
/-! read: a value of any kind -/
/-- what the class does behind the tag -/
def crv (W : gWr) (l3 t : Int32) (h : gx_H) : Option gx_H :=
    if t = (4 : Int32) then (
      (cR_nextInt (some 187) (some 163) h).bind fun r11 =>
      (gv_is r11.2 (some 187) 6).bind fun _ =>
      cR_settle (some 187) (4 : Int32) r11.1 r11.2) else
    if t = (5 : Int32) then (
      cR_readText (some 187) (some 163) h) else
    if t = (6 : Int32) then (
      (gv_gI h (some 187) 6 6).bind fun v20 =>
      (gv_gI h (some 1) 1 1).bind fun v21 =>
      (gv_gI h (some 187) 6 6).bind fun v22 =>
      cR_readPlace (some 187) (some 163) v20 (v21 - v22) h) else
    if t = (7 : Int32) then (
      (gv_gI h (some 187) 6 4).bind fun v27 =>
      (gv_gI h (some 187) 6 5).bind fun v28 =>
      cR_readPlace (some 187) (some 163) v27 v28 h) else
    if t = (13 : Int32) then (
      cR_readView W (some 187) (some 1) (some 163) l3 h) else
    if (3 : Int32) < t then (
      cR_readObject W (some 187) (some 1) (some 163) (t - (8 : Int32)) l3 h) else
    cR_settle (some 187) t (0 : Int32) h
section H
variable {n0 f q m N pos : Nat} {u : gU} {x : gX} {W : gWr}
theorem k_crv {D n j : Nat} (G : gD n0 f q m N pos u x) (hD : D < 12) (p : pos < m) (hj : j ≤ 14) (e : u.2.2.2.2.1 pos = Int32.ofNat j) : ∀ y o z, cR_readValue (n + 1) (some 187) (some 1) (some 163) (Int32.ofNat (D + 1)) (gH u y o z) = crv (cR_readValue n) (Int32.ofNat (D + 1)) (Int32.ofNat j) (gH (su u (pos + 1)) y o z) := by
  intro y o z
  have l : ¬ (12 : Int32) < Int32.ofNat (D + 1) := n_nltl (n := 12) (by omega) (by omega) (by omega)
  have w : (su u (pos + 1)).2.2.2.2.2.2.2.2.2.2.2.2.1 1 = 0 := G.wr
  rw [cR_readValue, if_neg l, cR_readValue_11, ho_187, Option.bind_some]
  rw [show cR_nextUpTo (some 187) (some 163) 14 (gH u y o z) = some (Int32.ofNat j, gH (su u (pos + 1)) y o z) from k_up (t := 14) G p hj (by omega) e y o z, Option.bind_some, hi_187_1, Option.bind_some, if_pos w]
  simp only [crv, ho_187, Option.bind_some, Option.bind_fun_some]
theorem k_crv0 {D n : Nat} (G : gD n0 f q m N pos u x) (c : ¬ (pos < m ∧ ∃ j, j ≤ 14 ∧ u.2.2.2.2.1 pos = Int32.ofNat j)) (hD : D < 12) : ∃ r, r 1 = 1 ∧ ∀ y o z, cR_readValue (n + 1) (some 187) (some 1) (some 163) (Int32.ofNat (D + 1)) (gH u y o z) = some (gH ((u.1, u.2.1, u.2.2.1, u.2.2.2.1, u.2.2.2.2.1, u.2.2.2.2.2.1, u.2.2.2.2.2.2.1, u.2.2.2.2.2.2.2.1, u.2.2.2.2.2.2.2.2.1, u.2.2.2.2.2.2.2.2.2.1, u.2.2.2.2.2.2.2.2.2.2.1, u.2.2.2.2.2.2.2.2.2.2.2.1, r, u.2.2.2.2.2.2.2.2.2.2.2.2.2.1, u.2.2.2.2.2.2.2.2.2.2.2.2.2.2) : gU) y o z) := by
  obtain ⟨r, r1, r2⟩ := k_up0 (t := 14) G (by omega) c
  refine ⟨r, r1, fun y o z => ?_⟩
  have l : ¬ (12 : Int32) < Int32.ofNat (D + 1) := n_nltl (n := 12) (by omega) (by omega) (by omega)
  rw [cR_readValue, if_neg l, cR_readValue_11, ho_187, Option.bind_some]
  rw [show cR_nextUpTo (some 187) (some 163) 14 (gH u y o z) = some (0, gH ((u.1, u.2.1, u.2.2.1, u.2.2.2.1, u.2.2.2.2.1, u.2.2.2.2.2.1, u.2.2.2.2.2.2.1, u.2.2.2.2.2.2.2.1, u.2.2.2.2.2.2.2.2.1, u.2.2.2.2.2.2.2.2.2.1, u.2.2.2.2.2.2.2.2.2.2.1, u.2.2.2.2.2.2.2.2.2.2.2.1, r, u.2.2.2.2.2.2.2.2.2.2.2.2.2.1, u.2.2.2.2.2.2.2.2.2.2.2.2.2.2) : gU) y o z) from r2 y o z, Option.bind_some, hi_187_1, Option.bind_some]
  exact if_neg (show ¬ r 1 = 0 by rw [r1]; exact i_10)
theorem k_rv11D {l : Int32} (h : u.2.2.2.2.2.2.2.2.2.2.2.2.1 1 = 1) : ∀ y o z, cR_readValue_11 W (some 187) (some 1) (some 163) l (gH u y o z) = some (gH u y o z) := by
  intro y o z
  rw [cR_readValue_11, ho_187, Option.bind_some]
  rw [show cR_nextUpTo (some 187) (some 163) 14 (gH u y o z) = some (0, gH u y o z) from k_uptoDead (t := 14) h (by omega), Option.bind_some, hi_187_1, Option.bind_some]
  exact if_neg (show ¬ u.2.2.2.2.2.2.2.2.2.2.2.2.1 1 = 0 by rw [h]; exact i_10)
theorem gDe_rv {n : Nat} : gDe (cR_readValue (n + 1)) := by
  intro u y o z d h
  have e : (((u.1, u.2.1, u.2.2.1, u.2.2.2.1, u.2.2.2.2.1, u.2.2.2.2.2.1, u.2.2.2.2.2.2.1, u.2.2.2.2.2.2.2.1, u.2.2.2.2.2.2.2.2.1, u.2.2.2.2.2.2.2.2.2.1, u.2.2.2.2.2.2.2.2.2.2.1, u.2.2.2.2.2.2.2.2.2.2.2.1, gup u.2.2.2.2.2.2.2.2.2.2.2.2.1 1 1, u.2.2.2.2.2.2.2.2.2.2.2.2.2.1, u.2.2.2.2.2.2.2.2.2.2.2.2.2.2) : gU) : gU) = u := by rw [gup_same h]
  have hx : gv_pV (gH u y o z) (some 187) 6 1 (.int 1) = some (gH u y o z) := by
    rw [hp_187_1]
    exact congrArg (fun w => some (gH w y o z)) e
  rw [cR_readValue, hx, Option.bind_some, k_rv11D h, ite_self]
theorem k_deep {n : Nat} : ∀ y o z, cR_readValue (n + 1) (some 187) (some 1) (some 163) (Int32.ofNat (12 + 1)) (gH u y o z) = some (gH ((u.1, u.2.1, u.2.2.1, u.2.2.2.1, u.2.2.2.2.1, u.2.2.2.2.2.1, u.2.2.2.2.2.2.1, u.2.2.2.2.2.2.2.1, u.2.2.2.2.2.2.2.2.1, u.2.2.2.2.2.2.2.2.2.1, u.2.2.2.2.2.2.2.2.2.2.1, u.2.2.2.2.2.2.2.2.2.2.2.1, gup u.2.2.2.2.2.2.2.2.2.2.2.2.1 1 1, u.2.2.2.2.2.2.2.2.2.2.2.2.2.1, u.2.2.2.2.2.2.2.2.2.2.2.2.2.2) : gU) y o z) := by
  intro y o z
  rw [cR_readValue, if_pos (by decide), hp_187_1, Option.bind_some]
  exact k_rv11D (u := ((u.1, u.2.1, u.2.2.1, u.2.2.2.1, u.2.2.2.2.1, u.2.2.2.2.2.1, u.2.2.2.2.2.2.1, u.2.2.2.2.2.2.2.1, u.2.2.2.2.2.2.2.2.1, u.2.2.2.2.2.2.2.2.2.1, u.2.2.2.2.2.2.2.2.2.2.1, u.2.2.2.2.2.2.2.2.2.2.2.1, gup u.2.2.2.2.2.2.2.2.2.2.2.2.1 1 1, u.2.2.2.2.2.2.2.2.2.2.2.2.2.1, u.2.2.2.2.2.2.2.2.2.2.2.2.2.2) : gU)) rfl y o z
theorem r_got44 : ∀ y o z, mM_takeValue_44 (some 188) 0 0 (gH y x o z) = some (1, gH y ((x.1, gup (gup x.2.1 35 0) 36 0, x.2.2.1, x.2.2.2.1, x.2.2.2.2.1, x.2.2.2.2.2.1, x.2.2.2.2.2.2.1, x.2.2.2.2.2.2.2.1, x.2.2.2.2.2.2.2.2.1, x.2.2.2.2.2.2.2.2.2.1, x.2.2.2.2.2.2.2.2.2.2.1, x.2.2.2.2.2.2.2.2.2.2.2.1, x.2.2.2.2.2.2.2.2.2.2.2.2.1, x.2.2.2.2.2.2.2.2.2.2.2.2.2.1, x.2.2.2.2.2.2.2.2.2.2.2.2.2.2.1, x.2.2.2.2.2.2.2.2.2.2.2.2.2.2.2) : gX) o z) := by
  intro y o z
  rw [mM_takeValue_44, if_pos rfl, ho_188, Option.bind_some, r_got, Option.bind_some]
theorem r_tv {D : Nat} (G : gD n0 f q m N pos u x) (h18 : x.2.1 18 = Int32.ofNat D) (hD : D < 12) (p : pos < m) : ∀ y o z, mM_takeValue (some 188) (gH y x o z) = mM_takeValue_44 (some 188) (u.2.2.2.2.1 pos) (u.2.2.2.2.1 pos) (gH y (sx x (pos + 1)) o z) := by
  intro y o z
  have l : ¬ (12 : Int32) < Int32.ofNat (D + 1) := n_nltl (n := 12) (by omega) (by omega) (by omega)
  have s31 : (((x.1, gup x.2.1 31 1, x.2.2.1, x.2.2.2.1, x.2.2.2.2.1, x.2.2.2.2.2.1, x.2.2.2.2.2.2.1, x.2.2.2.2.2.2.2.1, x.2.2.2.2.2.2.2.2.1, x.2.2.2.2.2.2.2.2.2.1, x.2.2.2.2.2.2.2.2.2.2.1, x.2.2.2.2.2.2.2.2.2.2.2.1, x.2.2.2.2.2.2.2.2.2.2.2.2.1, x.2.2.2.2.2.2.2.2.2.2.2.2.2.1, x.2.2.2.2.2.2.2.2.2.2.2.2.2.2.1, x.2.2.2.2.2.2.2.2.2.2.2.2.2.2.2) : gX) : gX) = x := by rw [gup_same G.gg]
  have hx : gv_pV (gH y x o z) (some 188) 7 31 (.int 1) = some (gH y x o z) := by
    rw [hp_188_31]
    exact congrArg (fun w => some (gH y w o z)) s31
  have g31 : ¬ x.2.1 31 = 0 := by rw [G.gg]; exact i_10
  have g31' : ¬ (sx x (pos + 1)).2.1 31 = 0 := g31
  rw [mM_takeValue, hi_188_31, Option.bind_some, if_neg g31, hi_188_18, Option.bind_some, h18, n_succ, if_neg l, mM_takeValue_24, if_neg (fun k => k (Or.inr rfl)), hx, Option.bind_some, ho_188, Option.bind_some, r_nx G p, Option.bind_some, hi_188_31, Option.bind_some, if_neg g31']
theorem r_tv0 {D : Nat} (G : gD n0 f q m N pos u x) (h18 : x.2.1 18 = Int32.ofNat D) (hD : D < 12) (p : ¬ pos < m) : ∃ x', x'.2.1 31 = 0 ∧ gXd N x x' ∧ ∀ y o z, mM_takeValue (some 188) (gH y x o z) = some (1, gH y x' o z) := by
  have l : ¬ (12 : Int32) < Int32.ofNat (D + 1) := n_nltl (n := 12) (by omega) (by omega) (by omega)
  have s31 : (((x.1, gup x.2.1 31 1, x.2.2.1, x.2.2.2.1, x.2.2.2.2.1, x.2.2.2.2.2.1, x.2.2.2.2.2.2.1, x.2.2.2.2.2.2.2.1, x.2.2.2.2.2.2.2.2.1, x.2.2.2.2.2.2.2.2.2.1, x.2.2.2.2.2.2.2.2.2.2.1, x.2.2.2.2.2.2.2.2.2.2.2.1, x.2.2.2.2.2.2.2.2.2.2.2.2.1, x.2.2.2.2.2.2.2.2.2.2.2.2.2.1, x.2.2.2.2.2.2.2.2.2.2.2.2.2.2.1, x.2.2.2.2.2.2.2.2.2.2.2.2.2.2.2) : gX) : gX) = x := by rw [gup_same G.gg]
  have g31 : ¬ x.2.1 31 = 0 := by rw [G.gg]; exact i_10
  have e31 : (((x.1, gup (gup x.2.1 31 0) 32 (Int32.ofNat (pos + 1)), x.2.2.1, x.2.2.2.1, x.2.2.2.2.1, x.2.2.2.2.2.1, x.2.2.2.2.2.2.1, x.2.2.2.2.2.2.2.1, x.2.2.2.2.2.2.2.2.1, x.2.2.2.2.2.2.2.2.2.1, x.2.2.2.2.2.2.2.2.2.2.1, x.2.2.2.2.2.2.2.2.2.2.2.1, x.2.2.2.2.2.2.2.2.2.2.2.2.1, x.2.2.2.2.2.2.2.2.2.2.2.2.2.1, x.2.2.2.2.2.2.2.2.2.2.2.2.2.2.1, x.2.2.2.2.2.2.2.2.2.2.2.2.2.2.2) : gX) : gX).2.1 31 = 0 := rfl
  refine ⟨((x.1, gup (gup (gup (gup x.2.1 31 0) 32 (Int32.ofNat (pos + 1))) 35 0) 36 0, x.2.2.1, x.2.2.2.1, x.2.2.2.2.1, x.2.2.2.2.2.1, x.2.2.2.2.2.2.1, x.2.2.2.2.2.2.2.1, x.2.2.2.2.2.2.2.2.1, x.2.2.2.2.2.2.2.2.2.1, x.2.2.2.2.2.2.2.2.2.2.1, x.2.2.2.2.2.2.2.2.2.2.2.1, x.2.2.2.2.2.2.2.2.2.2.2.2.1, x.2.2.2.2.2.2.2.2.2.2.2.2.2.1, x.2.2.2.2.2.2.2.2.2.2.2.2.2.2.1, x.2.2.2.2.2.2.2.2.2.2.2.2.2.2.2) : gX), rfl, ⟨fun _ _ => rfl, fun i hi => ?_, rfl, rfl, rfl, rfl⟩, fun y o z => ?_⟩
  · show gup (gup (gup (gup x.2.1 31 0) 32 (Int32.ofNat (pos + 1))) 35 0) 36 0 i = _
    rw [gup_ne (by omega), gup_ne (by omega), gup_ne (by omega), gup_ne (by omega)]
  · have hx : gv_pV (gH y x o z) (some 188) 7 31 (.int 1) = some (gH y x o z) := by
      rw [hp_188_31]
      exact congrArg (fun w => some (gH y w o z)) s31
    rw [mM_takeValue, hi_188_31, Option.bind_some, if_neg g31, hi_188_18, Option.bind_some, h18, n_succ, if_neg l, mM_takeValue_24, if_neg (fun k => k (Or.inr rfl)), hx, Option.bind_some, ho_188, Option.bind_some, r_nx0 G p, Option.bind_some, hi_188_31, Option.bind_some, if_pos e31]
    exact r_got44 (x := ((x.1, gup (gup x.2.1 31 0) 32 (Int32.ofNat (pos + 1)), x.2.2.1, x.2.2.2.1, x.2.2.2.2.1, x.2.2.2.2.2.1, x.2.2.2.2.2.2.1, x.2.2.2.2.2.2.2.1, x.2.2.2.2.2.2.2.2.1, x.2.2.2.2.2.2.2.2.2.1, x.2.2.2.2.2.2.2.2.2.2.1, x.2.2.2.2.2.2.2.2.2.2.2.1, x.2.2.2.2.2.2.2.2.2.2.2.2.1, x.2.2.2.2.2.2.2.2.2.2.2.2.2.1, x.2.2.2.2.2.2.2.2.2.2.2.2.2.2.1, x.2.2.2.2.2.2.2.2.2.2.2.2.2.2.2) : gX)) y o z
theorem r_tvDeep (h18 : x.2.1 18 = Int32.ofNat 12) (hg : x.2.1 31 = 1) : ∃ x', x'.2.1 31 = 0 ∧ gXd N x x' ∧ ∀ y o z, mM_takeValue (some 188) (gH y x o z) = some (1, gH y x' o z) := by
  have l : (12 : Int32) < Int32.ofNat (12 + 1) := by decide
  have g31 : ¬ x.2.1 31 = 0 := by rw [hg]; exact i_10
  have e31 : (((x.1, gup x.2.1 31 0, x.2.2.1, x.2.2.2.1, x.2.2.2.2.1, x.2.2.2.2.2.1, x.2.2.2.2.2.2.1, x.2.2.2.2.2.2.2.1, x.2.2.2.2.2.2.2.2.1, x.2.2.2.2.2.2.2.2.2.1, x.2.2.2.2.2.2.2.2.2.2.1, x.2.2.2.2.2.2.2.2.2.2.2.1, x.2.2.2.2.2.2.2.2.2.2.2.2.1, x.2.2.2.2.2.2.2.2.2.2.2.2.2.1, x.2.2.2.2.2.2.2.2.2.2.2.2.2.2.1, x.2.2.2.2.2.2.2.2.2.2.2.2.2.2.2) : gX) : gX).2.1 31 = 0 := rfl
  obtain ⟨s, s1, s2, s3⟩ := r_nxDead e31
  have s31 : (((x.1, s, x.2.2.1, x.2.2.2.1, x.2.2.2.2.1, x.2.2.2.2.2.1, x.2.2.2.2.2.2.1, x.2.2.2.2.2.2.2.1, x.2.2.2.2.2.2.2.2.1, x.2.2.2.2.2.2.2.2.2.1, x.2.2.2.2.2.2.2.2.2.2.1, x.2.2.2.2.2.2.2.2.2.2.2.1, x.2.2.2.2.2.2.2.2.2.2.2.2.1, x.2.2.2.2.2.2.2.2.2.2.2.2.2.1, x.2.2.2.2.2.2.2.2.2.2.2.2.2.2.1, x.2.2.2.2.2.2.2.2.2.2.2.2.2.2.2) : gX) : gX).2.1 31 = 0 := s1
  refine ⟨((x.1, gup (gup s 35 0) 36 0, x.2.2.1, x.2.2.2.1, x.2.2.2.2.1, x.2.2.2.2.2.1, x.2.2.2.2.2.2.1, x.2.2.2.2.2.2.2.1, x.2.2.2.2.2.2.2.2.1, x.2.2.2.2.2.2.2.2.2.1, x.2.2.2.2.2.2.2.2.2.2.1, x.2.2.2.2.2.2.2.2.2.2.2.1, x.2.2.2.2.2.2.2.2.2.2.2.2.1, x.2.2.2.2.2.2.2.2.2.2.2.2.2.1, x.2.2.2.2.2.2.2.2.2.2.2.2.2.2.1, x.2.2.2.2.2.2.2.2.2.2.2.2.2.2.2) : gX), s1, ⟨fun _ _ => rfl, fun i hi => ?_, rfl, rfl, rfl, rfl⟩, fun y o z => ?_⟩
  · show gup (gup s 35 0) 36 0 i = _
    rw [gup_ne (by omega), gup_ne (by omega), s2 i (by omega)]
    show gup x.2.1 31 0 i = _
    rw [gup_ne (by omega)]
  · rw [mM_takeValue, hi_188_31, Option.bind_some, if_neg g31, hi_188_18, Option.bind_some, h18, n_succ, if_pos l, mM_takeValue_23, mM_takeValue_24, if_neg (fun k => k (Or.inl rfl)), hp_188_31, Option.bind_some, ho_188, Option.bind_some, s3, Option.bind_some, hi_188_31, Option.bind_some, if_pos s31]
    exact r_got44 (x := ((x.1, s, x.2.2.1, x.2.2.2.1, x.2.2.2.2.1, x.2.2.2.2.2.1, x.2.2.2.2.2.2.1, x.2.2.2.2.2.2.2.1, x.2.2.2.2.2.2.2.2.1, x.2.2.2.2.2.2.2.2.2.1, x.2.2.2.2.2.2.2.2.2.2.1, x.2.2.2.2.2.2.2.2.2.2.2.1, x.2.2.2.2.2.2.2.2.2.2.2.2.1, x.2.2.2.2.2.2.2.2.2.2.2.2.2.1, x.2.2.2.2.2.2.2.2.2.2.2.2.2.2.1, x.2.2.2.2.2.2.2.2.2.2.2.2.2.2.2) : gX)) y o z
theorem r_44none {t : Nat} (h : 14 < t) (ht : t < 256) : ∀ y o z, mM_takeValue_44 (some 188) (Int32.ofNat t) (Int32.ofNat t) (gH y x o z) = some (1, gH y ((x.1, gup x.2.1 31 0, x.2.2.1, x.2.2.2.1, x.2.2.2.2.1, x.2.2.2.2.2.1, x.2.2.2.2.2.2.1, x.2.2.2.2.2.2.2.1, x.2.2.2.2.2.2.2.2.1, x.2.2.2.2.2.2.2.2.2.1, x.2.2.2.2.2.2.2.2.2.2.1, x.2.2.2.2.2.2.2.2.2.2.2.1, x.2.2.2.2.2.2.2.2.2.2.2.2.1, x.2.2.2.2.2.2.2.2.2.2.2.2.2.1, x.2.2.2.2.2.2.2.2.2.2.2.2.2.2.1, x.2.2.2.2.2.2.2.2.2.2.2.2.2.2.2) : gX) o z) := by
  intro y o z
  have ne : ∀ k : Nat, k ≤ 14 → ¬ Int32.ofNat t = Int32.ofNat k := fun k hk e => by
    have := (n_eq (show t < 2 ^ 31 by omega) (by omega)).mp e
    omega
  rw [mM_takeValue_44, if_neg (show ¬ Int32.ofNat t = 0 from ne 0 (by omega)), if_neg (show ¬ Int32.ofNat t = 1 from ne 1 (by omega)), if_neg (show ¬ Int32.ofNat t = 2 from ne 2 (by omega)), if_neg (show ¬ Int32.ofNat t = 3 from ne 3 (by omega)), if_neg (show ¬ Int32.ofNat t = 4 from ne 4 (by omega)), if_neg (show ¬ Int32.ofNat t = 5 from ne 5 (by omega)), if_neg (show ¬ Int32.ofNat t = 6 from ne 6 (by omega)), if_neg (show ¬ Int32.ofNat t = 7 from ne 7 (by omega)), if_neg (show ¬ Int32.ofNat t = 8 from ne 8 (by omega)), if_neg (show ¬ Int32.ofNat t = 9 from ne 9 (by omega)), if_neg (show ¬ Int32.ofNat t = 10 from ne 10 (by omega)), if_neg (show ¬ Int32.ofNat t = 11 from ne 11 (by omega)), if_neg (show ¬ Int32.ofNat t = 12 from ne 12 (by omega)), if_neg (show ¬ Int32.ofNat t = 13 from ne 13 (by omega)), if_neg (show ¬ Int32.ofNat t = 14 from ne 14 (by omega)), hp_188_31, Option.bind_some]
theorem p_int2 (D : gD n0 f q m N pos u x) : gPr n0 f q m N u x (fun h => (cR_nextInt (some 187) (some 163) h).bind fun r11 => (gv_is r11.2 (some 187) 6).bind fun _ => cR_settle (some 187) 4 r11.1 r11.2) (fun h => (mM_lengthy (some 188) 32 h).bind fun r21 => (mM_plain r21.1).bind fun v22 => (gv_is r21.2 (some 188) 7).bind fun _ => mM_got (some 188) 4 (Int64.toInt32 v22) r21.2) := by
  rcases d_int D with ⟨a, b, r, s, pos', k1, k2, rfl, k4, k5, k6, k7⟩ | ⟨a, b, r, s, k1, k2, k3, k4, k5⟩
  · refine Or.inl ⟨pos', gup (gup r 2 4) 3 (Int64.toInt32 (gzz b)), gup (gup s 35 4) 36 (Int64.toInt32 (gzz b)), fun y o z => ?_, fun y o z => ?_, d_set k4, fun i hi => ?_, rfl, rfl, ⟨4, by omega, rfl, rfl, fun e => by omega⟩⟩
    · simp only [k1, Option.bind_some, ho_187, k_settle]
    · simp only [k2, Option.bind_some, m_plain, ho_188, r_got]
    · rw [gup_ne (by omega), gup_ne (by omega)]; exact k5 i hi
  · refine Or.inr ⟨gup (gup r 2 4) 3 a, gup (gup s 35 4) 36 (Int64.toInt32 (gzz b)), fun y o z => ?_, fun y o z => ?_, k3, k4, fun i hi => ?_⟩
    · simp only [k1, Option.bind_some, ho_187, k_settle]
    · simp only [k2, Option.bind_some, m_plain, ho_188, r_got]
    · rw [gup_ne (by omega), gup_ne (by omega)]; exact k5 i hi
theorem p_text2 (D : gD n0 f q m N pos u x) : gPr n0 f q m N u x (cR_readText (some 187) (some 163)) (fun h => (mM_text (some 188) h).bind fun r => (gv_is r.2 (some 188) 7).bind fun _ => mM_got (some 188) 5 r.1 r.2) := by
  rcases d_text D with ⟨v, pos', r, s, k0, k1, k2, r0, r1, r2, r3, r4, r5, r6, s1, s2, s3, ks⟩ | ⟨v, r, s, k1, k2, r1, s1, ks⟩
  · refine Or.inl ⟨pos', r, gup (gup s 35 5) 36 v, k1, fun y o z => ?_, gD_r D r1 r0 k0 r4 r5 r6 s1 s2 s3 (fun i hi => ?_), fun i hi => ?_, r2.symm, r3.symm, ⟨5, by omega, r2, by rw [r2]; rfl, fun e => by omega⟩⟩
    · simp only [k2, Option.bind_some, ho_188, r_got]
    · rw [gup_ne (by omega), gup_ne (by omega)]; exact ks i hi
    · rw [gup_ne (by omega), gup_ne (by omega)]; exact ks i hi
  · refine Or.inr ⟨r, gup (gup s 35 5) 36 v, k1, fun y o z => ?_, r1, s1, fun i hi => ?_⟩
    · simp only [k2, Option.bind_some, ho_188, r_got]
    · rw [gup_ne (by omega), gup_ne (by omega)]; exact ks i hi
theorem p_low {t : Nat} (ht : t < 4) (D : gD n0 f q m N pos u x) : gPr n0 f q m N u x (cR_settle (some 187) (Int32.ofNat t) 0) (mM_got (some 188) (Int32.ofNat t) 0) := by
  refine Or.inl ⟨pos, gup (gup u.2.2.2.2.2.2.2.2.2.2.2.2.1 2 (Int32.ofNat t)) 3 0, gup (gup x.2.1 35 (Int32.ofNat t)) 36 0, k_settle, r_got, d_set D, fun i hi => ?_, rfl, rfl, ⟨t, by omega, rfl, ?_, fun e => by omega⟩⟩
  · rw [gup_ne (by omega), gup_ne (by omega)]
  · obtain rfl | rfl | rfl | rfl : t = 0 ∨ t = 1 ∨ t = 2 ∨ t = 3 := by omega
    all_goals rfl
/-- a value that takes one turn -/
theorem gVal_ob2 {D : Nat} {u0 : gU} {x0 : gX} {A M F : gx_H → Option gx_H} (h : gOb2 n0 f q m D N u x A M) (hg0 : x0.2.1 31 = 1) (hx0 : gXf N D x0 x) (hu0 : gUf N u0 u) (tv : ∀ y o z, mM_takeValue (some 188) (gH y x0 o z) = (M (gH y x o z)).bind fun h => some (1, h)) (hF : ∀ y o z, F (gH u0 y o z) = A (gH u y o z)) : gVal n0 f q m D 2 N 1 u0 x0 F := by
  obtain ⟨u', k1, k2, k3⟩ := h
  refine ⟨u', fun y o z => (hF y o z).trans (k1 y o z), gUf_trans hu0 k2 (Nat.le_refl _), ?_⟩
  rcases k3 with ⟨x', l1, N', pos', l2, l3, l4, l5⟩ | ⟨l0, x', l1, l2, l3⟩
  · refine Or.inl ⟨x', gRT_mono (gRT_val hg0 (fun y o z => ?_)) (by omega), N', pos', l2, l3, gXf_trans hx0 l4 (Nat.le_refl _) (Nat.le_refl _), l5⟩
    rw [tv, l1, Option.bind_some]
  · refine Or.inr ⟨l0, x', gRF_val (t := 1) hg0 (fun y o z => ?_) l2, gXd_trans hx0.fd l3 (Nat.le_refl _)⟩
    rw [tv, l1, Option.bind_some]
end H
end
section
/-! read: a value at any depth -/
section H
variable {n0 f q m N pos : Nat} {u : gU} {x : gX} {W : gWr}
theorem gVal_pre {D B : Nat} {u1 : gU} {F F1 : gx_H → Option gx_H} (hu : gUf N u u1) (hF : ∀ y o z, F (gH u y o z) = F1 (gH u1 y o z)) (k : gVal n0 f q m D B N 1 u1 x F1) : gVal n0 f q m D B N 1 u x F :=
  gVal_mono (gVal_step gTo_refl hu gXf_refl hF k) (by omega)
theorem r44_low {t : Nat} (h : t < 4) : ∀ y o z, mM_takeValue_44 (some 188) (Int32.ofNat t) (Int32.ofNat t) (gH y x o z) = (mM_got (some 188) (Int32.ofNat t) 0 (gH y x o z)).bind fun h => some (1, h) := by
  intro y o z
  obtain rfl | rfl | rfl | rfl : t = 0 ∨ t = 1 ∨ t = 2 ∨ t = 3 := by omega
  · rw [mM_takeValue_44, if_pos (by decide), ho_188, Option.bind_some]
  · rw [mM_takeValue_44, if_neg (by decide), if_pos (by decide), ho_188, Option.bind_some]
  · rw [mM_takeValue_44, if_neg (by decide), if_neg (by decide), if_pos (by decide), ho_188, Option.bind_some]
  · rw [mM_takeValue_44, if_neg (by decide), if_neg (by decide), if_neg (by decide), if_pos (by decide), ho_188, Option.bind_some]
theorem r44_4 : ∀ y o z, mM_takeValue_44 (some 188) (Int32.ofNat 4) (Int32.ofNat 4) (gH y x o z) = ((fun h => (mM_lengthy (some 188) 32 h).bind fun r21 => (mM_plain r21.1).bind fun v22 => (gv_is r21.2 (some 188) 7).bind fun _ => mM_got (some 188) 4 (Int64.toInt32 v22) r21.2) (gH y x o z)).bind fun h => some (1, h) := by
  intro y o z
  rw [mM_takeValue_44, if_neg (by decide), if_neg (by decide), if_neg (by decide), if_neg (by decide), if_pos (by decide), ho_188, Option.bind_some]
  simp only [Option.bind_assoc]
theorem r44_5 : ∀ y o z, mM_takeValue_44 (some 188) (Int32.ofNat 5) (Int32.ofNat 5) (gH y x o z) = ((fun h => (mM_text (some 188) h).bind fun r => (gv_is r.2 (some 188) 7).bind fun _ => mM_got (some 188) 5 r.1 r.2) (gH y x o z)).bind fun h => some (1, h) := by
  intro y o z
  rw [mM_takeValue_44, if_neg (by decide), if_neg (by decide), if_neg (by decide), if_neg (by decide), if_neg (by decide), if_pos (by decide), ho_188, Option.bind_some]
  simp only [Option.bind_assoc]
theorem r44_6 {c : Int32} (h : x.2.1 29 = c) : ∀ y o z, mM_takeValue_44 (some 188) (Int32.ofNat 6) (Int32.ofNat 6) (gH y x o z) = (mM_takePlace (some 188) c 0 (gH y x o z)).bind fun h => some (1, h) := by
  intro y o z
  rw [mM_takeValue_44, if_neg (by decide), if_neg (by decide), if_neg (by decide), if_neg (by decide), if_neg (by decide), if_neg (by decide), if_pos (by decide), hi_188_29, Option.bind_some, ho_188, Option.bind_some, h]
theorem r44_7 {c : Int32} (h : x.2.1 12 = c) : ∀ y o z, mM_takeValue_44 (some 188) (Int32.ofNat 7) (Int32.ofNat 7) (gH y x o z) = (mM_takePlace (some 188) c 1 (gH y x o z)).bind fun h => some (1, h) := by
  intro y o z
  rw [mM_takeValue_44, if_neg (by decide), if_neg (by decide), if_neg (by decide), if_neg (by decide), if_neg (by decide), if_neg (by decide), if_neg (by decide), if_pos (by decide), hi_188_12, Option.bind_some, ho_188, Option.bind_some, h]
theorem r44_8 {t : Nat} (h : t < 4) : ∀ y o z, mM_takeValue_44 (some 188) (Int32.ofNat (8 + t)) (Int32.ofNat (8 + t)) (gH y x o z) = (mM_takeMany (some 188) (Int32.ofNat t) (gH y x o z)).bind fun h => some (0, h) := by
  intro y o z
  rw [mM_takeValue_44]
  obtain rfl | rfl | rfl | rfl : t = 0 ∨ t = 1 ∨ t = 2 ∨ t = 3 := by omega
  · rw [if_neg (by decide), if_neg (by decide), if_neg (by decide), if_neg (by decide), if_neg (by decide), if_neg (by decide), if_neg (by decide), if_neg (by decide), if_pos (by decide), ho_188, Option.bind_some, show Int32.ofNat (8 + 0) - 8 = Int32.ofNat 0 by decide]
  · rw [if_neg (by decide), if_neg (by decide), if_neg (by decide), if_neg (by decide), if_neg (by decide), if_neg (by decide), if_neg (by decide), if_neg (by decide), if_neg (by decide), if_pos (by decide), ho_188, Option.bind_some, show Int32.ofNat (8 + 1) - 8 = Int32.ofNat 1 by decide]
  · rw [if_neg (by decide), if_neg (by decide), if_neg (by decide), if_neg (by decide), if_neg (by decide), if_neg (by decide), if_neg (by decide), if_neg (by decide), if_neg (by decide), if_neg (by decide), if_pos (by decide), ho_188, Option.bind_some, show Int32.ofNat (8 + 2) - 8 = Int32.ofNat 2 by decide]
  · rw [if_neg (by decide), if_neg (by decide), if_neg (by decide), if_neg (by decide), if_neg (by decide), if_neg (by decide), if_neg (by decide), if_neg (by decide), if_neg (by decide), if_neg (by decide), if_neg (by decide), if_pos (by decide), ho_188, Option.bind_some, show Int32.ofNat (8 + 3) - 8 = Int32.ofNat 3 by decide]
theorem r44_12 : ∀ y o z, mM_takeValue_44 (some 188) (Int32.ofNat 12) (Int32.ofNat 12) (gH y x o z) = (mM_takeBuffer (some 188) (gH y x o z)).bind fun h => some (1, h) := by
  intro y o z
  rw [mM_takeValue_44, if_neg (by decide), if_neg (by decide), if_neg (by decide), if_neg (by decide), if_neg (by decide), if_neg (by decide), if_neg (by decide), if_neg (by decide), if_neg (by decide), if_neg (by decide), if_neg (by decide), if_neg (by decide), if_pos (by decide), ho_188, Option.bind_some]
theorem r44_14 : ∀ y o z, mM_takeValue_44 (some 188) (Int32.ofNat 14) (Int32.ofNat 14) (gH y x o z) = (mM_takeStamp (some 188) (gH y x o z)).bind fun h => some (1, h) := by
  intro y o z
  rw [mM_takeValue_44, if_neg (by decide), if_neg (by decide), if_neg (by decide), if_neg (by decide), if_neg (by decide), if_neg (by decide), if_neg (by decide), if_neg (by decide), if_neg (by decide), if_neg (by decide), if_neg (by decide), if_neg (by decide), if_neg (by decide), if_neg (by decide), if_pos (by decide), ho_188, Option.bind_some]
theorem k44_low {t : Nat} {l : Int32} (h : t < 4) : ∀ y o z, crv W l (Int32.ofNat t) (gH u y o z) = cR_settle (some 187) (Int32.ofNat t) 0 (gH u y o z) := by
  intro y o z
  obtain rfl | rfl | rfl | rfl : t = 0 ∨ t = 1 ∨ t = 2 ∨ t = 3 := by omega
  all_goals rw [crv, if_neg (by decide), if_neg (by decide), if_neg (by decide), if_neg (by decide), if_neg (by decide), if_neg (by decide)]
theorem k44_8 {t : Nat} {l : Int32} (h : t < 7) (h5 : ¬ t = 5) : ∀ y o z, crv W l (Int32.ofNat (8 + t)) (gH u y o z) = cR_readObject W (some 187) (some 1) (some 163) (Int32.ofNat t) l (gH u y o z) := by
  intro y o z
  obtain rfl | rfl | rfl | rfl | rfl | rfl : t = 0 ∨ t = 1 ∨ t = 2 ∨ t = 3 ∨ t = 4 ∨ t = 6 := by omega
  all_goals rw [crv, if_neg (by decide), if_neg (by decide), if_neg (by decide), if_neg (by decide), if_neg (by decide), if_pos (by decide)]
  all_goals rfl
/-- one depth less -/
theorem rd_step {D B n : Nat} (hD : D < 12) (ih : gIR n0 f q m (D + 1) B (cR_readValue (n + 1))) : gIR n0 f q m D (8 * (B + 1) + 3) (cR_readValue (n + 1 + 1)) := by
  intro u x N pos G h18
  by_cases c : pos < m ∧ ∃ j, j ≤ 14 ∧ u.2.2.2.2.1 pos = Int32.ofNat j
  · obtain ⟨p, j, hj, e⟩ := c
    have kF := k_crv (n := n + 1) G hD p hj e
    have rF := r_tv G h18 hD p
    rw [e] at rF
    have G1 : gD n0 f q m N (pos + 1) (su u (pos + 1)) (sx x (pos + 1)) := gD_s G (by omega)
    have h18' : (sx x (pos + 1)).2.1 18 = Int32.ofNat D := h18
    have fx : gXf N D x (sx x (pos + 1)) := gXf_s (fun i hi => gup_ne (by omega))
    have fu : gUf N u (su u (pos + 1)) := gUf_r
    generalize su u (pos + 1) = u1 at *
    generalize sx x (pos + 1) = x1 at *
    have one : ∀ {A M : gx_H → Option gx_H}, gOb2 n0 f q m D N u1 x1 A M → (∀ y o z, mM_takeValue_44 (some 188) (Int32.ofNat j) (Int32.ofNat j) (gH y x1 o z) = (M (gH y x1 o z)).bind fun h => some (1, h)) → (∀ y o z, crv (cR_readValue (n + 1)) (Int32.ofNat (D + 1)) (Int32.ofNat j) (gH u1 y o z) = A (gH u1 y o z)) → gVal n0 f q m D (8 * (B + 1) + 3) N 1 u x (cR_readValue (n + 1 + 1) (some 187) (some 1) (some 163) (Int32.ofNat (D + 1))) := by
      intro A M a1 a2 a3
      exact gVal_mono (gVal_ob2 a1 G.gg fx fu (fun y o z => (rF y o z).trans (a2 y o z)) (fun y o z => (kF y o z).trans (a3 y o z))) (by omega)
    rcases (by omega : j < 4 ∨ j = 4 ∨ j = 5 ∨ j = 6 ∨ j = 7 ∨ (8 ≤ j ∧ j < 12) ∨ j = 12 ∨ j = 13 ∨ j = 14) with a | rfl | rfl | rfl | rfl | a | rfl | rfl | rfl
    · exact one (gOb2_pr (p_low a G1) h18') (r44_low a) (k44_low a)
    · exact one (gOb2_pr (p_int2 G1) h18') r44_4 (fun y o z => by rw [crv, if_pos (by decide)])
    · exact one (gOb2_pr (p_text2 G1) h18') r44_5 (fun y o z => by rw [crv, if_neg (by decide), if_pos (by decide)])
    · refine one (gOb2_pr (p_place (c := N - f) (base := f) (fl := 0) G1 (Or.inl ⟨rfl, rfl, rfl⟩)) h18') (r44_6 G1.be) (fun y o z => ?_)
      have fN := G1.fN
      rw [crv, if_neg (by decide), if_neg (by decide), if_pos (by decide), hi_187_6, Option.bind_some, hi_1_1, Option.bind_some, Option.bind_some, G1.fi, G1.un, show Int32.ofNat N - Int32.ofNat f = Int32.ofNat (N - f) from (Int32.ofNat_sub _ _ fN).symm]
    · refine one (gOb2_pr (p_place (c := q) (base := n0) (fl := 1) G1 (Or.inr ⟨rfl, rfl, rfl⟩)) h18') (r44_7 G1.xq) (fun y o z => ?_)
      rw [crv, if_neg (by decide), if_neg (by decide), if_neg (by decide), if_pos (by decide), hi_187_4, Option.bind_some, hi_187_5, Option.bind_some, G1.fh, G1.hc]
    · obtain ⟨t, rfl⟩ : ∃ t, j = 8 + t := ⟨j - 8, by omega⟩
      have ht : t < 4 := by omega
      exact gVal_pre fu (fun y o z => (kF y o z).trans (k44_8 (by omega) (by omega) y o z)) (rd_many ht (by omega) ih gDe_rv G1 h18' G.gg fx (fun y o z => (rF y o z).trans (r44_8 ht y o z)))
    · exact one (rd_buf G1 h18') r44_12 (fun y o z => (k44_8 (t := 4) (by omega) (by omega) y o z).trans rfl)
    · refine gVal_pre fu (fun y o z => (kF y o z).trans ?_) (rd_view (W := cR_readValue (n + 1)) (t := Int32.ofNat 13) (by omega) ih gDe_rv G1 h18' G.gg fx rF)
      rw [crv, if_neg (by decide), if_neg (by decide), if_neg (by decide), if_neg (by decide), if_pos (by decide)]
    · exact one (rd_stamp G1 h18') r44_14 (fun y o z => (k44_8 (t := 6) (by omega) (by omega) y o z).trans rfl)
  · obtain ⟨r, r1, r2⟩ := k_crv0 (n := n + 1) G c hD
    by_cases p : pos < m
    · obtain ⟨b, b1, b2⟩ := G.b8 pos p
      have hb : 14 < b := by
        by_cases h : 14 < b
        · exact h
        · exact absurd ⟨p, b, by omega, b2⟩ c
      have rF := r_tv G h18 hD p
      rw [b2] at rF
      refine gVal_bad (u' := ((u.1, u.2.1, u.2.2.1, u.2.2.2.1, u.2.2.2.2.1, u.2.2.2.2.2.1, u.2.2.2.2.2.2.1, u.2.2.2.2.2.2.2.1, u.2.2.2.2.2.2.2.2.1, u.2.2.2.2.2.2.2.2.2.1, u.2.2.2.2.2.2.2.2.2.2.1, u.2.2.2.2.2.2.2.2.2.2.2.1, r, u.2.2.2.2.2.2.2.2.2.2.2.2.2.1, u.2.2.2.2.2.2.2.2.2.2.2.2.2.2) : gU)) (x' := (((sx x (pos + 1)).1, gup (sx x (pos + 1)).2.1 31 0, (sx x (pos + 1)).2.2.1, (sx x (pos + 1)).2.2.2.1, (sx x (pos + 1)).2.2.2.2.1, (sx x (pos + 1)).2.2.2.2.2.1, (sx x (pos + 1)).2.2.2.2.2.2.1, (sx x (pos + 1)).2.2.2.2.2.2.2.1, (sx x (pos + 1)).2.2.2.2.2.2.2.2.1, (sx x (pos + 1)).2.2.2.2.2.2.2.2.2.1, (sx x (pos + 1)).2.2.2.2.2.2.2.2.2.2.1, (sx x (pos + 1)).2.2.2.2.2.2.2.2.2.2.2.1, (sx x (pos + 1)).2.2.2.2.2.2.2.2.2.2.2.2.1, (sx x (pos + 1)).2.2.2.2.2.2.2.2.2.2.2.2.2.1, (sx x (pos + 1)).2.2.2.2.2.2.2.2.2.2.2.2.2.2.1, (sx x (pos + 1)).2.2.2.2.2.2.2.2.2.2.2.2.2.2.2) : gX)) r2 gUf_r r1 (gRF_mono (gRF_val (t := 1) G.gg (fun y o z => (rF y o z).trans (r_44none hb b1 y o z)) rfl) (by omega)) ⟨fun _ _ => rfl, fun i hi => ?_, rfl, rfl, rfl, rfl⟩
      show gup (gup x.2.1 32 (Int32.ofNat (pos + 1))) 31 0 i = _
      rw [gup_ne (by omega), gup_ne (by omega)]
    · obtain ⟨x', h1, h2, h3⟩ := r_tv0 (N := N) G h18 hD p
      exact gVal_bad (u' := ((u.1, u.2.1, u.2.2.1, u.2.2.2.1, u.2.2.2.2.1, u.2.2.2.2.2.1, u.2.2.2.2.2.2.1, u.2.2.2.2.2.2.2.1, u.2.2.2.2.2.2.2.2.1, u.2.2.2.2.2.2.2.2.2.1, u.2.2.2.2.2.2.2.2.2.2.1, u.2.2.2.2.2.2.2.2.2.2.2.1, r, u.2.2.2.2.2.2.2.2.2.2.2.2.2.1, u.2.2.2.2.2.2.2.2.2.2.2.2.2.2) : gU)) r2 gUf_r r1 (gRF_mono (gRF_val (t := 1) G.gg h3 h1) (by omega)) h2
/-- how many turns at most -/
def gBr : Nat → Nat
  | 0 => 2
  | t + 1 => 8 * (gBr t + 1) + 3
theorem rd_val : ∀ t D n, D + t = 12 → gIR n0 f q m D (gBr t) (cR_readValue (n + t + 1)) := by
  intro t
  induction t with
  | zero =>
    intro D n e
    obtain rfl : D = 12 := by omega
    intro u x N pos G h18
    obtain ⟨x', h1, h2, h3⟩ := r_tvDeep (N := N) h18 G.gg
    exact gVal_bad (u' := ((u.1, u.2.1, u.2.2.1, u.2.2.2.1, u.2.2.2.2.1, u.2.2.2.2.2.1, u.2.2.2.2.2.2.1, u.2.2.2.2.2.2.2.1, u.2.2.2.2.2.2.2.2.1, u.2.2.2.2.2.2.2.2.2.1, u.2.2.2.2.2.2.2.2.2.2.1, u.2.2.2.2.2.2.2.2.2.2.2.1, gup u.2.2.2.2.2.2.2.2.2.2.2.2.1 1 1, u.2.2.2.2.2.2.2.2.2.2.2.2.2.1, u.2.2.2.2.2.2.2.2.2.2.2.2.2.2) : gU)) k_deep gUf_r rfl (gRF_val (t := 1) G.gg h3 h1) h2
  | succ t iht =>
    intro D n e
    exact rd_step (by omega) (iht (D + 1) n (by omega))
theorem gBr12 : gBr 12 < 1000000000000 := by decide
end H
end
