/-! read: the objects that hold others are begun -/
section H
variable {n0 f q m N pos : Nat} {u : gU} {x : gX} {W : gWr}
def xp (x : gX) (D : Nat) (a b : Int32) : gX := ((x.1, gup x.2.1 18 (Int32.ofNat (D + 1)), x.2.2.1, x.2.2.2.1, x.2.2.2.2.1, x.2.2.2.2.2.1, gup x.2.2.2.2.2.2.1 D a, gup x.2.2.2.2.2.2.2.1 D 0, gup x.2.2.2.2.2.2.2.2.1 D b, x.2.2.2.2.2.2.2.2.2.1, x.2.2.2.2.2.2.2.2.2.2.1, x.2.2.2.2.2.2.2.2.2.2.2.1, x.2.2.2.2.2.2.2.2.2.2.2.2.1, x.2.2.2.2.2.2.2.2.2.2.2.2.2.1, x.2.2.2.2.2.2.2.2.2.2.2.2.2.2.1, x.2.2.2.2.2.2.2.2.2.2.2.2.2.2.2) : gX)
theorem gXf_p {D : Nat} {a b : Int32} : gXf N D x (xp x D a b) :=
  ⟨⟨fun _ _ => rfl, fun j hj => gup_ne (by omega), rfl, rfl, rfl, rfl⟩, fun j hj => ⟨gup_ne (by omega), gup_ne (by omega), gup_ne (by omega)⟩, fun _ _ => rfl, fun _ _ => ⟨rfl, rfl, rfl⟩⟩
theorem gD_p {D : Nat} {a b : Int32} (G : gD n0 f q m N pos u x) : gD n0 f q m N pos u (xp x D a b) := gD_x G rfl rfl rfl rfl (fun _ _ _ => rfl) rfl (fun i a _ _ => gup_ne a) rfl rfl
theorem gPi_p {D k c : Nat} : gPi D k 0 c (xp x D (Int32.ofNat k) (Int32.ofNat c)) := by
  refine ⟨?_, ?_, ?_, ?_⟩
  · show gup x.2.1 18 (Int32.ofNat (D + 1)) 18 = _
    exact gup_eq
  · show gup x.2.2.2.2.2.2.1 D (Int32.ofNat k) D = _
    exact gup_eq
  · show gup x.2.2.2.2.2.2.2.1 D 0 D = _
    exact gup_eq
  · show gup x.2.2.2.2.2.2.2.2.1 D (Int32.ofNat c) D = _
    exact gup_eq
theorem r_43 {D k : Nat} {l v : Int32} (hg : x.2.1 31 = 1) (h18 : x.2.1 18 = Int32.ofNat D) (hD : D < 14) : ∀ y o z, mM_takeMany_43 (some 188) l (Int32.ofNat k) v (gH y x o z) = some (gH y (xp x D (Int32.ofNat k) (if l = 2 then 2 * v else v)) o z) := by
  intro y o z
  rw [mM_takeMany_43, hi_188_31, Option.bind_some, if_neg (show ¬ x.2.1 31 = 0 by rw [hg]; exact i_10)]
  by_cases c : l = 2
  · rw [if_pos c, if_pos c, mM_takeMany_65, ho_188, Option.bind_some, r_pushR h18 hD, Option.bind_some]
    rfl
  · rw [if_neg c, if_neg c, mM_takeMany_65, ho_188, Option.bind_some, r_pushR h18 hD, Option.bind_some]
    rfl
theorem r_43d {k l v : Int32} (hg : x.2.1 31 = 0) : ∀ y o z, mM_takeMany_43 (some 188) l k v (gH y x o z) = some (gH y x o z) := by
  intro y o z
  rw [mM_takeMany_43, hi_188_31, Option.bind_some, if_pos hg]
theorem r_upD {t : Int32} (h : x.2.1 31 = 0) : ∃ s, s 31 = 0 ∧ gKs x.2.1 s ∧ ∀ y o z, mM_nextUpTo (some 188) t (gH y x o z) = some (0, gH y ((x.1, s, x.2.2.1, x.2.2.2.1, x.2.2.2.2.1, x.2.2.2.2.2.1, x.2.2.2.2.2.2.1, x.2.2.2.2.2.2.2.1, x.2.2.2.2.2.2.2.2.1, x.2.2.2.2.2.2.2.2.2.1, x.2.2.2.2.2.2.2.2.2.2.1, x.2.2.2.2.2.2.2.2.2.2.2.1, x.2.2.2.2.2.2.2.2.2.2.2.2.1, x.2.2.2.2.2.2.2.2.2.2.2.2.2.1, x.2.2.2.2.2.2.2.2.2.2.2.2.2.2.1, x.2.2.2.2.2.2.2.2.2.2.2.2.2.2.2) : gX) o z) := by
  obtain ⟨s, s1, s2, s3⟩ := r_nxDead h
  have e31 : gup s 31 0 31 = 0 := rfl
  refine ⟨gup s 31 0, rfl, fun i hi => (gup_ne (by omega)).trans (s2 i hi), fun y o z => ?_⟩
  rw [mM_nextUpTo, ho_188, Option.bind_some, s3, Option.bind_some, hi_188_31, Option.bind_some, if_pos (show s 31 = 0 from s1), mM_nextUpTo_22, mM_nextUpTo_23, if_neg (by decide), hp_188_31, Option.bind_some, hi_188_31, Option.bind_some, if_pos (show gup s 31 0 31 = 0 from e31)]
/-- how many, at most -/
def gmx (t : Nat) : Nat := if t = 1 then 8 else if t = 2 then 4 else 5
theorem r_manyTop {t : Nat} (ht : t < 4) (G : gD n0 f q m N pos u x) (hN : N < 32) : ∀ y o z, mM_takeMany (some 188) (Int32.ofNat t) (gH y x o z) = if t = 0 then mM_takeMany_43 (some 188) (Int32.ofNat t) (Int32.ofNat N) 0 (gH y (xe (xb x N (Int32.ofNat t)) N f) o z) else (mM_nextUpTo (some 188) (Int32.ofNat (gmx t)) (gH y (xe (xb x N (Int32.ofNat t)) N f) o z)).bind fun r4 => mM_takeMany_43 (some 188) (Int32.ofNat t) (Int32.ofNat N) r4.1 r4.2 := by
  intro y o z
  rw [mM_takeMany, ho_188, Option.bind_some, r_no1 G hN, Option.bind_some, ho_188, Option.bind_some, r_en (x := xb x N (Int32.ofNat t)) (f := f) G.gg G.be G.fN hN, Option.bind_some]
  obtain rfl | rfl | rfl | rfl : t = 0 ∨ t = 1 ∨ t = 2 ∨ t = 3 := by omega
  · rw [if_pos (show Int32.ofNat 0 = 0 by decide), if_pos rfl]
  · rw [if_neg (show ¬ Int32.ofNat 1 = 0 by decide), if_pos (show Int32.ofNat 1 = 1 by decide), if_neg (by omega), mM_takeMany_40, ho_188, Option.bind_some]
    rfl
  · rw [if_neg (show ¬ Int32.ofNat 2 = 0 by decide), if_neg (show ¬ Int32.ofNat 2 = 1 by decide), if_pos (show Int32.ofNat 2 = 2 by decide), if_neg (by omega), mM_takeMany_40, ho_188, Option.bind_some]
    rfl
  · rw [if_neg (show ¬ Int32.ofNat 3 = 0 by decide), if_neg (show ¬ Int32.ofNat 3 = 1 by decide), if_neg (show ¬ Int32.ofNat 3 = 2 by decide), if_neg (by omega), mM_takeMany_40, ho_188, Option.bind_some]
    rfl
theorem r_many32 {t : Nat} (ht : t < 4) (G : gD n0 f q m 32 pos u x) : ∃ x', x'.2.1 31 = 0 ∧ gXd 32 x x' ∧ ∀ y o z, mM_takeMany (some 188) (Int32.ofNat t) (gH y x o z) = some (gH y x' o z) := by
  have e31 : (((x.1, gup x.2.1 31 0, x.2.2.1, x.2.2.2.1, x.2.2.2.2.1, x.2.2.2.2.2.1, x.2.2.2.2.2.2.1, x.2.2.2.2.2.2.2.1, x.2.2.2.2.2.2.2.2.1, x.2.2.2.2.2.2.2.2.2.1, x.2.2.2.2.2.2.2.2.2.2.1, x.2.2.2.2.2.2.2.2.2.2.2.1, x.2.2.2.2.2.2.2.2.2.2.2.2.1, x.2.2.2.2.2.2.2.2.2.2.2.2.2.1, x.2.2.2.2.2.2.2.2.2.2.2.2.2.2.1, x.2.2.2.2.2.2.2.2.2.2.2.2.2.2.2) : gX) : gX).2.1 31 = 0 := rfl
  have d0 : gXd 32 x ((x.1, gup x.2.1 31 0, x.2.2.1, x.2.2.2.1, x.2.2.2.2.1, x.2.2.2.2.2.1, x.2.2.2.2.2.2.1, x.2.2.2.2.2.2.2.1, x.2.2.2.2.2.2.2.2.1, x.2.2.2.2.2.2.2.2.2.1, x.2.2.2.2.2.2.2.2.2.2.1, x.2.2.2.2.2.2.2.2.2.2.2.1, x.2.2.2.2.2.2.2.2.2.2.2.2.1, x.2.2.2.2.2.2.2.2.2.2.2.2.2.1, x.2.2.2.2.2.2.2.2.2.2.2.2.2.2.1, x.2.2.2.2.2.2.2.2.2.2.2.2.2.2.2) : gX) := ⟨fun _ _ => rfl, fun j hj => gup_ne (by omega), rfl, rfl, rfl, rfl⟩
  have top : ∀ y o z, mM_takeMany (some 188) (Int32.ofNat t) (gH y x o z) = if t = 0 then mM_takeMany_43 (some 188) (Int32.ofNat t) 31 0 (gH y ((x.1, gup x.2.1 31 0, x.2.2.1, x.2.2.2.1, x.2.2.2.2.1, x.2.2.2.2.2.1, x.2.2.2.2.2.2.1, x.2.2.2.2.2.2.2.1, x.2.2.2.2.2.2.2.2.1, x.2.2.2.2.2.2.2.2.2.1, x.2.2.2.2.2.2.2.2.2.2.1, x.2.2.2.2.2.2.2.2.2.2.2.1, x.2.2.2.2.2.2.2.2.2.2.2.2.1, x.2.2.2.2.2.2.2.2.2.2.2.2.2.1, x.2.2.2.2.2.2.2.2.2.2.2.2.2.2.1, x.2.2.2.2.2.2.2.2.2.2.2.2.2.2.2) : gX) o z) else (mM_nextUpTo (some 188) (Int32.ofNat (gmx t)) (gH y ((x.1, gup x.2.1 31 0, x.2.2.1, x.2.2.2.1, x.2.2.2.2.1, x.2.2.2.2.2.1, x.2.2.2.2.2.2.1, x.2.2.2.2.2.2.2.1, x.2.2.2.2.2.2.2.2.1, x.2.2.2.2.2.2.2.2.2.1, x.2.2.2.2.2.2.2.2.2.2.1, x.2.2.2.2.2.2.2.2.2.2.2.1, x.2.2.2.2.2.2.2.2.2.2.2.2.1, x.2.2.2.2.2.2.2.2.2.2.2.2.2.1, x.2.2.2.2.2.2.2.2.2.2.2.2.2.2.1, x.2.2.2.2.2.2.2.2.2.2.2.2.2.2.2) : gX) o z)).bind fun r4 => mM_takeMany_43 (some 188) (Int32.ofNat t) 31 r4.1 r4.2 := by
    intro y o z
    rw [mM_takeMany, ho_188, Option.bind_some, r_no0 G, Option.bind_some, ho_188, Option.bind_some, r_en0 (x := ((x.1, gup x.2.1 31 0, x.2.2.1, x.2.2.2.1, x.2.2.2.2.1, x.2.2.2.2.2.1, x.2.2.2.2.2.2.1, x.2.2.2.2.2.2.2.1, x.2.2.2.2.2.2.2.2.1, x.2.2.2.2.2.2.2.2.2.1, x.2.2.2.2.2.2.2.2.2.2.1, x.2.2.2.2.2.2.2.2.2.2.2.1, x.2.2.2.2.2.2.2.2.2.2.2.2.1, x.2.2.2.2.2.2.2.2.2.2.2.2.2.1, x.2.2.2.2.2.2.2.2.2.2.2.2.2.2.1, x.2.2.2.2.2.2.2.2.2.2.2.2.2.2.2) : gX)) e31, Option.bind_some]
    obtain rfl | rfl | rfl | rfl : t = 0 ∨ t = 1 ∨ t = 2 ∨ t = 3 := by omega
    · rw [if_pos (show Int32.ofNat 0 = 0 by decide), if_pos rfl]
    · rw [if_neg (show ¬ Int32.ofNat 1 = 0 by decide), if_pos (show Int32.ofNat 1 = 1 by decide), if_neg (by omega), mM_takeMany_40, ho_188, Option.bind_some]
      rfl
    · rw [if_neg (show ¬ Int32.ofNat 2 = 0 by decide), if_neg (show ¬ Int32.ofNat 2 = 1 by decide), if_pos (show Int32.ofNat 2 = 2 by decide), if_neg (by omega), mM_takeMany_40, ho_188, Option.bind_some]
      rfl
    · rw [if_neg (show ¬ Int32.ofNat 3 = 0 by decide), if_neg (show ¬ Int32.ofNat 3 = 1 by decide), if_neg (show ¬ Int32.ofNat 3 = 2 by decide), if_neg (by omega), mM_takeMany_40, ho_188, Option.bind_some]
      rfl
  by_cases c : t = 0
  · refine ⟨_, e31, d0, fun y o z => ?_⟩
    rw [top, if_pos c, r_43d e31]
  · obtain ⟨s, s1, s2, s3⟩ := r_upD (t := Int32.ofNat (gmx t)) e31
    refine ⟨((x.1, s, x.2.2.1, x.2.2.2.1, x.2.2.2.2.1, x.2.2.2.2.2.1, x.2.2.2.2.2.2.1, x.2.2.2.2.2.2.2.1, x.2.2.2.2.2.2.2.2.1, x.2.2.2.2.2.2.2.2.2.1, x.2.2.2.2.2.2.2.2.2.2.1, x.2.2.2.2.2.2.2.2.2.2.2.1, x.2.2.2.2.2.2.2.2.2.2.2.2.1, x.2.2.2.2.2.2.2.2.2.2.2.2.2.1, x.2.2.2.2.2.2.2.2.2.2.2.2.2.2.1, x.2.2.2.2.2.2.2.2.2.2.2.2.2.2.2) : gX), s1, gXd_trans d0 ⟨fun _ _ => rfl, fun j hj => s2 j (by omega), rfl, rfl, rfl, rfl⟩ (Nat.le_refl _), fun y o z => ?_⟩
    rw [top, if_neg c, s3, Option.bind_some, r_43d (x := ((x.1, s, x.2.2.1, x.2.2.2.1, x.2.2.2.2.1, x.2.2.2.2.2.1, x.2.2.2.2.2.2.1, x.2.2.2.2.2.2.2.1, x.2.2.2.2.2.2.2.2.1, x.2.2.2.2.2.2.2.2.2.1, x.2.2.2.2.2.2.2.2.2.2.1, x.2.2.2.2.2.2.2.2.2.2.2.1, x.2.2.2.2.2.2.2.2.2.2.2.2.1, x.2.2.2.2.2.2.2.2.2.2.2.2.2.1, x.2.2.2.2.2.2.2.2.2.2.2.2.2.2.1, x.2.2.2.2.2.2.2.2.2.2.2.2.2.2.2) : gX)) s1]
theorem n_2m {l : Nat} : (2 : Int32) * Int32.ofNat l = Int32.ofNat (2 * l) := by
  rw [Int32.ofNat_mul]; rfl
theorem k_manyTop {t D : Nat} (ht : t < 4) (t0 : ¬ t = 0) (G : gD n0 f q m N pos u x) (hN : N < 32) : ∀ y o z, cR_readObject W (some 187) (some 1) (some 163) (Int32.ofNat t) (Int32.ofNat (D + 1)) (gH u y o z) = (cR_nextUpTo (some 187) (some 163) (Int32.ofNat (gmx t)) (gH (ub u N (Int32.ofNat t)) y o z)).bind fun r4 => (if t = 1 then cR_readList_12 W 1000000000000000 (some 187) (some 1) (some 163) (some (3 + 5 * N)) (Int32.ofNat (D + 1)) r4.1 0 r4.2 else if t = 2 then cR_readMap_11 W 1000000000000000 (some 187) (some 1) (some 163) (some (3 + 5 * N)) (Int32.ofNat (D + 1)) r4.1 0 r4.2 else cR_readSet_11 W 1000000000000000 (some 187) (some 1) (some 163) (some (3 + 5 * N)) (Int32.ofNat (D + 1)) r4.1 0 r4.2).bind fun h => cR_readObject_128 W (some 187) (Int32.ofNat N) h := by
  intro y o z
  obtain rfl | rfl | rfl : t = 1 ∨ t = 2 ∨ t = 3 := by omega
  · rw [k_obj (D := D) (t := Int32.ofNat 1) G hN (fun h => by rw [if_neg (by decide), if_pos (by decide)]), ho_187, Option.bind_some]
    simp only [cR_readList, ho_187, Option.bind_some, Option.bind_assoc, if_true]
    rfl
  · rw [k_obj (D := D) (t := Int32.ofNat 2) G hN (fun h => by rw [if_neg (by decide), if_neg (by decide), if_pos (by decide)]), ho_187, Option.bind_some]
    simp only [cR_readMap, ho_187, Option.bind_some, Option.bind_assoc, if_neg (show ¬ 2 = 1 by omega), if_true]
    rfl
  · rw [k_obj (D := D) (t := Int32.ofNat 3) G hN (fun h => by rw [if_neg (by decide), if_neg (by decide), if_neg (by decide), if_pos (by decide)]), ho_187, Option.bind_some]
    simp only [cR_readSet, ho_187, Option.bind_some, Option.bind_assoc, if_neg (show ¬ 3 = 1 by omega), if_neg (show ¬ 3 = 2 by omega)]
    rfl
theorem rd_many {t D B : Nat} {x0 : gX} (ht : t < 4) (hD : D + 1 ≤ 12) (ih : gIR n0 f q m (D + 1) B W) (dead : gDe W) (G : gD n0 f q m N pos u x) (h18 : x.2.1 18 = Int32.ofNat D) (hg0 : x0.2.1 31 = 1) (hx0 : gXf N D x0 x) (tv : ∀ y o z, mM_takeValue (some 188) (gH y x0 o z) = (mM_takeMany (some 188) (Int32.ofNat t) (gH y x o z)).bind fun h => some (0, h)) : gVal n0 f q m D (8 * (B + 1) + 3) N 1 u x0 (cR_readObject W (some 187) (some 1) (some 163) (Int32.ofNat t) (Int32.ofNat (D + 1))) := by
  have hN := G.hN
  have fN := G.fN
  have nf := G.nf
  have hD14 : D < 14 := by omega
  by_cases c32 : N < 32
  · have Db := gD_beg (s := t) G c32 (by omega) (by omega)
    have O : gO (N + 1) t 0 ((ub u N (Int32.ofNat t)).1 N) ((xe (xb x N (Int32.ofNat t)) N f).1 N) := by
      show gO (N + 1) t 0 (gup _ _ _ N) (gup _ _ _ N)
      rw [gup_eq, gup_eq]
      exact gO_new (by omega) (by omega)
    have tb : gXf N D x0 (xe (xb x N (Int32.ofNat t)) N f) := by
      refine gXf_trans hx0 (N2 := N) (D2 := D) ⟨⟨fun j hj => gup_ne (by omega), fun j hj => ?_, rfl, rfl, rfl, rfl⟩, fun _ _ => ⟨rfl, rfl, rfl⟩, fun _ _ => rfl, fun _ _ => ⟨rfl, rfl, rfl⟩⟩ (Nat.le_refl _) (Nat.le_refl _)
      show gup (gup x.2.1 33 _) 29 _ j = _
      rw [gup_ne (by omega), gup_ne (by omega)]
    have fb : gUf N u (ub u N (Int32.ofNat t)) := ⟨fun j hj => gup_ne (by omega), rfl, rfl, rfl, rfl, rfl, rfl, rfl⟩
    have hb18 : (xe (xb x N (Int32.ofNat t)) N f).2.1 18 = Int32.ofNat D := h18
    have rT := r_manyTop ht G c32
    have kT := fun (h : ¬ t = 0) => k_manyTop (W := W) (D := D) ht h G c32
    have kR : t = 0 → ∀ y o z, cR_readObject W (some 187) (some 1) (some 163) (Int32.ofNat t) (Int32.ofNat (D + 1)) (gH u y o z) = (cR_readRecord_3 W 1000000000000000 (some 187) (some 1) (some 163) (some (3 + 5 * N)) (Int32.ofNat (D + 1)) 0 (gH (ub u N (Int32.ofNat t)) y o z)).bind fun h => cR_readObject_128 W (some 187) (Int32.ofNat N) h := by
      intro e y o z
      subst e
      rw [k_obj (D := D) (t := Int32.ofNat 0) G c32 (fun h => by rw [if_pos (by decide)]), ho_187, Option.bind_some]
      rfl
    generalize ub u N (Int32.ofNat t) = u1 at Db O fb kT kR
    generalize xe (xb x N (Int32.ofNat t)) N f = x1 at Db O rT tb hb18
    have push : ∀ (x2 : gX) (c : Int32), x2.2.1 31 = 1 → x2.2.1 18 = Int32.ofNat D → (∀ y o z, mM_takeMany (some 188) (Int32.ofNat t) (gH y x o z) = mM_takeMany_43 (some 188) (Int32.ofNat t) (Int32.ofNat N) c (gH y x2 o z)) → gTo 1 1 0 x0 (xp x2 D (Int32.ofNat N) (if Int32.ofNat t = 2 then 2 * c else c)) := by
      intro x2 c e1 e2 e3
      refine gTo_val hg0 (fun y o z => ?_)
      rw [tv, e3, r_43 e1 e2 hD14, Option.bind_some]
    by_cases t0 : t = 0
    · subst t0
      have to := push x1 0 Db.gg hb18 (fun y o z => by rw [rT, if_pos rfl])
      rw [if_neg (show ¬ Int32.ofNat 0 = 2 by decide)] at to
      obtain ⟨G2, hG2⟩ : ∃ G, 1000000000000000 = G + 6 + 1 := ⟨999999999999993, rfl⟩
      have K := rd_recL (D := D) (k := N) hD (by omega) ih dead 6 0 G2 u1 (xp x1 D (Int32.ofNat N) 0) (N + 1) pos (by omega) (gD_p Db) (by omega) O gPi_p
      refine gVal_mono (gVal_step to fb (gXf_trans tb gXf_p (Nat.le_refl N) (Nat.le_refl D)) (fun y o z => ?_) K) (by omega)
      rw [kR rfl, hG2]
      rfl
    · have hmx : gmx t < 256 := by unfold gmx; split; omega; split <;> omega
      by_cases c1 : pos < m ∧ ∃ j, j ≤ gmx t ∧ u1.2.2.2.2.1 pos = Int32.ofNat j
      · obtain ⟨p, l, hl, el⟩ := c1
        have a1 := k_up (t := gmx t) Db p hl hmx el
        have a2 := r_up (t := gmx t) Db p hl hmx el
        have D2 : gD n0 f q m (N + 1) (pos + 1) (su u1 (pos + 1)) (sx x1 (pos + 1)) := gD_s Db (by omega)
        have to := push (sx x1 (pos + 1)) (Int32.ofNat l) D2.gg hb18 (fun y o z => by rw [rT, if_neg t0, a2, Option.bind_some])
        have fx : ∀ c, gXf N D x0 (xp (sx x1 (pos + 1)) D (Int32.ofNat N) c) := fun c => gXf_trans (gXf_trans tb (gXf_s (N := N) (D := D) (fun j hj => gup_ne (by omega))) (Nat.le_refl N) (Nat.le_refl D)) gXf_p (Nat.le_refl N) (Nat.le_refl D)
        have fu : gUf N u (su u1 (pos + 1)) := gUf_trans fb gUf_r (Nat.le_refl N)
        obtain rfl | rfl | rfl : t = 1 ∨ t = 2 ∨ t = 3 := by omega
        · have l8 : l ≤ 8 := hl
          rw [if_neg (show ¬ Int32.ofNat 1 = 2 by decide)] at to
          obtain ⟨G2, hG2⟩ : ∃ G, 1000000000000000 = G + l + 1 := ⟨999999999999999 - l, by omega⟩
          have K := rd_listL (D := D) (k := N) hD (by omega) ih l8 l 0 G2 (su u1 (pos + 1)) (xp (sx x1 (pos + 1)) D (Int32.ofNat N) (Int32.ofNat l)) (N + 1) (pos + 1) (by omega) (gD_p D2) (by omega) O gPi_p
          have bd : l * (B + 1) ≤ 8 * (B + 1) := Nat.mul_le_mul_right _ l8
          refine gVal_mono (gVal_step to fu (fx _) (fun y o z => ?_) K) (by omega)
          rw [kT t0, a1, Option.bind_some, if_pos rfl, hG2]
          rfl
        · have l4 : l ≤ 4 := hl
          rw [if_pos (show Int32.ofNat 2 = 2 by decide), n_2m] at to
          obtain ⟨G2, hG2⟩ : ∃ G, 1000000000000000 = G + l + 1 := ⟨999999999999999 - l, by omega⟩
          have K := rd_mapL (D := D) (k := N) hD (by omega) ih dead l4 l 0 G2 (su u1 (pos + 1)) (xp (sx x1 (pos + 1)) D (Int32.ofNat N) (Int32.ofNat (2 * l))) (N + 1) (pos + 1) (by omega) (gD_p D2) (by omega) O gPi_p
          have bd : l * (2 * (B + 1)) ≤ 4 * (2 * (B + 1)) := Nat.mul_le_mul_right _ l4
          refine gVal_mono (gVal_step to fu (fx _) (fun y o z => ?_) K) (by omega)
          rw [kT t0, a1, Option.bind_some, if_neg (by omega), if_pos rfl, hG2]
          rfl
        · have l5 : l ≤ 5 := hl
          rw [if_neg (show ¬ Int32.ofNat 3 = 2 by decide)] at to
          obtain ⟨G2, hG2⟩ : ∃ G, 1000000000000000 = G + l + 1 := ⟨999999999999999 - l, by omega⟩
          have K := rd_setL (D := D) (k := N) hD (by omega) ih l5 l 0 G2 (su u1 (pos + 1)) (xp (sx x1 (pos + 1)) D (Int32.ofNat N) (Int32.ofNat l)) (N + 1) (pos + 1) (by omega) (gD_p D2) (by omega) O gPi_p
          have bd : l * (B + 1) ≤ 8 * (B + 1) := Nat.mul_le_mul_right _ (by omega)
          refine gVal_mono (gVal_step to fu (fx _) (fun y o z => ?_) K) (by omega)
          rw [kT t0, a1, Option.bind_some, if_neg (by omega), if_neg (by omega), hG2]
          rfl
      · obtain ⟨r1, r2, a1⟩ := k_up0 (t := gmx t) Db hmx c1
        obtain ⟨s1, s2, s3, a2⟩ := r_up0 (t := gmx t) Db hmx c1
        have tk : ∀ y o z, mM_takeValue (some 188) (gH y x0 o z) = some (0, gH y ((x1.1, s1, x1.2.2.1, x1.2.2.2.1, x1.2.2.2.2.1, x1.2.2.2.2.2.1, x1.2.2.2.2.2.2.1, x1.2.2.2.2.2.2.2.1, x1.2.2.2.2.2.2.2.2.1, x1.2.2.2.2.2.2.2.2.2.1, x1.2.2.2.2.2.2.2.2.2.2.1, x1.2.2.2.2.2.2.2.2.2.2.2.1, x1.2.2.2.2.2.2.2.2.2.2.2.2.1, x1.2.2.2.2.2.2.2.2.2.2.2.2.2.1, x1.2.2.2.2.2.2.2.2.2.2.2.2.2.2.1, x1.2.2.2.2.2.2.2.2.2.2.2.2.2.2.2) : gX) o z) := by
          intro y o z
          rw [tv, rT, if_neg t0, a2, Option.bind_some, r_43d (x := ((x1.1, s1, x1.2.2.1, x1.2.2.2.1, x1.2.2.2.2.1, x1.2.2.2.2.2.1, x1.2.2.2.2.2.2.1, x1.2.2.2.2.2.2.2.1, x1.2.2.2.2.2.2.2.2.1, x1.2.2.2.2.2.2.2.2.2.1, x1.2.2.2.2.2.2.2.2.2.2.1, x1.2.2.2.2.2.2.2.2.2.2.2.1, x1.2.2.2.2.2.2.2.2.2.2.2.2.1, x1.2.2.2.2.2.2.2.2.2.2.2.2.2.1, x1.2.2.2.2.2.2.2.2.2.2.2.2.2.2.1, x1.2.2.2.2.2.2.2.2.2.2.2.2.2.2.2) : gX)) s2, Option.bind_some]
        obtain ⟨g, hg⟩ : ∃ g, 1000000000000000 = g + 1 := ⟨999999999999999, rfl⟩
        refine gVal_bad (u' := ((u1.1, u1.2.1, u1.2.2.1, u1.2.2.2.1, u1.2.2.2.2.1, u1.2.2.2.2.2.1, u1.2.2.2.2.2.2.1, u1.2.2.2.2.2.2.2.1, u1.2.2.2.2.2.2.2.2.1, u1.2.2.2.2.2.2.2.2.2.1, u1.2.2.2.2.2.2.2.2.2.2.1, u1.2.2.2.2.2.2.2.2.2.2.2.1, gup (gup r1 2 6) 3 (Int32.ofNat N), u1.2.2.2.2.2.2.2.2.2.2.2.2.2.1, u1.2.2.2.2.2.2.2.2.2.2.2.2.2.2) : gU)) (fun y o z => ?_) (gUf_trans fb gUf_r (Nat.le_refl N)) r2 (gRF_mono (gRF_val hg0 tk s2) (by omega)) (gXd_trans tb.fd ⟨fun _ _ => rfl, fun j hj => s3 j (by omega), rfl, rfl, rfl, rfl⟩ (Nat.le_refl N))
        rw [kT t0, a1, Option.bind_some, hg, k_listD (u := ((u1.1, u1.2.1, u1.2.2.1, u1.2.2.2.1, u1.2.2.2.2.1, u1.2.2.2.2.2.1, u1.2.2.2.2.2.2.1, u1.2.2.2.2.2.2.2.1, u1.2.2.2.2.2.2.2.2.1, u1.2.2.2.2.2.2.2.2.2.1, u1.2.2.2.2.2.2.2.2.2.2.1, u1.2.2.2.2.2.2.2.2.2.2.2.1, r1, u1.2.2.2.2.2.2.2.2.2.2.2.2.2.1, u1.2.2.2.2.2.2.2.2.2.2.2.2.2.2) : gU)) r2, k_mapD (u := ((u1.1, u1.2.1, u1.2.2.1, u1.2.2.2.1, u1.2.2.2.2.1, u1.2.2.2.2.2.1, u1.2.2.2.2.2.2.1, u1.2.2.2.2.2.2.2.1, u1.2.2.2.2.2.2.2.2.1, u1.2.2.2.2.2.2.2.2.2.1, u1.2.2.2.2.2.2.2.2.2.2.1, u1.2.2.2.2.2.2.2.2.2.2.2.1, r1, u1.2.2.2.2.2.2.2.2.2.2.2.2.2.1, u1.2.2.2.2.2.2.2.2.2.2.2.2.2.2) : gU)) r2, k_setD (u := ((u1.1, u1.2.1, u1.2.2.1, u1.2.2.2.1, u1.2.2.2.2.1, u1.2.2.2.2.2.1, u1.2.2.2.2.2.2.1, u1.2.2.2.2.2.2.2.1, u1.2.2.2.2.2.2.2.2.1, u1.2.2.2.2.2.2.2.2.2.1, u1.2.2.2.2.2.2.2.2.2.2.1, u1.2.2.2.2.2.2.2.2.2.2.2.1, r1, u1.2.2.2.2.2.2.2.2.2.2.2.2.2.1, u1.2.2.2.2.2.2.2.2.2.2.2.2.2.2) : gU)) r2, ite_self, ite_self, Option.bind_some, k_128]
  · obtain rfl : N = 32 := by omega
    obtain ⟨x', h1, h2, h3⟩ := r_many32 ht G
    refine gVal_bad (k_obj0 G) gUf_r rfl (gRF_mono (gRF_val (t := 0) hg0 (fun y o z => ?_) h1) (by omega)) (gXd_trans hx0.fd h2 (Nat.le_refl _))
    rw [tv, h3, Option.bind_some]
end H
