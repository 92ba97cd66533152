/-! calls that make an object, pass, detach, feed -/
theorem gt_bv255 : ∀ i : Nat, i < 32 → (255#32).getLsbD i = decide (i < 8) := by decide
theorem gt_bx (v : BitVec 64) (s i : Nat) (hs : s ≤ 56) (hi : i < 32) : ((BitVec.signExtend 32 (v.sshiftRight s)).getLsbD i && (255#32).getLsbD i) = ((BitVec.signExtend 32 (v >>> s)).getLsbD i && (255#32).getLsbD i) := by
  rw [gt_bv255 i hi, BitVec.getLsbD_signExtend, BitVec.getLsbD_signExtend, BitVec.getLsbD_sshiftRight, BitVec.getLsbD_ushiftRight]
  have h3 : i < 64 := by omega
  by_cases h : i < 8
  · have h2 : s + i < 64 := by omega
    have h4 : ¬ 64 ≤ i := by omega
    simp [h, hi, h2, h3, h4]
  · simp [h]
/-- byte i of a long, as the reference takes it -/
theorem gt_r {w : Int64} {i : Nat} (hi : i < 8) : Int64.toInt32 ((w >>> (Int32.toInt64 ((8 : Int32) * Int32.ofNat i) &&& 63)) &&& (255 : Int64)) = gt_w w i := by
  unfold gt_w
  rw [Int64.toInt32_and]
  apply Int32.toBitVec_inj.mp
  apply BitVec.eq_of_getLsbD_eq
  intro j hj
  rw [Int32.toBitVec_and, Int32.toBitVec_and, BitVec.getLsbD_and, BitVec.getLsbD_and]
  rcases (by omega : i = 0 ∨ i = 1 ∨ i = 2 ∨ i = 3 ∨ i = 4 ∨ i = 5 ∨ i = 6 ∨ i = 7) with rfl | rfl | rfl | rfl | rfl | rfl | rfl | rfl
  · have e1 : ((Int32.toInt64 ((8 : Int32) * Int32.ofNat 0)).toUInt64 &&& Int64.toUInt64 63) = 0 := by decide
    have e2 : (Int32.toInt64 ((8 : Int32) * Int32.ofNat 0) &&& 63) = 0 := by decide
    rw [e1, e2]
    simpa using gt_bx w.toBitVec 0 j (by decide) hj
  · have e1 : ((Int32.toInt64 ((8 : Int32) * Int32.ofNat 1)).toUInt64 &&& Int64.toUInt64 63) = 8 := by decide
    have e2 : (Int32.toInt64 ((8 : Int32) * Int32.ofNat 1) &&& 63) = 8 := by decide
    rw [e1, e2]
    simpa using gt_bx w.toBitVec 8 j (by decide) hj
  · have e1 : ((Int32.toInt64 ((8 : Int32) * Int32.ofNat 2)).toUInt64 &&& Int64.toUInt64 63) = 16 := by decide
    have e2 : (Int32.toInt64 ((8 : Int32) * Int32.ofNat 2) &&& 63) = 16 := by decide
    rw [e1, e2]
    simpa using gt_bx w.toBitVec 16 j (by decide) hj
  · have e1 : ((Int32.toInt64 ((8 : Int32) * Int32.ofNat 3)).toUInt64 &&& Int64.toUInt64 63) = 24 := by decide
    have e2 : (Int32.toInt64 ((8 : Int32) * Int32.ofNat 3) &&& 63) = 24 := by decide
    rw [e1, e2]
    simpa using gt_bx w.toBitVec 24 j (by decide) hj
  · have e1 : ((Int32.toInt64 ((8 : Int32) * Int32.ofNat 4)).toUInt64 &&& Int64.toUInt64 63) = 32 := by decide
    have e2 : (Int32.toInt64 ((8 : Int32) * Int32.ofNat 4) &&& 63) = 32 := by decide
    rw [e1, e2]
    simpa using gt_bx w.toBitVec 32 j (by decide) hj
  · have e1 : ((Int32.toInt64 ((8 : Int32) * Int32.ofNat 5)).toUInt64 &&& Int64.toUInt64 63) = 40 := by decide
    have e2 : (Int32.toInt64 ((8 : Int32) * Int32.ofNat 5) &&& 63) = 40 := by decide
    rw [e1, e2]
    simpa using gt_bx w.toBitVec 40 j (by decide) hj
  · have e1 : ((Int32.toInt64 ((8 : Int32) * Int32.ofNat 6)).toUInt64 &&& Int64.toUInt64 63) = 48 := by decide
    have e2 : (Int32.toInt64 ((8 : Int32) * Int32.ofNat 6) &&& 63) = 48 := by decide
    rw [e1, e2]
    simpa using gt_bx w.toBitVec 48 j (by decide) hj
  · have e1 : ((Int32.toInt64 ((8 : Int32) * Int32.ofNat 7)).toUInt64 &&& Int64.toUInt64 63) = 56 := by decide
    have e2 : (Int32.toInt64 ((8 : Int32) * Int32.ofNat 7) &&& 63) = 56 := by decide
    rw [e1, e2]
    simpa using gt_bx w.toBitVec 56 j (by decide) hj
theorem gt_w8 (w : Int64) (i : Nat) : ∃ b, b < 256 ∧ gt_w w i = Int32.ofNat b := n_255 _
section H
variable {u : gU} {x : gX} {o : Nat → Int64} {z : gx_H}
theorem hb0 {v : Int64} : gv_wJ (gH u x o z) (some 211) 0 v = some (gH u x (gup o 0 v) z) := hb_211 (i := 0) (by omega)
theorem ha0 : gv_lJ (gH u x o z) (some 211) 0 = some (o 0) := ha_211 (i := 0) (by omega)
/-- a thing that has begun -/
def gq_new (q : gQ) (s : Int32) : gQ := ((q.1, q.2.1, q.2.2.1, q.2.2.2.1, gup (gup (gup q.2.2.2.2.1 4 s) 5 0) 6 0, gup q.2.2.2.2.2 10 0) : gQ)
def gp_new (p : gP) (s : Int32) : gP := ((p.1, p.2.1, p.2.2.1, p.2.2.2.1, s, 0, 0, 0) : gP)
theorem k_begin {n : Nat} {s : Int32} (hu : u.2.2.1 1 = Int32.ofNat n) (hn : n < 32) : cS_begin (some 1) s (gH u x o z) = some (Int32.ofNat n, gH ((gup u.1 n (gq_new (u.1 n) s), u.2.1, gup u.2.2.1 1 (Int32.ofNat (n + 1)), u.2.2.2.1, u.2.2.2.2.1, u.2.2.2.2.2.1, u.2.2.2.2.2.2.1, u.2.2.2.2.2.2.2.1, u.2.2.2.2.2.2.2.2.1, u.2.2.2.2.2.2.2.2.2.1, u.2.2.2.2.2.2.2.2.2.2.1, u.2.2.2.2.2.2.2.2.2.2.2.1, u.2.2.2.2.2.2.2.2.2.2.2.2.1, u.2.2.2.2.2.2.2.2.2.2.2.2.2.1, u.2.2.2.2.2.2.2.2.2.2.2.2.2.2) : gU) x o z) := by
  unfold cS_begin
  have hl : Int32.ofNat n < 32 := n_ltl (m := 32) (by omega) (by omega) hn
  simp only [hi_1_1, Option.bind_some, hu, if_pos hl, hr_1_0, hT hn, ho_T hn, cT_begin, hpT_4 hn, hpT_5 hn, hpT_6 hn, hqT_10 hn, gup_eq, gup_gup, hp_1_1, n_succ, n_pred] <;> rfl
theorem k_beginF {s : Int32} (hu : u.2.2.1 1 = Int32.ofNat 32) : cS_begin (some 1) s (gH u x o z) = some (-1, gH u x o z) := by
  unfold cS_begin
  simp only [hi_1_1, Option.bind_some, hu, if_neg (show ¬ Int32.ofNat 32 < 32 by decide)]
theorem k_bor {n : Nat} {s : Int32} (hu : u.2.2.1 1 = Int32.ofNat n) (hn : n < 32) : cG_beginOrRefuse (some 0) s (gH u x o z) = some (.returned (some (.int (Int32.ofNat n))), gH ((gup u.1 n (gq_new (u.1 n) s), u.2.1, gup u.2.2.1 1 (Int32.ofNat (n + 1)), u.2.2.2.1, u.2.2.2.2.1, u.2.2.2.2.2.1, u.2.2.2.2.2.2.1, u.2.2.2.2.2.2.2.1, u.2.2.2.2.2.2.2.2.1, u.2.2.2.2.2.2.2.2.2.1, u.2.2.2.2.2.2.2.2.2.2.1, u.2.2.2.2.2.2.2.2.2.2.2.1, u.2.2.2.2.2.2.2.2.2.2.2.2.1, u.2.2.2.2.2.2.2.2.2.2.2.2.2.1, u.2.2.2.2.2.2.2.2.2.2.2.2.2.2) : gU) x o z) := by
  unfold cG_beginOrRefuse
  simp only [hr_0_0, Option.bind_some, ho_1, k_begin hu hn, if_neg (n_ne1 (n := n) (by omega))]
theorem k_borF {s : Int32} (hu : u.2.2.1 1 = Int32.ofNat 32) : cG_beginOrRefuse (some 0) s (gH u x o z) = some (.threw (212 + z.length), gH u x o (z ++ [(9, [])])) := by
  unfold cG_beginOrRefuse
  simp only [hr_0_0, Option.bind_some, ho_1, k_beginF hu, if_true, hl, hthr]
theorem r_fresh {n : Nat} {s : Int32} (hx : x.2.1 1 = Int32.ofNat n) (hn : n < 32) : mM_fresh (some 188) s (gH u x o z) = some (Int32.ofNat n, gH u ((gup x.1 n (gp_new (x.1 n) s), gup x.2.1 1 (Int32.ofNat (n + 1)), x.2.2.1, x.2.2.2.1, x.2.2.2.2.1, x.2.2.2.2.2.1, x.2.2.2.2.2.2.1, x.2.2.2.2.2.2.2.1, x.2.2.2.2.2.2.2.2.1, x.2.2.2.2.2.2.2.2.2.1, x.2.2.2.2.2.2.2.2.2.2.1, x.2.2.2.2.2.2.2.2.2.2.2.1, x.2.2.2.2.2.2.2.2.2.2.2.2.1, x.2.2.2.2.2.2.2.2.2.2.2.2.2.1, x.2.2.2.2.2.2.2.2.2.2.2.2.2.2.1, x.2.2.2.2.2.2.2.2.2.2.2.2.2.2.2) : gX) o z) := by
  unfold mM_fresh mM_begin
  simp only [hi_188_1, Option.bind_some, hx, ho_188, hr_188_2, hr_188_3, hr_188_4, hr_188_5, hb_189 hn, hb_190 hn, hb_191 hn, hb_192 hn, gup_eq, gup_gup, hp_188_1, n_succ, n_pred, show (0 : Int32) &&& 1 = 0 from rfl] <;> rfl
theorem gO_new {n s : Nat} {q : gQ} {p : gP} (h8 : s < 8) (h5 : ¬ s = 5) : gO n s 0 (gq_new q (Int32.ofNat s)) (gp_new p (Int32.ofNat s)) :=
  ⟨h8, rfl, rfl, rfl, by omega, rfl, Or.inl rfl, fun _ => rfl, fun h => absurd rfl h, fun _ i hi => by omega, fun _ i hi => by omega, fun _ i hi => by omega, fun _ i hi => by omega, fun _ i hi => by omega, fun _ i hi => by omega, fun _ i j _ hi => by omega, fun _ i hi => by omega, fun h => absurd h h5, fun _ => rfl⟩
/-- a new object on both sides -/
theorem gT_new {n m p q : Nat} {q' : gQ} {p' : gP} (T : gTi n m p q u x) (hn : n < 32) (h : ∃ s c, gO (n + 1) s c q' p') : gTi (n + 1) m p q ((gup u.1 n q', u.2.1, gup u.2.2.1 1 (Int32.ofNat (n + 1)), u.2.2.2.1, u.2.2.2.2.1, u.2.2.2.2.2.1, u.2.2.2.2.2.2.1, u.2.2.2.2.2.2.2.1, u.2.2.2.2.2.2.2.2.1, u.2.2.2.2.2.2.2.2.2.1, u.2.2.2.2.2.2.2.2.2.2.1, u.2.2.2.2.2.2.2.2.2.2.2.1, u.2.2.2.2.2.2.2.2.2.2.2.2.1, u.2.2.2.2.2.2.2.2.2.2.2.2.2.1, u.2.2.2.2.2.2.2.2.2.2.2.2.2.2) : gU) ((gup x.1 n p', gup (gup x.2.1 0 0) 1 (Int32.ofNat (n + 1)), x.2.2.1, x.2.2.2.1, x.2.2.2.2.1, x.2.2.2.2.2.1, x.2.2.2.2.2.2.1, x.2.2.2.2.2.2.2.1, x.2.2.2.2.2.2.2.2.1, x.2.2.2.2.2.2.2.2.2.1, x.2.2.2.2.2.2.2.2.2.2.1, x.2.2.2.2.2.2.2.2.2.2.2.1, x.2.2.2.2.2.2.2.2.2.2.2.2.1, x.2.2.2.2.2.2.2.2.2.2.2.2.2.1, x.2.2.2.2.2.2.2.2.2.2.2.2.2.2.1, x.2.2.2.2.2.2.2.2.2.2.2.2.2.2.2) : gX) :=
  ⟨by omega, rfl, rfl, gob_new T.ob h, T.hm, T.um, T.xm, T.bs, T.b8, T.hp, T.up, T.xp, T.pa, fun i hi => by
    obtain ⟨k, h1, h2⟩ := T.pb i hi
    exact ⟨k, by omega, h2⟩, T.hq, T.uq, T.xq, T.ho, T.fo⟩
theorem k_mk1 {t : Int32} {h : gx_H} (g : (¬ t < 0 ∧ ¬ 3 < t) ∨ t = 7) : cG_make (some 0) t h = cG_make_25 (some 0) t h := by
  unfold cG_make cG_make_9
  rcases g with ⟨g1, g2⟩ | g
  · rw [if_neg g1, if_neg g2]
  · subst g; rfl
theorem k_mk0 {t : Int32} {h : gx_H} (g : ¬ ((¬ t < 0 ∧ ¬ 3 < t) ∨ t = 7)) : cG_make (some 0) t h = some (.threw h.length, h ++ [(8, [])]) := by
  unfold cG_make cG_make_9
  have g7 : ¬ t = 7 := fun q => g (Or.inr q)
  by_cases g1 : t < 0
  · rw [if_pos g1, if_neg g7]
  · by_cases g2 : 3 < t
    · rw [if_neg g1, if_pos g2, if_neg g7]
    · exact absurd (Or.inl ⟨g1, g2⟩) g
theorem r_mk1 {t : Int32} {h : gx_H} (g : (¬ t < 0 ∧ ¬ 3 < t) ∨ t = 7) : mM_make (some 188) t h = mM_make_31 (some 188) t (some 188) 0 h := by
  unfold mM_make mM_make_9 mM_make_15 mM_make_20
  rcases g with ⟨g1, g2⟩ | g
  · rw [if_neg g1, if_neg g2, if_neg (by decide)]
  · subst g; rfl
theorem r_mk0 {t : Int32} {h : gx_H} (g : ¬ ((¬ t < 0 ∧ ¬ 3 < t) ∨ t = 7)) : mM_make (some 188) t h = mM_make_31 (some 188) t (some 188) 1 h := by
  unfold mM_make mM_make_9 mM_make_15 mM_make_20
  have g7 : ¬ t = 7 := fun q => g (Or.inr q)
  by_cases g1 : t < 0
  · rw [if_pos g1, if_neg g7]; rfl
  · by_cases g2 : 3 < t
    · rw [if_neg g1, if_pos g2, if_neg g7]; rfl
    · exact absurd (Or.inl ⟨g1, g2⟩) g
theorem n_32 {n : Nat} (h : n < 32) : ¬ Int32.ofNat n = 32 := fun q => by
  have := (n_eq (m := 32) (by omega) (by omega)).mp q
  omega
/-- what a call that may throw answers, and that both sides go on tied -/
def gAns (u : gU) (x : gX) (o : Nat → Int64) (z : gx_H) (L : gx_H → Option (Int32 × gx_H)) (M : gx_H → Option (Int32 × gx_H)) : Prop := ∃ e u' o' z' r x', L (gH u x o z) = some (e, gH u' x o' z') ∧ M (gH u' x o' z') = some (r, gH u' x' o' z') ∧ x'.2.1 0 = e ∧ (e = 0 → o' 0 = Int32.toInt64 r) ∧ gTT u' x' ∧ z'.length ≤ z.length + 1
theorem t_make {t : Int32} (h : gTT u x) : gAns u x o z (lw_make (some 0) t (some 211)) (mM_make (some 188) t) := by
  obtain ⟨n, m, p, q, T⟩ := h
  by_cases g : (¬ t < 0 ∧ ¬ 3 < t) ∨ t = 7
  · by_cases hn : n < 32
    · have hs : ∃ s, s < 8 ∧ ¬ s = 5 ∧ t = Int32.ofNat s := by
        rcases g with ⟨g1, g2⟩ | g
        · obtain ⟨s, h1, h2⟩ := n_le (m := 3) g1 g2 (by omega)
          exact ⟨s, by omega, by omega, h2⟩
        · exact ⟨7, by omega, by omega, g⟩
      obtain ⟨s, s1, s2, rfl⟩ := hs
      refine ⟨0, _, gup o 0 (Int32.toInt64 (Int32.ofNat n)), z, Int32.ofNat n, _, ?_, ?_, ?_, ?_, ⟨n + 1, m, p, q, gT_new T hn ⟨s, 0, gO_new (q := u.1 n) (p := x.1 n) s1 s2⟩⟩, by omega⟩
      · simp only [lw_make, ho_0, Option.bind_some, k_mk1 g, cG_make_25, k_bor T.un hn, hb0]
      · simp only [r_mk1 g, mM_make_31, hi_188_1, Option.bind_some, T.xn, if_neg (n_32 hn), mM_make_45, ho_188, r_ref]
        simp only [true_and, if_true, r_fresh (x := ((x.1, gup x.2.1 0 0, x.2.2.1, x.2.2.2.1, x.2.2.2.2.1, x.2.2.2.2.2.1, x.2.2.2.2.2.2.1, x.2.2.2.2.2.2.2.1, x.2.2.2.2.2.2.2.2.1, x.2.2.2.2.2.2.2.2.2.1, x.2.2.2.2.2.2.2.2.2.2.1, x.2.2.2.2.2.2.2.2.2.2.2.1, x.2.2.2.2.2.2.2.2.2.2.2.2.1, x.2.2.2.2.2.2.2.2.2.2.2.2.2.1, x.2.2.2.2.2.2.2.2.2.2.2.2.2.2.1, x.2.2.2.2.2.2.2.2.2.2.2.2.2.2.2) : gX)) (n := n) T.xn hn, Option.bind_some]
      · rfl
      · intro _; rfl
    · obtain rfl : n = 32 := by have := T.hn; omega
      refine ⟨2, u, o, z ++ [(9, [])], 0, ((x.1, gup x.2.1 0 2, x.2.2.1, x.2.2.2.1, x.2.2.2.2.1, x.2.2.2.2.2.1, x.2.2.2.2.2.2.1, x.2.2.2.2.2.2.2.1, x.2.2.2.2.2.2.2.2.1, x.2.2.2.2.2.2.2.2.2.1, x.2.2.2.2.2.2.2.2.2.2.1, x.2.2.2.2.2.2.2.2.2.2.2.1, x.2.2.2.2.2.2.2.2.2.2.2.2.1, x.2.2.2.2.2.2.2.2.2.2.2.2.2.1, x.2.2.2.2.2.2.2.2.2.2.2.2.2.2.1, x.2.2.2.2.2.2.2.2.2.2.2.2.2.2.2) : gX), ?_, ?_, rfl, fun q => absurd q (by decide), gTT_0 ⟨_, m, p, q, T⟩, by simp⟩
      · simp only [lw_make, ho_0, Option.bind_some, k_mk1 g, cG_make_25, k_borF T.un, hexc] <;> rfl
      · simp only [r_mk1 g, mM_make_31, hi_188_1, Option.bind_some, T.xn, show Int32.ofNat 32 = 32 from rfl, if_true, mM_make_45, ho_188, r_ref] <;> rfl
  · refine ⟨1, u, o, z ++ [(8, [])], 0, ((x.1, gup x.2.1 0 1, x.2.2.1, x.2.2.2.1, x.2.2.2.2.1, x.2.2.2.2.2.1, x.2.2.2.2.2.2.1, x.2.2.2.2.2.2.2.1, x.2.2.2.2.2.2.2.2.1, x.2.2.2.2.2.2.2.2.2.1, x.2.2.2.2.2.2.2.2.2.2.1, x.2.2.2.2.2.2.2.2.2.2.2.1, x.2.2.2.2.2.2.2.2.2.2.2.2.1, x.2.2.2.2.2.2.2.2.2.2.2.2.2.1, x.2.2.2.2.2.2.2.2.2.2.2.2.2.2.1, x.2.2.2.2.2.2.2.2.2.2.2.2.2.2.2) : gX), ?_, ?_, rfl, fun q => absurd q (by decide), gTT_0 ⟨n, m, p, q, T⟩, by simp⟩
    · simp only [lw_make, ho_0, Option.bind_some, k_mk0 g, hl, hthr, hexc] <;> rfl
    · simp only [r_mk0 g, mM_make_31, hi_188_1, Option.bind_some, T.xn]
      by_cases c : Int32.ofNat n = 32
      · simp only [if_pos c, mM_make_45, ho_188, Option.bind_some, r_ref] <;> rfl
      · simp only [if_neg c, mM_make_45, ho_188, Option.bind_some, r_ref] <;> rfl
end H
