/-! read: a value at any depth -/
section H
variable {n0 f q m N pos : Nat} {u : gU} {x : gX} {W : gWr}
theorem gVal_pre {D B : Nat} {u1 : gU} {F F1 : gx_H → Option gx_H} (hu : gUf N u u1) (hF : ∀ y o z, F (gH u y o z) = F1 (gH u1 y o z)) (k : gVal n0 f q m D B N 1 u1 x F1) : gVal n0 f q m D B N 1 u x F :=
  gVal_mono (gVal_step gTo_refl hu gXf_refl hF k) (by omega)
theorem r44_low {t : Nat} (h : t < 4) : ∀ y o z, mM_takeValue_44 (some 188) (Int32.ofNat t) (Int32.ofNat t) (gH y x o z) = (mM_got (some 188) (Int32.ofNat t) 0 (gH y x o z)).bind fun h => some (1, h) := by
  intro y o z
  obtain rfl | rfl | rfl | rfl : t = 0 ∨ t = 1 ∨ t = 2 ∨ t = 3 := by omega
  · rw [mM_takeValue_44, if_pos (by decide), ho_188, Option.bind_some]
  · rw [mM_takeValue_44, if_neg (by decide), if_pos (by decide), ho_188, Option.bind_some]
  · rw [mM_takeValue_44, if_neg (by decide), if_neg (by decide), if_pos (by decide), ho_188, Option.bind_some]
  · rw [mM_takeValue_44, if_neg (by decide), if_neg (by decide), if_neg (by decide), if_pos (by decide), ho_188, Option.bind_some]
theorem r44_4 : ∀ y o z, mM_takeValue_44 (some 188) (Int32.ofNat 4) (Int32.ofNat 4) (gH y x o z) = ((fun h => (mM_lengthy (some 188) 32 h).bind fun r21 => (mM_plain r21.1).bind fun v22 => (gv_is r21.2 (some 188) 7).bind fun _ => mM_got (some 188) 4 (Int64.toInt32 v22) r21.2) (gH y x o z)).bind fun h => some (1, h) := by
  intro y o z
  rw [mM_takeValue_44, if_neg (by decide), if_neg (by decide), if_neg (by decide), if_neg (by decide), if_pos (by decide), ho_188, Option.bind_some]
  simp only [Option.bind_assoc]
theorem r44_5 : ∀ y o z, mM_takeValue_44 (some 188) (Int32.ofNat 5) (Int32.ofNat 5) (gH y x o z) = ((fun h => (mM_text (some 188) h).bind fun r => (gv_is r.2 (some 188) 7).bind fun _ => mM_got (some 188) 5 r.1 r.2) (gH y x o z)).bind fun h => some (1, h) := by
  intro y o z
  rw [mM_takeValue_44, if_neg (by decide), if_neg (by decide), if_neg (by decide), if_neg (by decide), if_neg (by decide), if_pos (by decide), ho_188, Option.bind_some]
  simp only [Option.bind_assoc]
theorem r44_6 {c : Int32} (h : x.2.1 29 = c) : ∀ y o z, mM_takeValue_44 (some 188) (Int32.ofNat 6) (Int32.ofNat 6) (gH y x o z) = (mM_takePlace (some 188) c 0 (gH y x o z)).bind fun h => some (1, h) := by
  intro y o z
  rw [mM_takeValue_44, if_neg (by decide), if_neg (by decide), if_neg (by decide), if_neg (by decide), if_neg (by decide), if_neg (by decide), if_pos (by decide), hi_188_29, Option.bind_some, ho_188, Option.bind_some, h]
theorem r44_7 {c : Int32} (h : x.2.1 12 = c) : ∀ y o z, mM_takeValue_44 (some 188) (Int32.ofNat 7) (Int32.ofNat 7) (gH y x o z) = (mM_takePlace (some 188) c 1 (gH y x o z)).bind fun h => some (1, h) := by
  intro y o z
  rw [mM_takeValue_44, if_neg (by decide), if_neg (by decide), if_neg (by decide), if_neg (by decide), if_neg (by decide), if_neg (by decide), if_neg (by decide), if_pos (by decide), hi_188_12, Option.bind_some, ho_188, Option.bind_some, h]
theorem r44_8 {t : Nat} (h : t < 4) : ∀ y o z, mM_takeValue_44 (some 188) (Int32.ofNat (8 + t)) (Int32.ofNat (8 + t)) (gH y x o z) = (mM_takeMany (some 188) (Int32.ofNat t) (gH y x o z)).bind fun h => some (0, h) := by
  intro y o z
  rw [mM_takeValue_44]
  obtain rfl | rfl | rfl | rfl : t = 0 ∨ t = 1 ∨ t = 2 ∨ t = 3 := by omega
  · rw [if_neg (by decide), if_neg (by decide), if_neg (by decide), if_neg (by decide), if_neg (by decide), if_neg (by decide), if_neg (by decide), if_neg (by decide), if_pos (by decide), ho_188, Option.bind_some, show Int32.ofNat (8 + 0) - 8 = Int32.ofNat 0 by decide]
  · rw [if_neg (by decide), if_neg (by decide), if_neg (by decide), if_neg (by decide), if_neg (by decide), if_neg (by decide), if_neg (by decide), if_neg (by decide), if_neg (by decide), if_pos (by decide), ho_188, Option.bind_some, show Int32.ofNat (8 + 1) - 8 = Int32.ofNat 1 by decide]
  · rw [if_neg (by decide), if_neg (by decide), if_neg (by decide), if_neg (by decide), if_neg (by decide), if_neg (by decide), if_neg (by decide), if_neg (by decide), if_neg (by decide), if_neg (by decide), if_pos (by decide), ho_188, Option.bind_some, show Int32.ofNat (8 + 2) - 8 = Int32.ofNat 2 by decide]
  · rw [if_neg (by decide), if_neg (by decide), if_neg (by decide), if_neg (by decide), if_neg (by decide), if_neg (by decide), if_neg (by decide), if_neg (by decide), if_neg (by decide), if_neg (by decide), if_neg (by decide), if_pos (by decide), ho_188, Option.bind_some, show Int32.ofNat (8 + 3) - 8 = Int32.ofNat 3 by decide]
theorem r44_12 : ∀ y o z, mM_takeValue_44 (some 188) (Int32.ofNat 12) (Int32.ofNat 12) (gH y x o z) = (mM_takeBuffer (some 188) (gH y x o z)).bind fun h => some (1, h) := by
  intro y o z
  rw [mM_takeValue_44, if_neg (by decide), if_neg (by decide), if_neg (by decide), if_neg (by decide), if_neg (by decide), if_neg (by decide), if_neg (by decide), if_neg (by decide), if_neg (by decide), if_neg (by decide), if_neg (by decide), if_neg (by decide), if_pos (by decide), ho_188, Option.bind_some]
theorem r44_14 : ∀ y o z, mM_takeValue_44 (some 188) (Int32.ofNat 14) (Int32.ofNat 14) (gH y x o z) = (mM_takeStamp (some 188) (gH y x o z)).bind fun h => some (1, h) := by
  intro y o z
  rw [mM_takeValue_44, if_neg (by decide), if_neg (by decide), if_neg (by decide), if_neg (by decide), if_neg (by decide), if_neg (by decide), if_neg (by decide), if_neg (by decide), if_neg (by decide), if_neg (by decide), if_neg (by decide), if_neg (by decide), if_neg (by decide), if_neg (by decide), if_pos (by decide), ho_188, Option.bind_some]
theorem k44_low {t : Nat} {l : Int32} (h : t < 4) : ∀ y o z, crv W l (Int32.ofNat t) (gH u y o z) = cR_settle (some 187) (Int32.ofNat t) 0 (gH u y o z) := by
  intro y o z
  obtain rfl | rfl | rfl | rfl : t = 0 ∨ t = 1 ∨ t = 2 ∨ t = 3 := by omega
  all_goals rw [crv, if_neg (by decide), if_neg (by decide), if_neg (by decide), if_neg (by decide), if_neg (by decide), if_neg (by decide)]
theorem k44_8 {t : Nat} {l : Int32} (h : t < 7) (h5 : ¬ t = 5) : ∀ y o z, crv W l (Int32.ofNat (8 + t)) (gH u y o z) = cR_readObject W (some 187) (some 1) (some 163) (Int32.ofNat t) l (gH u y o z) := by
  intro y o z
  obtain rfl | rfl | rfl | rfl | rfl | rfl : t = 0 ∨ t = 1 ∨ t = 2 ∨ t = 3 ∨ t = 4 ∨ t = 6 := by omega
  all_goals rw [crv, if_neg (by decide), if_neg (by decide), if_neg (by decide), if_neg (by decide), if_neg (by decide), if_pos (by decide)]
  all_goals rfl
/-- one depth less -/
theorem rd_step {D B n : Nat} (hD : D < 12) (ih : gIR n0 f q m (D + 1) B (cR_readValue (n + 1))) : gIR n0 f q m D (8 * (B + 1) + 3) (cR_readValue (n + 1 + 1)) := by
  intro u x N pos G h18
  by_cases c : pos < m ∧ ∃ j, j ≤ 14 ∧ u.2.2.2.2.1 pos = Int32.ofNat j
  · obtain ⟨p, j, hj, e⟩ := c
    have kF := k_crv (n := n + 1) G hD p hj e
    have rF := r_tv G h18 hD p
    rw [e] at rF
    have G1 : gD n0 f q m N (pos + 1) (su u (pos + 1)) (sx x (pos + 1)) := gD_s G (by omega)
    have h18' : (sx x (pos + 1)).2.1 18 = Int32.ofNat D := h18
    have fx : gXf N D x (sx x (pos + 1)) := gXf_s (fun i hi => gup_ne (by omega))
    have fu : gUf N u (su u (pos + 1)) := gUf_r
    generalize su u (pos + 1) = u1 at *
    generalize sx x (pos + 1) = x1 at *
    have one : ∀ {A M : gx_H → Option gx_H}, gOb2 n0 f q m D N u1 x1 A M → (∀ y o z, mM_takeValue_44 (some 188) (Int32.ofNat j) (Int32.ofNat j) (gH y x1 o z) = (M (gH y x1 o z)).bind fun h => some (1, h)) → (∀ y o z, crv (cR_readValue (n + 1)) (Int32.ofNat (D + 1)) (Int32.ofNat j) (gH u1 y o z) = A (gH u1 y o z)) → gVal n0 f q m D (8 * (B + 1) + 3) N 1 u x (cR_readValue (n + 1 + 1) (some 187) (some 1) (some 163) (Int32.ofNat (D + 1))) := by
      intro A M a1 a2 a3
      exact gVal_mono (gVal_ob2 a1 G.gg fx fu (fun y o z => (rF y o z).trans (a2 y o z)) (fun y o z => (kF y o z).trans (a3 y o z))) (by omega)
    rcases (by omega : j < 4 ∨ j = 4 ∨ j = 5 ∨ j = 6 ∨ j = 7 ∨ (8 ≤ j ∧ j < 12) ∨ j = 12 ∨ j = 13 ∨ j = 14) with a | rfl | rfl | rfl | rfl | a | rfl | rfl | rfl
    · exact one (gOb2_pr (p_low a G1) h18') (r44_low a) (k44_low a)
    · exact one (gOb2_pr (p_int2 G1) h18') r44_4 (fun y o z => by rw [crv, if_pos (by decide)])
    · exact one (gOb2_pr (p_text2 G1) h18') r44_5 (fun y o z => by rw [crv, if_neg (by decide), if_pos (by decide)])
    · refine one (gOb2_pr (p_place (c := N - f) (base := f) (fl := 0) G1 (Or.inl ⟨rfl, rfl, rfl⟩)) h18') (r44_6 G1.be) (fun y o z => ?_)
      have fN := G1.fN
      rw [crv, if_neg (by decide), if_neg (by decide), if_pos (by decide), hi_187_6, Option.bind_some, hi_1_1, Option.bind_some, Option.bind_some, G1.fi, G1.un, show Int32.ofNat N - Int32.ofNat f = Int32.ofNat (N - f) from (Int32.ofNat_sub _ _ fN).symm]
    · refine one (gOb2_pr (p_place (c := q) (base := n0) (fl := 1) G1 (Or.inr ⟨rfl, rfl, rfl⟩)) h18') (r44_7 G1.xq) (fun y o z => ?_)
      rw [crv, if_neg (by decide), if_neg (by decide), if_neg (by decide), if_pos (by decide), hi_187_4, Option.bind_some, hi_187_5, Option.bind_some, G1.fh, G1.hc]
    · obtain ⟨t, rfl⟩ : ∃ t, j = 8 + t := ⟨j - 8, by omega⟩
      have ht : t < 4 := by omega
      exact gVal_pre fu (fun y o z => (kF y o z).trans (k44_8 (by omega) (by omega) y o z)) (rd_many ht (by omega) ih gDe_rv G1 h18' G.gg fx (fun y o z => (rF y o z).trans (r44_8 ht y o z)))
    · exact one (rd_buf G1 h18') r44_12 (fun y o z => (k44_8 (t := 4) (by omega) (by omega) y o z).trans rfl)
    · refine gVal_pre fu (fun y o z => (kF y o z).trans ?_) (rd_view (W := cR_readValue (n + 1)) (t := Int32.ofNat 13) (by omega) ih gDe_rv G1 h18' G.gg fx rF)
      rw [crv, if_neg (by decide), if_neg (by decide), if_neg (by decide), if_neg (by decide), if_pos (by decide)]
    · exact one (rd_stamp G1 h18') r44_14 (fun y o z => (k44_8 (t := 6) (by omega) (by omega) y o z).trans rfl)
  · obtain ⟨r, r1, r2⟩ := k_crv0 (n := n + 1) G c hD
    by_cases p : pos < m
    · obtain ⟨b, b1, b2⟩ := G.b8 pos p
      have hb : 14 < b := by
        by_cases h : 14 < b
        · exact h
        · exact absurd ⟨p, b, by omega, b2⟩ c
      have rF := r_tv G h18 hD p
      rw [b2] at rF
      refine gVal_bad (u' := ((u.1, u.2.1, u.2.2.1, u.2.2.2.1, u.2.2.2.2.1, u.2.2.2.2.2.1, u.2.2.2.2.2.2.1, u.2.2.2.2.2.2.2.1, u.2.2.2.2.2.2.2.2.1, u.2.2.2.2.2.2.2.2.2.1, u.2.2.2.2.2.2.2.2.2.2.1, u.2.2.2.2.2.2.2.2.2.2.2.1, r, u.2.2.2.2.2.2.2.2.2.2.2.2.2.1, u.2.2.2.2.2.2.2.2.2.2.2.2.2.2) : gU)) (x' := (((sx x (pos + 1)).1, gup (sx x (pos + 1)).2.1 31 0, (sx x (pos + 1)).2.2.1, (sx x (pos + 1)).2.2.2.1, (sx x (pos + 1)).2.2.2.2.1, (sx x (pos + 1)).2.2.2.2.2.1, (sx x (pos + 1)).2.2.2.2.2.2.1, (sx x (pos + 1)).2.2.2.2.2.2.2.1, (sx x (pos + 1)).2.2.2.2.2.2.2.2.1, (sx x (pos + 1)).2.2.2.2.2.2.2.2.2.1, (sx x (pos + 1)).2.2.2.2.2.2.2.2.2.2.1, (sx x (pos + 1)).2.2.2.2.2.2.2.2.2.2.2.1, (sx x (pos + 1)).2.2.2.2.2.2.2.2.2.2.2.2.1, (sx x (pos + 1)).2.2.2.2.2.2.2.2.2.2.2.2.2.1, (sx x (pos + 1)).2.2.2.2.2.2.2.2.2.2.2.2.2.2.1, (sx x (pos + 1)).2.2.2.2.2.2.2.2.2.2.2.2.2.2.2) : gX)) r2 gUf_r r1 (gRF_mono (gRF_val (t := 1) G.gg (fun y o z => (rF y o z).trans (r_44none hb b1 y o z)) rfl) (by omega)) ⟨fun _ _ => rfl, fun i hi => ?_, rfl, rfl, rfl, rfl⟩
      show gup (gup x.2.1 32 (Int32.ofNat (pos + 1))) 31 0 i = _
      rw [gup_ne (by omega), gup_ne (by omega)]
    · obtain ⟨x', h1, h2, h3⟩ := r_tv0 (N := N) G h18 hD p
      exact gVal_bad (u' := ((u.1, u.2.1, u.2.2.1, u.2.2.2.1, u.2.2.2.2.1, u.2.2.2.2.2.1, u.2.2.2.2.2.2.1, u.2.2.2.2.2.2.2.1, u.2.2.2.2.2.2.2.2.1, u.2.2.2.2.2.2.2.2.2.1, u.2.2.2.2.2.2.2.2.2.2.1, u.2.2.2.2.2.2.2.2.2.2.2.1, r, u.2.2.2.2.2.2.2.2.2.2.2.2.2.1, u.2.2.2.2.2.2.2.2.2.2.2.2.2.2) : gU)) r2 gUf_r r1 (gRF_mono (gRF_val (t := 1) G.gg h3 h1) (by omega)) h2
/-- how many turns at most -/
def gBr : Nat → Nat
  | 0 => 2
  | t + 1 => 8 * (gBr t + 1) + 3
theorem rd_val : ∀ t D n, D + t = 12 → gIR n0 f q m D (gBr t) (cR_readValue (n + t + 1)) := by
  intro t
  induction t with
  | zero =>
    intro D n e
    obtain rfl : D = 12 := by omega
    intro u x N pos G h18
    obtain ⟨x', h1, h2, h3⟩ := r_tvDeep (N := N) h18 G.gg
    exact gVal_bad (u' := ((u.1, u.2.1, u.2.2.1, u.2.2.2.1, u.2.2.2.2.1, u.2.2.2.2.2.1, u.2.2.2.2.2.2.1, u.2.2.2.2.2.2.2.1, u.2.2.2.2.2.2.2.2.1, u.2.2.2.2.2.2.2.2.2.1, u.2.2.2.2.2.2.2.2.2.2.1, u.2.2.2.2.2.2.2.2.2.2.2.1, gup u.2.2.2.2.2.2.2.2.2.2.2.2.1 1 1, u.2.2.2.2.2.2.2.2.2.2.2.2.2.1, u.2.2.2.2.2.2.2.2.2.2.2.2.2.2) : gU)) k_deep gUf_r rfl (gRF_val (t := 1) G.gg h3 h1) h2
  | succ t iht =>
    intro D n e
    exact rd_step (by omega) (iht (D + 1) n (by omega))
theorem gBr12 : gBr 12 < 1000000000000 := by decide
end H
