/-! read: a view, both sides -/
section H
variable {n0 f q m N pos : Nat} {u : gU} {x : gX} {W : gWr}
theorem gXf_v {D p : Nat} {a b c : Int32} : gXf N D x (xv x D p a b c) :=
  ⟨⟨fun _ _ => rfl, fun j hj => gup_ne (by omega), rfl, rfl, rfl, rfl⟩, fun j hj => ⟨rfl, rfl, rfl⟩, fun _ _ => rfl, fun j hj => ⟨gup_ne (by omega), gup_ne (by omega), gup_ne (by omega)⟩⟩
theorem gD_v {D p : Nat} {a b c : Int32} (G : gD n0 f q m N pos u x) (h : p ≤ m) : gD n0 f q m N p (su u p) (xv x D p a b c) :=
  gD_x (gD_s G h) rfl rfl rfl rfl (fun _ _ _ => rfl) rfl (fun _ _ _ _ => rfl) rfl rfl
theorem gPv_p {D : Nat} : gPv D 0 (xp x D (-1) 1) := by
  refine ⟨?_, ?_, ?_, ?_⟩
  · show gup x.2.1 18 (Int32.ofNat (D + 1)) 18 = _
    exact gup_eq
  · show gup x.2.2.2.2.2.2.1 D (-1) D = _
    exact gup_eq
  · show gup x.2.2.2.2.2.2.2.1 D 0 D = _
    exact gup_eq
  · show gup x.2.2.2.2.2.2.2.2.1 D 1 D = _
    exact gup_eq
/-- a view more on both sides -/
theorem gD_w {D k a b : Nat} {un fr co : Int32} (G : gD n0 f q m N pos u x) (hN : N < 32) (hk : k < N) (hun : un = 1 ∨ un = 2 ∨ un = 4) (ha : a ≤ 8) (hb : b ≤ 8) (efr : fr = Int32.ofNat a) (eco : co = Int32.ofNat b) (e5 : x.2.2.2.2.2.2.2.2.2.2.1 D = un) (e6 : x.2.2.2.2.2.2.2.2.2.2.2.1 D = fr) (e7 : x.2.2.2.2.2.2.2.2.2.2.2.2.1 D = co) : gD n0 f q m (N + 1) pos (uw u N k un fr co) (xw x N f D k) := by
  subst efr eco
  have ho : ∃ s c, gO (N + 1) s c (gq_view (gq_new (u.1 N) 5) (Int32.ofNat k) un (Int32.ofNat a) (Int32.ofNat b)) (gp_view (gp_new (x.1 N) 5) (Int32.ofNat k) (x.2.2.2.2.2.2.2.2.2.2.1 D) (x.2.2.2.2.2.2.2.2.2.2.2.1 D) (x.2.2.2.2.2.2.2.2.2.2.2.2.1 D)) := by
    rw [e5, e6, e7]
    exact ⟨5, b, gO_view (by omega) ha hb hun⟩
  have h1 : gup u.2.2.1 1 (Int32.ofNat (N + 1)) 1 = Int32.ofNat (N + 1) := gup_eq
  have s33 : gup (gup x.2.1 33 (Int32.ofNat (N + 1))) 29 (Int32.ofNat (N + 1 - f)) 33 = Int32.ofNat (N + 1) := by rw [gup_ne (by omega), gup_eq]
  have s29 : gup (gup x.2.1 33 (Int32.ofNat (N + 1))) 29 (Int32.ofNat (N + 1 - f)) 29 = Int32.ofNat (N + 1 - f) := gup_eq
  have sk : ∀ i, ¬ i = 33 → ¬ i = 29 → gup (gup x.2.1 33 (Int32.ofNat (N + 1))) 29 (Int32.ofNat (N + 1 - f)) i = x.2.1 i := fun i a b => by rw [gup_ne b, gup_ne a]
  have K := gD_new G hN ho rfl h1 s33 s29 sk rfl
  refine gD_x K rfl rfl rfl rfl (fun i a b => ?_) rfl (fun i a b c => ?_) rfl rfl
  · show gup (gup u.2.2.2.2.2.2.2.2.2.2.2.2.1 2 6) 3 (Int32.ofNat N) i = u.2.2.2.2.2.2.2.2.2.2.2.2.1 i
    rw [gup_ne b, gup_ne a]
  · show gup (gup (gup (gup (gup x.2.1 18 (Int32.ofNat D)) 33 (Int32.ofNat (N + 1))) 29 (Int32.ofNat (N + 1 - f))) 35 6) 36 (Int32.ofNat N) i = gup (gup x.2.1 33 (Int32.ofNat (N + 1))) 29 (Int32.ofNat (N + 1 - f)) i
    rw [gup_ne c, gup_ne b]
    by_cases c1 : i = 29
    · subst c1; rw [gup_eq, gup_eq]
    · rw [gup_ne c1, gup_ne c1]
      by_cases c2 : i = 33
      · subst c2; rw [gup_eq, gup_eq]
      · rw [gup_ne c2, gup_ne c2, gup_ne a]
theorem gXf_w {D k N2 : Nat} (h : N ≤ N2) : gXf N D x (xw x N2 f D k) := by
  refine ⟨⟨fun j hj => gup_ne (by omega), fun j hj => ?_, rfl, rfl, rfl, rfl⟩, fun _ _ => ⟨rfl, rfl, rfl⟩, fun _ _ => rfl, fun _ _ => ⟨rfl, rfl, rfl⟩⟩
  show gup (gup (gup (gup (gup x.2.1 18 (Int32.ofNat D)) 33 (Int32.ofNat (N2 + 1))) 29 (Int32.ofNat (N2 + 1 - f))) 35 6) 36 (Int32.ofNat N2) j = _
  rw [gup_ne (by omega), gup_ne (by omega), gup_ne (by omega), gup_ne (by omega), gup_ne (by omega)]
/-- behind the viewed value, where the reference goes on -/
theorem rd_viewEnd {D B N1 : Nat} {x0 x2 : gX} {u0 : gU} {un fr co : Int32} {F : gx_H → Option gx_H} (hD : D < 14) (n1 : N ≤ N1) (to : gTo B 1 1 x0 x2) (G : gD n0 f q m N1 pos u x) {B2 : Nat} (rt : gRT B2 1 x2 x) (P : gPv D 0 x) (e5 : x.2.2.2.2.2.2.2.2.2.2.1 D = un) (e6 : x.2.2.2.2.2.2.2.2.2.2.2.1 D = fr) (e7 : x.2.2.2.2.2.2.2.2.2.2.2.2.1 D = co) (fx : gXf N D x0 x) (fu : gUf N u0 u) (V : gV1 n0 N1 (u.2.2.2.2.2.2.2.2.2.2.2.2.1 2) (u.2.2.2.2.2.2.2.2.2.2.2.2.1 3)) (e35 : x.2.1 35 = u.2.2.2.2.2.2.2.2.2.2.2.2.1 2) (e36 : x.2.1 36 = u.2.2.2.2.2.2.2.2.2.2.2.2.1 3) (hF : ∀ y o z, F (gH u0 y o z) = cvr un fr co (gH u y o z)) : gVal n0 f q m D (B + B2 + 2) N 1 u0 x0 F := by
  have t4 : gTo B2 1 0 x2 ((x.1, x.2.1, x.2.2.1, x.2.2.2.1, x.2.2.2.2.1, x.2.2.2.2.2.1, x.2.2.2.2.2.2.1, gup x.2.2.2.2.2.2.2.1 D 1, x.2.2.2.2.2.2.2.2.1, x.2.2.2.2.2.2.2.2.2.1, x.2.2.2.2.2.2.2.2.2.2.1, x.2.2.2.2.2.2.2.2.2.2.2.1, x.2.2.2.2.2.2.2.2.2.2.2.2.1, x.2.2.2.2.2.2.2.2.2.2.2.2.2.1, x.2.2.2.2.2.2.2.2.2.2.2.2.2.2.1, x.2.2.2.2.2.2.2.2.2.2.2.2.2.2.2) : gX) := gRT_dl rt G.gg P.1 hD (r_dlV P hD)
  have t5 := gTo_trans to t4
  have P4 : gPv D 1 ((x.1, x.2.1, x.2.2.1, x.2.2.2.1, x.2.2.2.2.1, x.2.2.2.2.2.1, x.2.2.2.2.2.2.1, gup x.2.2.2.2.2.2.2.1 D 1, x.2.2.2.2.2.2.2.2.1, x.2.2.2.2.2.2.2.2.2.1, x.2.2.2.2.2.2.2.2.2.2.1, x.2.2.2.2.2.2.2.2.2.2.2.1, x.2.2.2.2.2.2.2.2.2.2.2.2.1, x.2.2.2.2.2.2.2.2.2.2.2.2.2.1, x.2.2.2.2.2.2.2.2.2.2.2.2.2.2.1, x.2.2.2.2.2.2.2.2.2.2.2.2.2.2.2) : gX) := ⟨P.1, P.2.1, gup_eq, P.2.2.2⟩
  have G4 : gD n0 f q m N1 pos u ((x.1, x.2.1, x.2.2.1, x.2.2.2.1, x.2.2.2.2.1, x.2.2.2.2.2.1, x.2.2.2.2.2.2.1, gup x.2.2.2.2.2.2.2.1 D 1, x.2.2.2.2.2.2.2.2.1, x.2.2.2.2.2.2.2.2.2.1, x.2.2.2.2.2.2.2.2.2.2.1, x.2.2.2.2.2.2.2.2.2.2.2.1, x.2.2.2.2.2.2.2.2.2.2.2.2.1, x.2.2.2.2.2.2.2.2.2.2.2.2.2.1, x.2.2.2.2.2.2.2.2.2.2.2.2.2.2.1, x.2.2.2.2.2.2.2.2.2.2.2.2.2.2.2) : gX) := gD_x G rfl rfl rfl rfl (fun _ _ _ => rfl) rfl (fun _ _ _ _ => rfl) rfl rfl
  have f4 : gXf N D x0 ((x.1, x.2.1, x.2.2.1, x.2.2.2.1, x.2.2.2.2.1, x.2.2.2.2.2.1, x.2.2.2.2.2.2.1, gup x.2.2.2.2.2.2.2.1 D 1, x.2.2.2.2.2.2.2.2.1, x.2.2.2.2.2.2.2.2.2.1, x.2.2.2.2.2.2.2.2.2.2.1, x.2.2.2.2.2.2.2.2.2.2.2.1, x.2.2.2.2.2.2.2.2.2.2.2.2.1, x.2.2.2.2.2.2.2.2.2.2.2.2.2.1, x.2.2.2.2.2.2.2.2.2.2.2.2.2.2.1, x.2.2.2.2.2.2.2.2.2.2.2.2.2.2.2) : gX) := gXf_trans fx (N2 := N) (D2 := D) ⟨⟨fun _ _ => rfl, fun _ _ => rfl, rfl, rfl, rfl, rfl⟩, fun j hj => ⟨rfl, gup_ne (by omega), rfl⟩, fun _ _ => rfl, fun _ _ => ⟨rfl, rfl, rfl⟩⟩ (Nat.le_refl _) (Nat.le_refl _)
  have f5 : (((x.1, x.2.1, x.2.2.1, x.2.2.2.1, x.2.2.2.2.1, x.2.2.2.2.2.1, x.2.2.2.2.2.2.1, gup x.2.2.2.2.2.2.2.1 D 1, x.2.2.2.2.2.2.2.2.1, x.2.2.2.2.2.2.2.2.2.1, x.2.2.2.2.2.2.2.2.2.2.1, x.2.2.2.2.2.2.2.2.2.2.2.1, x.2.2.2.2.2.2.2.2.2.2.2.2.1, x.2.2.2.2.2.2.2.2.2.2.2.2.2.1, x.2.2.2.2.2.2.2.2.2.2.2.2.2.2.1, x.2.2.2.2.2.2.2.2.2.2.2.2.2.2.2) : gX) : gX).2.2.2.2.2.2.2.2.2.2.1 D = un := e5
  have f6 : (((x.1, x.2.1, x.2.2.1, x.2.2.2.1, x.2.2.2.2.1, x.2.2.2.2.2.1, x.2.2.2.2.2.2.1, gup x.2.2.2.2.2.2.2.1 D 1, x.2.2.2.2.2.2.2.2.1, x.2.2.2.2.2.2.2.2.2.1, x.2.2.2.2.2.2.2.2.2.2.1, x.2.2.2.2.2.2.2.2.2.2.2.1, x.2.2.2.2.2.2.2.2.2.2.2.2.1, x.2.2.2.2.2.2.2.2.2.2.2.2.2.1, x.2.2.2.2.2.2.2.2.2.2.2.2.2.2.1, x.2.2.2.2.2.2.2.2.2.2.2.2.2.2.2) : gX) : gX).2.2.2.2.2.2.2.2.2.2.2.1 D = fr := e6
  have f7 : (((x.1, x.2.1, x.2.2.1, x.2.2.2.1, x.2.2.2.2.1, x.2.2.2.2.2.1, x.2.2.2.2.2.2.1, gup x.2.2.2.2.2.2.2.1 D 1, x.2.2.2.2.2.2.2.2.1, x.2.2.2.2.2.2.2.2.2.1, x.2.2.2.2.2.2.2.2.2.2.1, x.2.2.2.2.2.2.2.2.2.2.2.1, x.2.2.2.2.2.2.2.2.2.2.2.2.1, x.2.2.2.2.2.2.2.2.2.2.2.2.2.1, x.2.2.2.2.2.2.2.2.2.2.2.2.2.2.1, x.2.2.2.2.2.2.2.2.2.2.2.2.2.2.2) : gX) : gX).2.2.2.2.2.2.2.2.2.2.2.2.1 D = co := e7
  have f35 : (((x.1, x.2.1, x.2.2.1, x.2.2.2.1, x.2.2.2.2.1, x.2.2.2.2.2.1, x.2.2.2.2.2.2.1, gup x.2.2.2.2.2.2.2.1 D 1, x.2.2.2.2.2.2.2.2.1, x.2.2.2.2.2.2.2.2.2.1, x.2.2.2.2.2.2.2.2.2.2.1, x.2.2.2.2.2.2.2.2.2.2.2.1, x.2.2.2.2.2.2.2.2.2.2.2.2.1, x.2.2.2.2.2.2.2.2.2.2.2.2.2.1, x.2.2.2.2.2.2.2.2.2.2.2.2.2.2.1, x.2.2.2.2.2.2.2.2.2.2.2.2.2.2.2) : gX) : gX).2.1 35 = u.2.2.2.2.2.2.2.2.2.2.2.2.1 2 := e35
  have f36 : (((x.1, x.2.1, x.2.2.1, x.2.2.2.1, x.2.2.2.2.1, x.2.2.2.2.2.1, x.2.2.2.2.2.2.1, gup x.2.2.2.2.2.2.2.1 D 1, x.2.2.2.2.2.2.2.2.1, x.2.2.2.2.2.2.2.2.2.1, x.2.2.2.2.2.2.2.2.2.2.1, x.2.2.2.2.2.2.2.2.2.2.2.1, x.2.2.2.2.2.2.2.2.2.2.2.2.1, x.2.2.2.2.2.2.2.2.2.2.2.2.2.1, x.2.2.2.2.2.2.2.2.2.2.2.2.2.2.1, x.2.2.2.2.2.2.2.2.2.2.2.2.2.2.2) : gX) : gX).2.1 36 = u.2.2.2.2.2.2.2.2.2.2.2.2.1 3 := e36
  generalize (((x.1, x.2.1, x.2.2.1, x.2.2.2.1, x.2.2.2.2.1, x.2.2.2.2.2.1, x.2.2.2.2.2.2.1, gup x.2.2.2.2.2.2.2.1 D 1, x.2.2.2.2.2.2.2.2.1, x.2.2.2.2.2.2.2.2.2.1, x.2.2.2.2.2.2.2.2.2.2.1, x.2.2.2.2.2.2.2.2.2.2.2.1, x.2.2.2.2.2.2.2.2.2.2.2.2.1, x.2.2.2.2.2.2.2.2.2.2.2.2.2.1, x.2.2.2.2.2.2.2.2.2.2.2.2.2.2.1, x.2.2.2.2.2.2.2.2.2.2.2.2.2.2.2) : gX) : gX) = x4 at *
  have bad : ∀ x', x'.2.1 31 = 0 → gXd N x4 x' → (∀ y o z, mM_finish (some 188) (-1) (gH y x4 o z) = some (gH y x' o z)) → (∀ y o z, cvr un fr co (gH u y o z) = some (gH ((u.1, u.2.1, u.2.2.1, u.2.2.2.1, u.2.2.2.2.1, u.2.2.2.2.2.1, u.2.2.2.2.2.2.1, u.2.2.2.2.2.2.2.1, u.2.2.2.2.2.2.2.2.1, u.2.2.2.2.2.2.2.2.2.1, u.2.2.2.2.2.2.2.2.2.2.1, u.2.2.2.2.2.2.2.2.2.2.2.1, gup u.2.2.2.2.2.2.2.2.2.2.2.2.1 1 1, u.2.2.2.2.2.2.2.2.2.2.2.2.2.1, u.2.2.2.2.2.2.2.2.2.2.2.2.2.2) : gU) y o z)) → gVal n0 f q m D (B + B2 + 2) N 1 u0 x0 F := by
    intro x' a1 a2 a3 a4
    refine gVal_bad (u' := ((u.1, u.2.1, u.2.2.1, u.2.2.2.1, u.2.2.2.2.1, u.2.2.2.2.2.1, u.2.2.2.2.2.2.1, u.2.2.2.2.2.2.2.1, u.2.2.2.2.2.2.2.2.1, u.2.2.2.2.2.2.2.2.2.1, u.2.2.2.2.2.2.2.2.2.2.1, u.2.2.2.2.2.2.2.2.2.2.2.1, gup u.2.2.2.2.2.2.2.2.2.2.2.2.1 1 1, u.2.2.2.2.2.2.2.2.2.2.2.2.2.1, u.2.2.2.2.2.2.2.2.2.2.2.2.2.2) : gU)) (x' := x') (fun y o z => (hF y o z).trans (a4 y o z)) (gUf_trans fu gUf_r (Nat.le_refl _)) rfl ?_ (gXd_trans f4.fd a2 (Nat.le_refl _))
    exact gTo_F t5 (gRF_go (t := 2) G4.gg (fun y o z => by rw [r_goV2 P4 hD, a3, Option.bind_some]) a1)
  rcases k_cvr (un := un) (fr := fr) (co := co) G4 V f35 f36 with ⟨a1, no | ⟨rfl, k, yes⟩⟩ | ⟨c32, k, a, b, hk, yes, hun, ha, hb, efr, eco, a1⟩
  · obtain ⟨x', h1, h2, h3⟩ := r_finN (N := N) P4.1 G4.gg hD (by rw [f5, f6, f7]; exact no)
    exact bad x' h1 h2 h3 a1
  · obtain ⟨x', h1, h2, h3⟩ := r_finY0 (k := k) G4 P4.1 hD (by rw [f5, f6, f7]; exact yes)
    exact bad x' h1 ⟨fun j hj => h2.dR j (by omega), h2.dk, h2.d7, h2.d8, h2.d9, h2.d0⟩ h3 a1
  · have r6 := r_finY (k := k) G4 c32 P4.1 hD (by rw [f5, f6, f7]; exact yes)
    have G6 := gD_w (D := D) G4 c32 hk hun ha hb efr eco f5 f6 f7
    have nf := G4.nf
    have fN := G4.fN
    refine ⟨uw u N1 k un fr co, fun y o z => (hF y o z).trans (a1 y o z), gUf_trans fu (N2 := N) ⟨fun j hj => gup_ne (by omega), rfl, rfl, rfl, rfl, rfl, rfl, rfl⟩ (Nat.le_refl _), Or.inl ⟨xw x4 N1 f D k, ?_, N1 + 1, pos, G6, by omega, gXf_trans f4 (gXf_w n1) (Nat.le_refl _) (Nat.le_refl _), ?_, ?_, ?_, ?_⟩⟩
    · exact gRT_mono (gTo_T t5 (gRT_go2 G4.gg (fun y o z => by rw [r_goV2 P4 hD, r6, Option.bind_some]))) (by omega)
    · show gup (gup (gup (gup (gup x4.2.1 18 (Int32.ofNat D)) 33 (Int32.ofNat (N1 + 1))) 29 (Int32.ofNat (N1 + 1 - f))) 35 6) 36 (Int32.ofNat N1) 18 = _
      rw [gup_ne (by omega), gup_ne (by omega), gup_ne (by omega), gup_ne (by omega), gup_eq]
    · rfl
    · rfl
    · exact ⟨6, by omega, rfl, rfl, fun _ => ⟨N1, by omega, by omega, rfl⟩⟩
theorem k_cvrD {un fr co : Int32} (h : u.2.2.2.2.2.2.2.2.2.2.2.2.1 1 = 1) : ∀ y o z, cvr un fr co (gH u y o z) = some (gH u y o z) := by
  intro y o z
  rw [cvr, hi_187_1, Option.bind_some]
  exact if_neg (show ¬ u.2.2.2.2.2.2.2.2.2.2.2.2.1 1 = 0 by rw [h]; exact i_10)
/-- a view -/
theorem rd_view {D B : Nat} {x0 : gX} {t : Int32} (hD : D + 1 ≤ 12) (ih : gIR n0 f q m (D + 1) B W) (dead : gDe W) (G : gD n0 f q m N pos u x) (h18 : x.2.1 18 = Int32.ofNat D) (hg0 : x0.2.1 31 = 1) (hx0 : gXf N D x0 x) (tv : ∀ y o z, mM_takeValue (some 188) (gH y x0 o z) = mM_takeValue_44 (some 188) t 13 (gH y x o z)) : gVal n0 f q m D (8 * (B + 1) + 3) N 1 u x0 (cR_readView W (some 187) (some 1) (some 163) (Int32.ofNat (D + 1))) := by
  have hD14 : D < 14 := by omega
  by_cases c3 : pos + 3 ≤ m
  · have kT := k_view3 (W := W) (D := D) G c3
    have rT := r_vw3 G c3 hD14 h18 t
    have G1 : gD n0 f q m N (pos + 3) (su u (pos + 3)) (xv x D (pos + 3) (u.2.2.2.2.1 pos) (u.2.2.2.2.1 (pos + 1)) (u.2.2.2.2.1 (pos + 2))) := gD_v G c3
    have fx1 : gXf N D x0 (xv x D (pos + 3) (u.2.2.2.2.1 pos) (u.2.2.2.2.1 (pos + 1)) (u.2.2.2.2.1 (pos + 2))) := gXf_trans hx0 gXf_v (Nat.le_refl N) (Nat.le_refl D)
    have q18 : (xv x D (pos + 3) (u.2.2.2.2.1 pos) (u.2.2.2.2.1 (pos + 1)) (u.2.2.2.2.1 (pos + 2))).2.1 18 = Int32.ofNat D := h18
    have q5 : (xv x D (pos + 3) (u.2.2.2.2.1 pos) (u.2.2.2.2.1 (pos + 1)) (u.2.2.2.2.1 (pos + 2))).2.2.2.2.2.2.2.2.2.2.1 D = u.2.2.2.2.1 pos := gup_eq
    have q6 : (xv x D (pos + 3) (u.2.2.2.2.1 pos) (u.2.2.2.2.1 (pos + 1)) (u.2.2.2.2.1 (pos + 2))).2.2.2.2.2.2.2.2.2.2.2.1 D = u.2.2.2.2.1 (pos + 1) := gup_eq
    have q7 : (xv x D (pos + 3) (u.2.2.2.2.1 pos) (u.2.2.2.2.1 (pos + 1)) (u.2.2.2.2.1 (pos + 2))).2.2.2.2.2.2.2.2.2.2.2.2.1 D = u.2.2.2.2.1 (pos + 2) := gup_eq
    have fu1 : gUf N u (su u (pos + 3)) := gUf_r
    generalize su u (pos + 3) = u1 at *
    generalize xv x D (pos + 3) (u.2.2.2.2.1 pos) (u.2.2.2.2.1 (pos + 1)) (u.2.2.2.2.1 (pos + 2)) = x1 at *
    generalize u.2.2.2.2.1 pos = un at *
    generalize u.2.2.2.2.1 (pos + 1) = fr at *
    generalize u.2.2.2.2.1 (pos + 2) = co at *
    have G2 : gD n0 f q m N (pos + 3) u1 (xp x1 D (-1) 1) := gD_p G1
    have fx2 : gXf N D x0 (xp x1 D (-1) 1) := gXf_trans fx1 gXf_p (Nat.le_refl N) (Nat.le_refl D)
    have P2 : gPv D 0 (xp x1 D (-1) 1) := gPv_p
    obtain ⟨u', k1, k2, k3⟩ := ih u1 (xp x1 D (-1) 1) N (pos + 3) G2 P2.1
    have fu : gUf N u u' := gUf_trans fu1 k2 (Nat.le_refl N)
    have hF : ∀ y o z, cR_readView W (some 187) (some 1) (some 163) (Int32.ofNat (D + 1)) (gH u y o z) = cvr un fr co (gH u' y o z) := fun y o z => by
      rw [kT]
      exact (congrArg (fun w => Option.bind w (cvr un fr co)) (k1 y o z)).trans (Option.bind_some _ _)
    by_cases cu : un = 1 ∨ un = 2 ∨ un = 4
    · have s31 : (((x1.1, gup x1.2.1 31 1, x1.2.2.1, x1.2.2.2.1, x1.2.2.2.2.1, x1.2.2.2.2.2.1, x1.2.2.2.2.2.2.1, x1.2.2.2.2.2.2.2.1, x1.2.2.2.2.2.2.2.2.1, x1.2.2.2.2.2.2.2.2.2.1, x1.2.2.2.2.2.2.2.2.2.2.1, x1.2.2.2.2.2.2.2.2.2.2.2.1, x1.2.2.2.2.2.2.2.2.2.2.2.2.1, x1.2.2.2.2.2.2.2.2.2.2.2.2.2.1, x1.2.2.2.2.2.2.2.2.2.2.2.2.2.2.1, x1.2.2.2.2.2.2.2.2.2.2.2.2.2.2.2) : gX) : gX) = x1 := by rw [gup_same G1.gg]
      have tk : ∀ y o z, mM_takeValue (some 188) (gH y x0 o z) = some (0, gH y (xp x1 D (-1) 1) o z) := by
        intro y o z
        rw [tv, rT, if_pos cu, r_261 (Or.inr rfl) hD14 q18]
        exact congrArg (fun w => some (0, gH y (xp w D (-1) 1) o z)) s31
      have to : gTo (1 + 1) 1 1 x0 (xp x1 D (-1) 1) := gTo_trans (gTo_val hg0 tk) (gTo_go1 G2.gg (r_goV1 P2 hD14))
      rcases k3 with ⟨x3, l1, N1, pos1, l2, l3, l4, l5, l6, l7, l8⟩ | ⟨l0, x3, l1, l2⟩
      · obtain ⟨a1, a2, a3⟩ := l4.f1 D (by omega)
        obtain ⟨b1, b2, b3⟩ := l4.f5 D (by omega)
        refine gVal_mono (rd_viewEnd (un := un) (fr := fr) (co := co) hD14 l3 to l2 l1 ⟨l5, a1.trans P2.2.1, a2.trans P2.2.2.1, a3.trans P2.2.2.2⟩ (b1.trans q5) (b2.trans q6) (b3.trans q7) (gXf_trans fx2 (D2 := D + 1) l4 (Nat.le_refl N) (by omega)) fu l8 l6 l7 hF) (by omega)
      · refine gVal_bad (u' := u') (x' := x3) (fun y o z => (hF y o z).trans (k_cvrD l0 y o z)) fu l0 (gRF_mono (gTo_F to l1) (by omega)) (gXd_trans fx2.fd l2 (Nat.le_refl N))
    · have tk : ∀ y o z, mM_takeValue (some 188) (gH y x0 o z) = some (0, gH y (xp ((x1.1, gup x1.2.1 31 0, x1.2.2.1, x1.2.2.2.1, x1.2.2.2.2.1, x1.2.2.2.2.2.1, x1.2.2.2.2.2.2.1, x1.2.2.2.2.2.2.2.1, x1.2.2.2.2.2.2.2.2.1, x1.2.2.2.2.2.2.2.2.2.1, x1.2.2.2.2.2.2.2.2.2.2.1, x1.2.2.2.2.2.2.2.2.2.2.2.1, x1.2.2.2.2.2.2.2.2.2.2.2.2.1, x1.2.2.2.2.2.2.2.2.2.2.2.2.2.1, x1.2.2.2.2.2.2.2.2.2.2.2.2.2.2.1, x1.2.2.2.2.2.2.2.2.2.2.2.2.2.2.2) : gX) D (-1) 1) o z) := by
        intro y o z
        rw [tv, rT, if_neg cu, r_261 (Or.inl rfl) hD14 q18]
      have rf : gRF (8 * (B + 1) + 3) 1 x0 (xp ((x1.1, gup x1.2.1 31 0, x1.2.2.1, x1.2.2.2.1, x1.2.2.2.2.1, x1.2.2.2.2.2.1, x1.2.2.2.2.2.2.1, x1.2.2.2.2.2.2.2.1, x1.2.2.2.2.2.2.2.2.1, x1.2.2.2.2.2.2.2.2.2.1, x1.2.2.2.2.2.2.2.2.2.2.1, x1.2.2.2.2.2.2.2.2.2.2.2.1, x1.2.2.2.2.2.2.2.2.2.2.2.2.1, x1.2.2.2.2.2.2.2.2.2.2.2.2.2.1, x1.2.2.2.2.2.2.2.2.2.2.2.2.2.2.1, x1.2.2.2.2.2.2.2.2.2.2.2.2.2.2.2) : gX) D (-1) 1) := gRF_mono (gRF_val hg0 tk rfl) (by omega)
      have fd : gXd N x0 (xp ((x1.1, gup x1.2.1 31 0, x1.2.2.1, x1.2.2.2.1, x1.2.2.2.2.1, x1.2.2.2.2.2.1, x1.2.2.2.2.2.2.1, x1.2.2.2.2.2.2.2.1, x1.2.2.2.2.2.2.2.2.1, x1.2.2.2.2.2.2.2.2.2.1, x1.2.2.2.2.2.2.2.2.2.2.1, x1.2.2.2.2.2.2.2.2.2.2.2.1, x1.2.2.2.2.2.2.2.2.2.2.2.2.1, x1.2.2.2.2.2.2.2.2.2.2.2.2.2.1, x1.2.2.2.2.2.2.2.2.2.2.2.2.2.2.1, x1.2.2.2.2.2.2.2.2.2.2.2.2.2.2.2) : gX) D (-1) 1) := by
        refine gXd_trans fx1.fd (N2 := N) ⟨fun _ _ => rfl, fun j hj => ?_, rfl, rfl, rfl, rfl⟩ (Nat.le_refl N)
        show gup (gup x1.2.1 31 0) 18 (Int32.ofNat (D + 1)) j = _
        rw [gup_ne (by omega), gup_ne (by omega)]
      rcases k3 with ⟨x3, l1, N1, pos1, l2, l3, l4, l5, l6, l7, l8⟩ | ⟨l0, x3, l1, l2⟩
      · rcases k_cvr (un := un) (fr := fr) (co := co) l2 l8 l6 l7 with ⟨a1, _⟩ | ⟨_, _, _, _, _, _, hun, _⟩
        · exact gVal_bad (u' := ((u'.1, u'.2.1, u'.2.2.1, u'.2.2.2.1, u'.2.2.2.2.1, u'.2.2.2.2.2.1, u'.2.2.2.2.2.2.1, u'.2.2.2.2.2.2.2.1, u'.2.2.2.2.2.2.2.2.1, u'.2.2.2.2.2.2.2.2.2.1, u'.2.2.2.2.2.2.2.2.2.2.1, u'.2.2.2.2.2.2.2.2.2.2.2.1, gup u'.2.2.2.2.2.2.2.2.2.2.2.2.1 1 1, u'.2.2.2.2.2.2.2.2.2.2.2.2.2.1, u'.2.2.2.2.2.2.2.2.2.2.2.2.2.2) : gU)) (fun y o z => (hF y o z).trans (a1 y o z)) (gUf_trans fu gUf_r (Nat.le_refl N)) rfl rf fd
        · exact absurd hun cu
      · exact gVal_bad (u' := u') (fun y o z => (hF y o z).trans (k_cvrD l0 y o z)) fu l0 rf fd
  · obtain ⟨r, r1, r2⟩ := k_view0 (W := W) (D := D) dead G c3
    obtain ⟨x', h1, h2, h3⟩ := r_vw0 G c3 hD14 h18 t
    refine gVal_bad (u' := ((u.1, u.2.1, u.2.2.1, u.2.2.2.1, u.2.2.2.2.1, u.2.2.2.2.2.1, u.2.2.2.2.2.2.1, u.2.2.2.2.2.2.2.1, u.2.2.2.2.2.2.2.2.1, u.2.2.2.2.2.2.2.2.2.1, u.2.2.2.2.2.2.2.2.2.2.1, u.2.2.2.2.2.2.2.2.2.2.2.1, r, u.2.2.2.2.2.2.2.2.2.2.2.2.2.1, u.2.2.2.2.2.2.2.2.2.2.2.2.2.2) : gU)) (x' := x') r2 gUf_r r1 (gRF_mono (gRF_val (t := 0) hg0 (fun y o z => ?_) h1) (by omega)) (gXd_trans hx0.fd h2 (Nat.le_refl N))
    rw [tv, h3]
end H
