/-! read: frames, turns of the reference's loop, values that are no objects -/
abbrev gUf  (N : Nat) (u u' : gU) : Prop := (∀ k, k < N → u'.1 k = u.1 k) ∧ (u'.2.1 = u.2.1) ∧ (u'.2.2.2.1 = u.2.2.2.1) ∧ (u'.2.2.2.2.1 = u.2.2.2.2.1) ∧ (u'.2.2.2.2.2.1 = u.2.2.2.2.2.1) ∧ (u'.2.2.2.2.2.2.1 = u.2.2.2.2.2.2.1) ∧ (u'.2.2.2.2.2.2.2.1 = u.2.2.2.2.2.2.2.1) ∧ (u'.2.2.2.2.2.2.2.2.2.2.2.2.2.2 = u.2.2.2.2.2.2.2.2.2.2.2.2.2.2)
theorem gUf.uC {N : Nat} {u u' : gU} (h : gUf N u u') : ∀ k, k < N → u'.1 k = u.1 k := h.1
theorem gUf.u0 {N : Nat} {u u' : gU} (h : gUf N u u') : u'.2.1 = u.2.1 := h.2.1
theorem gUf.u3 {N : Nat} {u u' : gU} (h : gUf N u u') : u'.2.2.2.1 = u.2.2.2.1 := h.2.2.1
theorem gUf.u4 {N : Nat} {u u' : gU} (h : gUf N u u') : u'.2.2.2.2.1 = u.2.2.2.2.1 := h.2.2.2.1
theorem gUf.u5 {N : Nat} {u u' : gU} (h : gUf N u u') : u'.2.2.2.2.2.1 = u.2.2.2.2.2.1 := h.2.2.2.2.1
theorem gUf.u6 {N : Nat} {u u' : gU} (h : gUf N u u') : u'.2.2.2.2.2.2.1 = u.2.2.2.2.2.2.1 := h.2.2.2.2.2.1
theorem gUf.u8 {N : Nat} {u u' : gU} (h : gUf N u u') : u'.2.2.2.2.2.2.2.1 = u.2.2.2.2.2.2.2.1 := h.2.2.2.2.2.2.1
theorem gUf.uh {N : Nat} {u u' : gU} (h : gUf N u u') : u'.2.2.2.2.2.2.2.2.2.2.2.2.2.2 = u.2.2.2.2.2.2.2.2.2.2.2.2.2.2 := h.2.2.2.2.2.2.2
abbrev gXd  (N : Nat) (x x' : gX) : Prop := (∀ k, k < N → x'.1 k = x.1 k) ∧ (∀ i, i < 18 → x'.2.1 i = x.2.1 i) ∧ (x'.2.2.1 = x.2.2.1) ∧ (x'.2.2.2.1 = x.2.2.2.1) ∧ (x'.2.2.2.2.1 = x.2.2.2.2.1) ∧ (x'.2.2.2.2.2.1 = x.2.2.2.2.2.1)
theorem gXd.dR {N : Nat} {x x' : gX} (h : gXd N x x') : ∀ k, k < N → x'.1 k = x.1 k := h.1
theorem gXd.dk {N : Nat} {x x' : gX} (h : gXd N x x') : ∀ i, i < 18 → x'.2.1 i = x.2.1 i := h.2.1
theorem gXd.d7 {N : Nat} {x x' : gX} (h : gXd N x x') : x'.2.2.1 = x.2.2.1 := h.2.2.1
theorem gXd.d8 {N : Nat} {x x' : gX} (h : gXd N x x') : x'.2.2.2.1 = x.2.2.2.1 := h.2.2.2.1
theorem gXd.d9 {N : Nat} {x x' : gX} (h : gXd N x x') : x'.2.2.2.2.1 = x.2.2.2.2.1 := h.2.2.2.2.1
theorem gXd.d0 {N : Nat} {x x' : gX} (h : gXd N x x') : x'.2.2.2.2.2.1 = x.2.2.2.2.2.1 := h.2.2.2.2.2
abbrev gXf  (N D : Nat) (x x' : gX) : Prop := (gXd N x x') ∧ (∀ i, i < D → x'.2.2.2.2.2.2.1 i = x.2.2.2.2.2.2.1 i ∧ x'.2.2.2.2.2.2.2.1 i = x.2.2.2.2.2.2.2.1 i ∧ x'.2.2.2.2.2.2.2.2.1 i = x.2.2.2.2.2.2.2.2.1 i) ∧ (∀ j, j < 6 * D → x'.2.2.2.2.2.2.2.2.2.1 j = x.2.2.2.2.2.2.2.2.2.1 j) ∧ (∀ i, i < D → x'.2.2.2.2.2.2.2.2.2.2.1 i = x.2.2.2.2.2.2.2.2.2.2.1 i ∧ x'.2.2.2.2.2.2.2.2.2.2.2.1 i = x.2.2.2.2.2.2.2.2.2.2.2.1 i ∧ x'.2.2.2.2.2.2.2.2.2.2.2.2.1 i = x.2.2.2.2.2.2.2.2.2.2.2.2.1 i)
theorem gXf.fd {N D : Nat} {x x' : gX} (h : gXf N D x x') : gXd N x x' := h.1
theorem gXf.f1 {N D : Nat} {x x' : gX} (h : gXf N D x x') : ∀ i, i < D → x'.2.2.2.2.2.2.1 i = x.2.2.2.2.2.2.1 i ∧ x'.2.2.2.2.2.2.2.1 i = x.2.2.2.2.2.2.2.1 i ∧ x'.2.2.2.2.2.2.2.2.1 i = x.2.2.2.2.2.2.2.2.1 i := h.2.1
theorem gXf.f4 {N D : Nat} {x x' : gX} (h : gXf N D x x') : ∀ j, j < 6 * D → x'.2.2.2.2.2.2.2.2.2.1 j = x.2.2.2.2.2.2.2.2.2.1 j := h.2.2.1
theorem gXf.f5 {N D : Nat} {x x' : gX} (h : gXf N D x x') : ∀ i, i < D → x'.2.2.2.2.2.2.2.2.2.2.1 i = x.2.2.2.2.2.2.2.2.2.2.1 i ∧ x'.2.2.2.2.2.2.2.2.2.2.2.1 i = x.2.2.2.2.2.2.2.2.2.2.2.1 i ∧ x'.2.2.2.2.2.2.2.2.2.2.2.2.1 i = x.2.2.2.2.2.2.2.2.2.2.2.2.1 i := h.2.2.2
theorem gUf_refl {N : Nat} {u : gU} : gUf N u u := ⟨fun _ _ => rfl, rfl, rfl, rfl, rfl, rfl, rfl, rfl⟩
theorem gUf_trans {N N2 : Nat} {u u' u2 : gU} (h : gUf N u u') (k : gUf N2 u' u2) (hN : N ≤ N2) : gUf N u u2 :=
  ⟨fun i hi => (k.uC i (by omega)).trans (h.uC i hi), k.u0.trans h.u0, k.u3.trans h.u3, k.u4.trans h.u4, k.u5.trans h.u5, k.u6.trans h.u6, k.u8.trans h.u8, k.uh.trans h.uh⟩
theorem gUf_mono {N N2 : Nat} {u u' : gU} (h : gUf N2 u u') (hN : N ≤ N2) : gUf N u u' := gUf_trans gUf_refl h hN
theorem gUf_r {N : Nat} {u : gU} {r : Nat → Int32} : gUf N u ((u.1, u.2.1, u.2.2.1, u.2.2.2.1, u.2.2.2.2.1, u.2.2.2.2.2.1, u.2.2.2.2.2.2.1, u.2.2.2.2.2.2.2.1, u.2.2.2.2.2.2.2.2.1, u.2.2.2.2.2.2.2.2.2.1, u.2.2.2.2.2.2.2.2.2.2.1, u.2.2.2.2.2.2.2.2.2.2.2.1, r, u.2.2.2.2.2.2.2.2.2.2.2.2.2.1, u.2.2.2.2.2.2.2.2.2.2.2.2.2.2) : gU) := ⟨fun _ _ => rfl, rfl, rfl, rfl, rfl, rfl, rfl, rfl⟩
theorem gXd_refl {N : Nat} {x : gX} : gXd N x x := ⟨fun _ _ => rfl, fun _ _ => rfl, rfl, rfl, rfl, rfl⟩
theorem gXd_trans {N N2 : Nat} {x x' x2 : gX} (h : gXd N x x') (k : gXd N2 x' x2) (hN : N ≤ N2) : gXd N x x2 :=
  ⟨fun i hi => (k.dR i (by omega)).trans (h.dR i hi), fun i hi => (k.dk i hi).trans (h.dk i hi), k.d7.trans h.d7, k.d8.trans h.d8, k.d9.trans h.d9, k.d0.trans h.d0⟩
theorem gXd_s {N : Nat} {x : gX} {s : Nat → Int32} (h : gKs x.2.1 s) : gXd N x ((x.1, s, x.2.2.1, x.2.2.2.1, x.2.2.2.2.1, x.2.2.2.2.2.1, x.2.2.2.2.2.2.1, x.2.2.2.2.2.2.2.1, x.2.2.2.2.2.2.2.2.1, x.2.2.2.2.2.2.2.2.2.1, x.2.2.2.2.2.2.2.2.2.2.1, x.2.2.2.2.2.2.2.2.2.2.2.1, x.2.2.2.2.2.2.2.2.2.2.2.2.1, x.2.2.2.2.2.2.2.2.2.2.2.2.2.1, x.2.2.2.2.2.2.2.2.2.2.2.2.2.2.1, x.2.2.2.2.2.2.2.2.2.2.2.2.2.2.2) : gX) := ⟨fun _ _ => rfl, fun i hi => h i (by omega), rfl, rfl, rfl, rfl⟩
theorem gXf_refl {N D : Nat} {x : gX} : gXf N D x x := ⟨gXd_refl, fun _ _ => ⟨rfl, rfl, rfl⟩, fun _ _ => rfl, fun _ _ => ⟨rfl, rfl, rfl⟩⟩
theorem gXf_trans {N N2 D D2 : Nat} {x x' x2 : gX} (h : gXf N D x x') (k : gXf N2 D2 x' x2) (hN : N ≤ N2) (hD : D ≤ D2) : gXf N D x x2 := by
  refine ⟨gXd_trans h.fd k.fd hN, fun i hi => ?_, fun j hj => (k.f4 j (by omega)).trans (h.f4 j hj), fun i hi => ?_⟩
  · obtain ⟨a1, a2, a3⟩ := h.f1 i hi
    obtain ⟨b1, b2, b3⟩ := k.f1 i (by omega)
    exact ⟨b1.trans a1, b2.trans a2, b3.trans a3⟩
  · obtain ⟨a1, a2, a3⟩ := h.f5 i hi
    obtain ⟨b1, b2, b3⟩ := k.f5 i (by omega)
    exact ⟨b1.trans a1, b2.trans a2, b3.trans a3⟩
theorem gXf_s {N D : Nat} {x : gX} {s : Nat → Int32} (h : gKs x.2.1 s) : gXf N D x ((x.1, s, x.2.2.1, x.2.2.2.1, x.2.2.2.2.1, x.2.2.2.2.2.1, x.2.2.2.2.2.2.1, x.2.2.2.2.2.2.2.1, x.2.2.2.2.2.2.2.2.1, x.2.2.2.2.2.2.2.2.2.1, x.2.2.2.2.2.2.2.2.2.2.1, x.2.2.2.2.2.2.2.2.2.2.2.1, x.2.2.2.2.2.2.2.2.2.2.2.2.1, x.2.2.2.2.2.2.2.2.2.2.2.2.2.1, x.2.2.2.2.2.2.2.2.2.2.2.2.2.2.1, x.2.2.2.2.2.2.2.2.2.2.2.2.2.2.2) : gX) := ⟨gXd_s h, fun _ _ => ⟨rfl, rfl, rfl⟩, fun _ _ => rfl, fun _ _ => ⟨rfl, rfl, rfl⟩⟩
def gTo (B : Nat) (a b : Int32) (x x' : gX) : Prop := ∃ K, K ≤ B ∧ ∀ G y o z, mM_takeAll_48 (G + K) (some 188) a 0 (gH y x o z) = mM_takeAll_48 G (some 188) b 0 (gH y x' o z)
def gRT (B : Nat) (a : Int32) (x x' : gX) : Prop := ∃ K, K ≤ B ∧ ∀ G y o z, mM_takeAll_48 (G + K) (some 188) a 0 (gH y x o z) = mM_takeAll_103 (mM_takeAll_48 G) (some 188) 0 1 (gH y x' o z)
def gRF (B : Nat) (a : Int32) (x x' : gX) : Prop := x'.2.1 31 = 0 ∧ ∃ K, K ≤ B ∧ ∀ G y o z, mM_takeAll_48 (G + K) (some 188) a 0 (gH y x o z) = some (gH y x' o z)
theorem gTo_refl {a : Int32} {x : gX} : gTo 0 a a x x := ⟨0, by omega, fun _ _ _ _ => rfl⟩
theorem gTo_trans {B B2 : Nat} {a b c : Int32} {x x' x2 : gX} (h : gTo B a b x x') (k : gTo B2 b c x' x2) : gTo (B + B2) a c x x2 := by
  obtain ⟨K, h1, h2⟩ := h
  obtain ⟨L, k1, k2⟩ := k
  refine ⟨L + K, by omega, fun G y o z => ?_⟩
  rw [show G + (L + K) = G + L + K by omega, h2, k2]
theorem gTo_T {B B2 : Nat} {a b : Int32} {x x' x2 : gX} (h : gTo B a b x x') (k : gRT B2 b x' x2) : gRT (B + B2) a x x2 := by
  obtain ⟨K, h1, h2⟩ := h
  obtain ⟨L, k1, k2⟩ := k
  refine ⟨L + K, by omega, fun G y o z => ?_⟩
  rw [show G + (L + K) = G + L + K by omega, h2, k2]
theorem gTo_F {B B2 : Nat} {a b : Int32} {x x' x2 : gX} (h : gTo B a b x x') (k : gRF B2 b x' x2) : gRF (B + B2) a x x2 := by
  obtain ⟨K, h1, h2⟩ := h
  obtain ⟨k0, L, k1, k2⟩ := k
  refine ⟨k0, L + K, by omega, fun G y o z => ?_⟩
  rw [show G + (L + K) = G + L + K by omega, h2, k2]
theorem gTo_mono {B B2 : Nat} {a b : Int32} {x x' : gX} (h : gTo B a b x x') (hb : B ≤ B2) : gTo B2 a b x x' := by
  obtain ⟨K, h1, h2⟩ := h
  exact ⟨K, by omega, h2⟩
theorem gRT_mono {B B2 : Nat} {a : Int32} {x x' : gX} (h : gRT B a x x') (hb : B ≤ B2) : gRT B2 a x x' := by
  obtain ⟨K, h1, h2⟩ := h
  exact ⟨K, by omega, h2⟩
theorem gRF_mono {B B2 : Nat} {a : Int32} {x x' : gX} (h : gRF B a x x') (hb : B ≤ B2) : gRF B2 a x x' := by
  obtain ⟨h0, K, h1, h2⟩ := h
  exact ⟨h0, K, by omega, h2⟩
theorem r_145 {x : gX} (h : x.2.1 31 = 0) : ∀ y o z, mM_takeAll_145 (some 188) (gH y x o z) = some (gH y x o z) := by
  intro y o z
  have e : (((x.1, gup x.2.1 31 0, x.2.2.1, x.2.2.2.1, x.2.2.2.2.1, x.2.2.2.2.2.1, x.2.2.2.2.2.2.1, x.2.2.2.2.2.2.2.1, x.2.2.2.2.2.2.2.2.1, x.2.2.2.2.2.2.2.2.2.1, x.2.2.2.2.2.2.2.2.2.2.1, x.2.2.2.2.2.2.2.2.2.2.2.1, x.2.2.2.2.2.2.2.2.2.2.2.2.1, x.2.2.2.2.2.2.2.2.2.2.2.2.2.1, x.2.2.2.2.2.2.2.2.2.2.2.2.2.2.1, x.2.2.2.2.2.2.2.2.2.2.2.2.2.2.2) : gX) : gX) = x := by rw [gup_same h]
  rw [mM_takeAll_145, hi_188_31, Option.bind_some, if_pos h, hp_188_31, Option.bind_some]
  exact congrArg (fun w => some (gH y w o z)) e
theorem r_48d {x : gX} {a b : Int32} {G : Nat} (h : x.2.1 31 = 0) : ∀ y o z, mM_takeAll_48 (G + 1) (some 188) a b (gH y x o z) = some (gH y x o z) := by
  intro y o z
  rw [mM_takeAll_48, hi_188_31, Option.bind_some, if_pos h]
  exact r_145 h y o z
theorem r_103d {x : gX} {a t : Int32} {G : Nat} (h : x.2.1 31 = 0) : ∀ y o z, mM_takeAll_103 (mM_takeAll_48 (G + 1)) (some 188) a t (gH y x o z) = some (gH y x o z) := by
  intro y o z
  have e : ∀ v, mM_takeAll_119 (mM_takeAll_48 (G + 1)) (some 188) a t v (gH y x o z) = some (gH y x o z) := by
    intro v
    rw [mM_takeAll_119, hi_188_31, Option.bind_some, if_pos h, mM_takeAll_142]
    exact r_48d h y o z
  rw [mM_takeAll_103, mM_takeAll_118, hi_188_18, Option.bind_some, e, e]
  split
  · rfl
  · split <;> rfl
theorem r_103n {x : gX} {a : Int32} {G : Nat} : ∀ y o z, mM_takeAll_103 (mM_takeAll_48 G) (some 188) a 0 (gH y x o z) = mM_takeAll_48 G (some 188) a 0 (gH y x o z) := by
  intro y o z
  rw [mM_takeAll_103, if_pos rfl, mM_takeAll_118, mM_takeAll_119, hi_188_31, Option.bind_some, if_pos rfl, mM_takeAll_142]
  split <;> rfl
theorem i_10 : ¬ (1 : Int32) = 0 := by decide
theorem r_48v {x x1 : gX} {t : Int32} {G : Nat} (h : x.2.1 31 = 1) (k : ∀ y o z, mM_takeValue (some 188) (gH y x o z) = some (t, gH y x1 o z)) : ∀ y o z, mM_takeAll_48 (G + 1) (some 188) 1 0 (gH y x o z) = mM_takeAll_103 (mM_takeAll_48 G) (some 188) 0 t (gH y x1 o z) := by
  intro y o z
  rw [mM_takeAll_48, hi_188_31, Option.bind_some, if_neg (by rw [h]; exact i_10), if_pos rfl, if_neg i_10, ho_188, Option.bind_some, k, Option.bind_some]
theorem r_48g {x x1 : gX} {t : Int32} {G : Nat} (h : x.2.1 31 = 1) (k : ∀ y o z, mM_goesOn (some 188) (gH y x o z) = some (t, gH y x1 o z)) : ∀ y o z, mM_takeAll_48 (G + 1) (some 188) 0 0 (gH y x o z) = if t = 1 then mM_takeAll_90 (mM_takeAll_48 G) (some 188) t 1 (gH y x1 o z) else mM_takeAll_90 (mM_takeAll_48 G) (some 188) t 0 (gH y x1 o z) := by
  intro y o z
  rw [mM_takeAll_48, hi_188_31, Option.bind_some, if_neg (by rw [h]; exact i_10), if_pos rfl, if_pos rfl, ho_188, Option.bind_some, k, Option.bind_some]
theorem gTo_val {x x1 : gX} (h : x.2.1 31 = 1) (k : ∀ y o z, mM_takeValue (some 188) (gH y x o z) = some (0, gH y x1 o z)) : gTo 1 1 0 x x1 :=
  ⟨1, by omega, fun G y o z => by rw [r_48v h k, r_103n]⟩
theorem gRT_val {x x1 : gX} (h : x.2.1 31 = 1) (k : ∀ y o z, mM_takeValue (some 188) (gH y x o z) = some (1, gH y x1 o z)) : gRT 1 1 x x1 :=
  ⟨1, by omega, fun G y o z => by rw [r_48v h k]⟩
theorem gRF_val {x x1 : gX} {t : Int32} (h : x.2.1 31 = 1) (k : ∀ y o z, mM_takeValue (some 188) (gH y x o z) = some (t, gH y x1 o z)) (h1 : x1.2.1 31 = 0) : gRF 2 1 x x1 :=
  ⟨h1, 2, by omega, fun G y o z => by rw [show G + 2 = (G + 1) + 1 by omega, r_48v h k, r_103d h1]⟩
theorem gTo_go1 {x x1 : gX} (h : x.2.1 31 = 1) (k : ∀ y o z, mM_goesOn (some 188) (gH y x o z) = some (1, gH y x1 o z)) : gTo 1 0 1 x x1 :=
  ⟨1, by omega, fun G y o z => by rw [r_48g h k, if_pos rfl, mM_takeAll_90, if_neg (by decide), mM_takeAll_102, r_103n]⟩
theorem gTo_go0 {x x1 : gX} (h : x.2.1 31 = 1) (k : ∀ y o z, mM_goesOn (some 188) (gH y x o z) = some (0, gH y x1 o z)) : gTo 1 0 0 x x1 :=
  ⟨1, by omega, fun G y o z => by rw [r_48g h k, if_neg (by decide), mM_takeAll_90, if_neg (by decide), mM_takeAll_102, r_103n]⟩
theorem gRT_go2 {x x1 : gX} (h : x.2.1 31 = 1) (k : ∀ y o z, mM_goesOn (some 188) (gH y x o z) = some (2, gH y x1 o z)) : gRT 1 0 x x1 :=
  ⟨1, by omega, fun G y o z => by rw [r_48g h k, if_neg (by decide), mM_takeAll_90, if_pos rfl, mM_takeAll_102]⟩
theorem gRF_go {x x1 : gX} {t : Int32} (h : x.2.1 31 = 1) (k : ∀ y o z, mM_goesOn (some 188) (gH y x o z) = some (t, gH y x1 o z)) (h1 : x1.2.1 31 = 0) : gRF 2 0 x x1 := by
  refine ⟨h1, 2, by omega, fun G y o z => ?_⟩
  have e : ∀ v, mM_takeAll_90 (mM_takeAll_48 (G + 1)) (some 188) t v (gH y x1 o z) = some (gH y x1 o z) := by
    intro v
    rw [mM_takeAll_90, mM_takeAll_102, mM_takeAll_102, r_103d h1, r_103d h1]
    split <;> rfl
  rw [show G + 2 = (G + 1) + 1 by omega, r_48g h k, e, e]
  split <;> rfl
theorem r_103dl {D : Nat} {x x1 : gX} {G : Nat} (h : x.2.1 31 = 1) (h18 : x.2.1 18 = Int32.ofNat (D + 1)) (hD : D < 14) (k : ∀ y o z, mM_deliver (some 188) (gH y x o z) = some (gH y x1 o z)) : ∀ y o z, mM_takeAll_103 (mM_takeAll_48 G) (some 188) 0 1 (gH y x o z) = mM_takeAll_48 G (some 188) 0 0 (gH y x1 o z) := by
  intro y o z
  have pz : (0 : Int32) < Int32.ofNat (D + 1) := n_ltl (n := 0) (by omega) (by omega) (by omega)
  have nz : ¬ Int32.ofNat (D + 1) = 0 := fun e => by have := (n_eq (m := 0) (show D + 1 < 2 ^ 31 by omega) (by omega)).mp e; omega
  rw [mM_takeAll_103, if_neg i_10, hi_188_18, Option.bind_some, h18, if_neg nz, mM_takeAll_118, mM_takeAll_119, hi_188_31, Option.bind_some, if_neg (by rw [h]; exact i_10), if_neg i_10, hi_188_18, Option.bind_some, h18, if_pos pz, ho_188, Option.bind_some, k, Option.bind_some, mM_takeAll_142]
theorem gRT_dl {D B : Nat} {a : Int32} {x x1 x2 : gX} (hr : gRT B a x x1) (h : x1.2.1 31 = 1) (h18 : x1.2.1 18 = Int32.ofNat (D + 1)) (hD : D < 14) (k : ∀ y o z, mM_deliver (some 188) (gH y x1 o z) = some (gH y x2 o z)) : gTo B a 0 x x2 := by
  obtain ⟨K, h1, h2⟩ := hr
  exact ⟨K, h1, fun G y o z => by rw [h2, r_103dl h h18 hD k]⟩
theorem gRF_dead {a : Int32} {x : gX} (h : x.2.1 31 = 0) : gRF 1 a x x := ⟨h, 1, by omega, fun G y o z => r_48d h y o z⟩
/-- a kind and a number that can be read -/
def gV1 (n0 N : Nat) (k v : Int32) : Prop := ∃ j, j < 8 ∧ k = Int32.ofNat j ∧ gcn k v = v ∧ (j = 6 → ∃ b, n0 ≤ b ∧ b < N ∧ v = Int32.ofNat b)
theorem gV1_V {n0 N s : Nat} {k v : Int32} (h : gV1 n0 N k v) : gV N s k v := by
  obtain ⟨j, h1, h2, h3, h4⟩ := h
  refine Or.inr (Or.inr ⟨j, h1, h2, fun e => ?_⟩)
  obtain ⟨b, b1, b2, b3⟩ := h4 e
  exact ⟨b, b2, b3⟩
theorem gV1_cn {n0 N : Nat} {k v : Int32} (h : gV1 n0 N k v) : gcn k v = v := by
  obtain ⟨j, h1, h2, h3, h4⟩ := h
  exact h3
def gOk (n0 f q m D N : Nat) (u' : gU) (x x' : gX) : Prop := ∃ N' pos', gD n0 f q m N' pos' u' x' ∧ N ≤ N' ∧ gXf N D x x' ∧ x'.2.1 18 = Int32.ofNat D ∧ x'.2.1 35 = u'.2.2.2.2.2.2.2.2.2.2.2.2.1 2 ∧ x'.2.1 36 = u'.2.2.2.2.2.2.2.2.2.2.2.2.1 3 ∧ gV1 n0 N' (u'.2.2.2.2.2.2.2.2.2.2.2.2.1 2) (u'.2.2.2.2.2.2.2.2.2.2.2.2.1 3)
/-- one value, or the rest of an object, at pile D: both have it, or both refuse -/
def gVal (n0 f q m D B N : Nat) (a : Int32) (u : gU) (x : gX) (F : gx_H → Option gx_H) : Prop := ∃ u', (∀ y o z, F (gH u y o z) = some (gH u' y o z)) ∧ gUf N u u' ∧ ((∃ x', gRT B a x x' ∧ gOk n0 f q m D N u' x x') ∨ (u'.2.2.2.2.2.2.2.2.2.2.2.2.1 1 = 1 ∧ ∃ x', gRF B a x x' ∧ gXd N x x'))
section H
variable {n0 f q m N pos : Nat} {u : gU} {x : gX}
theorem d_set {a b : Int32} {r s : Nat → Int32} (D : gD n0 f q m N pos ((u.1, u.2.1, u.2.2.1, u.2.2.2.1, u.2.2.2.2.1, u.2.2.2.2.2.1, u.2.2.2.2.2.2.1, u.2.2.2.2.2.2.2.1, u.2.2.2.2.2.2.2.2.1, u.2.2.2.2.2.2.2.2.2.1, u.2.2.2.2.2.2.2.2.2.2.1, u.2.2.2.2.2.2.2.2.2.2.2.1, r, u.2.2.2.2.2.2.2.2.2.2.2.2.2.1, u.2.2.2.2.2.2.2.2.2.2.2.2.2.2) : gU) ((x.1, s, x.2.2.1, x.2.2.2.1, x.2.2.2.2.1, x.2.2.2.2.2.1, x.2.2.2.2.2.2.1, x.2.2.2.2.2.2.2.1, x.2.2.2.2.2.2.2.2.1, x.2.2.2.2.2.2.2.2.2.1, x.2.2.2.2.2.2.2.2.2.2.1, x.2.2.2.2.2.2.2.2.2.2.2.1, x.2.2.2.2.2.2.2.2.2.2.2.2.1, x.2.2.2.2.2.2.2.2.2.2.2.2.2.1, x.2.2.2.2.2.2.2.2.2.2.2.2.2.2.1, x.2.2.2.2.2.2.2.2.2.2.2.2.2.2.2) : gX)) : gD n0 f q m N pos ((u.1, u.2.1, u.2.2.1, u.2.2.2.1, u.2.2.2.2.1, u.2.2.2.2.2.1, u.2.2.2.2.2.2.1, u.2.2.2.2.2.2.2.1, u.2.2.2.2.2.2.2.2.1, u.2.2.2.2.2.2.2.2.2.1, u.2.2.2.2.2.2.2.2.2.2.1, u.2.2.2.2.2.2.2.2.2.2.2.1, gup (gup r 2 a) 3 b, u.2.2.2.2.2.2.2.2.2.2.2.2.2.1, u.2.2.2.2.2.2.2.2.2.2.2.2.2.2) : gU) ((x.1, gup (gup s 35 a) 36 b, x.2.2.1, x.2.2.2.1, x.2.2.2.2.1, x.2.2.2.2.2.1, x.2.2.2.2.2.2.1, x.2.2.2.2.2.2.2.1, x.2.2.2.2.2.2.2.2.1, x.2.2.2.2.2.2.2.2.2.1, x.2.2.2.2.2.2.2.2.2.2.1, x.2.2.2.2.2.2.2.2.2.2.2.1, x.2.2.2.2.2.2.2.2.2.2.2.2.1, x.2.2.2.2.2.2.2.2.2.2.2.2.2.1, x.2.2.2.2.2.2.2.2.2.2.2.2.2.2.1, x.2.2.2.2.2.2.2.2.2.2.2.2.2.2.2) : gX) :=
  gD_r (u := ((u.1, u.2.1, u.2.2.1, u.2.2.2.1, u.2.2.2.2.1, u.2.2.2.2.2.1, u.2.2.2.2.2.2.1, u.2.2.2.2.2.2.2.1, u.2.2.2.2.2.2.2.2.1, u.2.2.2.2.2.2.2.2.2.1, u.2.2.2.2.2.2.2.2.2.2.1, u.2.2.2.2.2.2.2.2.2.2.2.1, r, u.2.2.2.2.2.2.2.2.2.2.2.2.2.1, u.2.2.2.2.2.2.2.2.2.2.2.2.2.2) : gU)) (x := ((x.1, s, x.2.2.1, x.2.2.2.1, x.2.2.2.2.1, x.2.2.2.2.2.1, x.2.2.2.2.2.2.1, x.2.2.2.2.2.2.2.1, x.2.2.2.2.2.2.2.2.1, x.2.2.2.2.2.2.2.2.2.1, x.2.2.2.2.2.2.2.2.2.2.1, x.2.2.2.2.2.2.2.2.2.2.2.1, x.2.2.2.2.2.2.2.2.2.2.2.2.1, x.2.2.2.2.2.2.2.2.2.2.2.2.2.1, x.2.2.2.2.2.2.2.2.2.2.2.2.2.2.1, x.2.2.2.2.2.2.2.2.2.2.2.2.2.2.2) : gX)) D D.wr D.pu D.hp rfl rfl rfl D.gg D.px rfl (fun i hi => by rw [gup_ne (by omega), gup_ne (by omega)])
def gPr (n0 f q m N : Nat) (u : gU) (x : gX) (A M : gx_H → Option gx_H) : Prop := (∃ pos' r s, (∀ y o z, A (gH u y o z) = some (gH ((u.1, u.2.1, u.2.2.1, u.2.2.2.1, u.2.2.2.2.1, u.2.2.2.2.2.1, u.2.2.2.2.2.2.1, u.2.2.2.2.2.2.2.1, u.2.2.2.2.2.2.2.2.1, u.2.2.2.2.2.2.2.2.2.1, u.2.2.2.2.2.2.2.2.2.2.1, u.2.2.2.2.2.2.2.2.2.2.2.1, r, u.2.2.2.2.2.2.2.2.2.2.2.2.2.1, u.2.2.2.2.2.2.2.2.2.2.2.2.2.2) : gU) y o z)) ∧ (∀ y o z, M (gH y x o z) = some (gH y ((x.1, s, x.2.2.1, x.2.2.2.1, x.2.2.2.2.1, x.2.2.2.2.2.1, x.2.2.2.2.2.2.1, x.2.2.2.2.2.2.2.1, x.2.2.2.2.2.2.2.2.1, x.2.2.2.2.2.2.2.2.2.1, x.2.2.2.2.2.2.2.2.2.2.1, x.2.2.2.2.2.2.2.2.2.2.2.1, x.2.2.2.2.2.2.2.2.2.2.2.2.1, x.2.2.2.2.2.2.2.2.2.2.2.2.2.1, x.2.2.2.2.2.2.2.2.2.2.2.2.2.2.1, x.2.2.2.2.2.2.2.2.2.2.2.2.2.2.2) : gX) o z)) ∧ gD n0 f q m N pos' ((u.1, u.2.1, u.2.2.1, u.2.2.2.1, u.2.2.2.2.1, u.2.2.2.2.2.1, u.2.2.2.2.2.2.1, u.2.2.2.2.2.2.2.1, u.2.2.2.2.2.2.2.2.1, u.2.2.2.2.2.2.2.2.2.1, u.2.2.2.2.2.2.2.2.2.2.1, u.2.2.2.2.2.2.2.2.2.2.2.1, r, u.2.2.2.2.2.2.2.2.2.2.2.2.2.1, u.2.2.2.2.2.2.2.2.2.2.2.2.2.2) : gU) ((x.1, s, x.2.2.1, x.2.2.2.1, x.2.2.2.2.1, x.2.2.2.2.2.1, x.2.2.2.2.2.2.1, x.2.2.2.2.2.2.2.1, x.2.2.2.2.2.2.2.2.1, x.2.2.2.2.2.2.2.2.2.1, x.2.2.2.2.2.2.2.2.2.2.1, x.2.2.2.2.2.2.2.2.2.2.2.1, x.2.2.2.2.2.2.2.2.2.2.2.2.1, x.2.2.2.2.2.2.2.2.2.2.2.2.2.1, x.2.2.2.2.2.2.2.2.2.2.2.2.2.2.1, x.2.2.2.2.2.2.2.2.2.2.2.2.2.2.2) : gX) ∧ gKs x.2.1 s ∧ s 35 = r 2 ∧ s 36 = r 3 ∧ gV1 n0 N (r 2) (r 3)) ∨ ∃ r s, (∀ y o z, A (gH u y o z) = some (gH ((u.1, u.2.1, u.2.2.1, u.2.2.2.1, u.2.2.2.2.1, u.2.2.2.2.2.1, u.2.2.2.2.2.2.1, u.2.2.2.2.2.2.2.1, u.2.2.2.2.2.2.2.2.1, u.2.2.2.2.2.2.2.2.2.1, u.2.2.2.2.2.2.2.2.2.2.1, u.2.2.2.2.2.2.2.2.2.2.2.1, r, u.2.2.2.2.2.2.2.2.2.2.2.2.2.1, u.2.2.2.2.2.2.2.2.2.2.2.2.2.2) : gU) y o z)) ∧ (∀ y o z, M (gH y x o z) = some (gH y ((x.1, s, x.2.2.1, x.2.2.2.1, x.2.2.2.2.1, x.2.2.2.2.2.1, x.2.2.2.2.2.2.1, x.2.2.2.2.2.2.2.1, x.2.2.2.2.2.2.2.2.1, x.2.2.2.2.2.2.2.2.2.1, x.2.2.2.2.2.2.2.2.2.2.1, x.2.2.2.2.2.2.2.2.2.2.2.1, x.2.2.2.2.2.2.2.2.2.2.2.2.1, x.2.2.2.2.2.2.2.2.2.2.2.2.2.1, x.2.2.2.2.2.2.2.2.2.2.2.2.2.2.1, x.2.2.2.2.2.2.2.2.2.2.2.2.2.2.2) : gX) o z)) ∧ r 1 = 1 ∧ s 31 = 0 ∧ gKs x.2.1 s
theorem p_int (D : gD n0 f q m N pos u x) : gPr n0 f q m N u x (fun h => (cR_nextInt (some 187) (some 163) h).bind fun r => cR_settle (some 187) 4 r.1 r.2) (fun h => (mM_lengthy (some 188) 32 h).bind fun r => (mM_plain r.1).bind fun v => mM_got (some 188) 4 (Int64.toInt32 v) r.2) := by
  rcases d_int D with ⟨a, b, r, s, pos', k1, k2, rfl, k4, k5, k6, k7⟩ | ⟨a, b, r, s, k1, k2, k3, k4, k5⟩
  · refine Or.inl ⟨pos', gup (gup r 2 4) 3 (Int64.toInt32 (gzz b)), gup (gup s 35 4) 36 (Int64.toInt32 (gzz b)), fun y o z => ?_, fun y o z => ?_, d_set k4, fun i hi => ?_, rfl, rfl, ⟨4, by omega, rfl, rfl, fun e => by omega⟩⟩
    · simp only [k1, Option.bind_some, k_settle]
    · simp only [k2, Option.bind_some, m_plain, r_got]
    · rw [gup_ne (by omega), gup_ne (by omega)]; exact k5 i hi
  · refine Or.inr ⟨gup (gup r 2 4) 3 a, gup (gup s 35 4) 36 (Int64.toInt32 (gzz b)), fun y o z => ?_, fun y o z => ?_, k3, k4, fun i hi => ?_⟩
    · simp only [k1, Option.bind_some, k_settle]
    · simp only [k2, Option.bind_some, m_plain, r_got]
    · rw [gup_ne (by omega), gup_ne (by omega)]; exact k5 i hi
theorem p_text (D : gD n0 f q m N pos u x) : gPr n0 f q m N u x (cR_readText (some 187) (some 163)) (fun h => (mM_text (some 188) h).bind fun r => mM_got (some 188) 5 r.1 r.2) := by
  rcases d_text D with ⟨v, pos', r, s, k0, k1, k2, r0, r1, r2, r3, r4, r5, r6, s1, s2, s3, ks⟩ | ⟨v, r, s, k1, k2, r1, s1, ks⟩
  · refine Or.inl ⟨pos', r, gup (gup s 35 5) 36 v, k1, fun y o z => ?_, gD_r D r1 r0 k0 r4 r5 r6 s1 s2 s3 (fun i hi => ?_), fun i hi => ?_, r2.symm, r3.symm, ⟨5, by omega, r2, by rw [r2]; rfl, fun e => by omega⟩⟩
    · simp only [k2, Option.bind_some, r_got]
    · rw [gup_ne (by omega), gup_ne (by omega)]; exact ks i hi
    · rw [gup_ne (by omega), gup_ne (by omega)]; exact ks i hi
  · refine Or.inr ⟨r, gup (gup s 35 5) 36 v, k1, fun y o z => ?_, r1, s1, fun i hi => ?_⟩
    · simp only [k2, Option.bind_some, r_got]
    · rw [gup_ne (by omega), gup_ne (by omega)]; exact ks i hi
theorem i_pl {a : Int64} {c : Nat} (hc : c ≤ 32) (h0 : ¬ a < 0) (h1 : a < Int32.toInt64 (Int32.ofNat c)) : ∃ j, j < c ∧ Int64.toInt32 a = Int32.ofNat j := by
  rw [Int64.lt_iff_toInt_lt, Int32.toInt_toInt64, Int32.toInt_ofNat_of_lt (show c < 2 ^ 31 by omega)] at h1
  rw [Int64.lt_iff_toInt_lt] at h0
  have h0' : ¬ a.toInt < 0 := h0
  refine ⟨a.toInt.toNat, by omega, ?_⟩
  rw [← Int32.toInt_inj, Int64.toInt_toInt32, Int32.toInt_ofNat_of_lt (by omega), Int.bmod_eq_of_le_mul_two (by omega) (by omega)]
  omega
theorem r_pl33 {s : Nat → Int32} {fl : Int32} {a : Int64} (h : s 31 = 0 ∨ True) : ∃ s', s' 31 = 0 ∧ gKs s s' ∧ ∀ y o z, mM_takePlace_33 (some 188) fl a (some 188) 0 (gH y ((x.1, s, x.2.2.1, x.2.2.2.1, x.2.2.2.2.1, x.2.2.2.2.2.1, x.2.2.2.2.2.2.1, x.2.2.2.2.2.2.2.1, x.2.2.2.2.2.2.2.2.1, x.2.2.2.2.2.2.2.2.2.1, x.2.2.2.2.2.2.2.2.2.2.1, x.2.2.2.2.2.2.2.2.2.2.2.1, x.2.2.2.2.2.2.2.2.2.2.2.2.1, x.2.2.2.2.2.2.2.2.2.2.2.2.2.1, x.2.2.2.2.2.2.2.2.2.2.2.2.2.2.1, x.2.2.2.2.2.2.2.2.2.2.2.2.2.2.2) : gX) o z) = some (gH y ((x.1, s', x.2.2.1, x.2.2.2.1, x.2.2.2.2.1, x.2.2.2.2.2.1, x.2.2.2.2.2.2.1, x.2.2.2.2.2.2.2.1, x.2.2.2.2.2.2.2.2.1, x.2.2.2.2.2.2.2.2.2.1, x.2.2.2.2.2.2.2.2.2.2.1, x.2.2.2.2.2.2.2.2.2.2.2.1, x.2.2.2.2.2.2.2.2.2.2.2.2.1, x.2.2.2.2.2.2.2.2.2.2.2.2.2.1, x.2.2.2.2.2.2.2.2.2.2.2.2.2.2.1, x.2.2.2.2.2.2.2.2.2.2.2.2.2.2.2) : gX) o z) := by
  have e31 : gup s 31 0 31 = 0 := rfl
  refine ⟨gup (gup (gup s 31 0) 35 6) 36 0, rfl, fun i hi => by rw [gup_ne (by omega), gup_ne (by omega), gup_ne (by omega)], fun y o z => ?_⟩
  rw [mM_takePlace_33, if_neg (by decide), hp_188_31, Option.bind_some, hi_188_31, Option.bind_some]
  rw [if_pos (show gup s 31 0 31 = 0 from e31), mM_takePlace_71, ho_188, Option.bind_some, r_got, Option.bind_some]
theorem p_place {c base : Nat} {fl : Int32} (D : gD n0 f q m N pos u x) (hf : (fl = 0 ∧ base = f ∧ c = N - f) ∨ (fl = 1 ∧ base = n0 ∧ c = q)) : gPr n0 f q m N u x (cR_readPlace (some 187) (some 163) (Int32.ofNat base) (Int32.ofNat c)) (mM_takePlace (some 188) (Int32.ofNat c) fl) := by
  have hN := D.hN
  have nf := D.nf
  have fN := D.fN
  have hc : c ≤ 32 := by omega
  rcases d_len64 D with ⟨a, b, r, s, pos', k1, k2, rfl, k4, k5, k6, k7⟩ | ⟨a, b, r, s, k1, k2, k3, k4, k5⟩
  · have g31 : s 31 = 1 := k4.gg
    have badC : ∀ (h : a < 0 ∨ ¬ a < Int32.toInt64 (Int32.ofNat c)) y o z, cR_readPlace (some 187) (some 163) (Int32.ofNat base) (Int32.ofNat c) (gH u y o z) = some (gH ((u.1, u.2.1, u.2.2.1, u.2.2.2.1, u.2.2.2.2.1, u.2.2.2.2.2.1, u.2.2.2.2.2.2.1, u.2.2.2.2.2.2.2.1, u.2.2.2.2.2.2.2.2.1, u.2.2.2.2.2.2.2.2.2.1, u.2.2.2.2.2.2.2.2.2.2.1, u.2.2.2.2.2.2.2.2.2.2.2.1, gup r 1 1, u.2.2.2.2.2.2.2.2.2.2.2.2.2.1, u.2.2.2.2.2.2.2.2.2.2.2.2.2.2) : gU) y o z) := by
      intro h y o z
      unfold cR_readPlace
      rw [ho_187, Option.bind_some, k1, Option.bind_some]
      by_cases c0 : a < 0
      · rw [if_pos c0, hp_187_1, Option.bind_some]
      · rw [if_neg c0, if_neg (by rcases h with h | h; exact absurd h c0; exact h), hp_187_1, Option.bind_some]
    obtain ⟨s', t1, t2, t3⟩ := r_pl33 (x := x) (s := s) (fl := fl) (a := a) (Or.inr trivial)
    have badR : ∀ (h : a < 0 ∨ ¬ a < Int32.toInt64 (Int32.ofNat c)) y o z, mM_takePlace (some 188) (Int32.ofNat c) fl (gH y x o z) = some (gH y ((x.1, s', x.2.2.1, x.2.2.2.1, x.2.2.2.2.1, x.2.2.2.2.2.1, x.2.2.2.2.2.2.1, x.2.2.2.2.2.2.2.1, x.2.2.2.2.2.2.2.2.1, x.2.2.2.2.2.2.2.2.2.1, x.2.2.2.2.2.2.2.2.2.2.1, x.2.2.2.2.2.2.2.2.2.2.2.1, x.2.2.2.2.2.2.2.2.2.2.2.2.1, x.2.2.2.2.2.2.2.2.2.2.2.2.2.1, x.2.2.2.2.2.2.2.2.2.2.2.2.2.2.1, x.2.2.2.2.2.2.2.2.2.2.2.2.2.2.2) : gX) o z) := by
      intro h y o z
      unfold mM_takePlace
      rw [ho_188, Option.bind_some, k2, Option.bind_some, hi_188_31, Option.bind_some, if_neg (by show ¬ s 31 = 0; rw [g31]; exact i_10)]
      by_cases c0 : a < 0
      · rw [if_pos c0]; exact t3 y o z
      · rw [if_neg c0, if_neg (by rcases h with h | h; exact absurd h c0; exact h)]; exact t3 y o z
    by_cases c0 : a < 0
    · exact Or.inr ⟨gup r 1 1, s', badC (Or.inl c0), badR (Or.inl c0), rfl, t1, gKs_trans k5 t2⟩
    · by_cases c1 : a < Int32.toInt64 (Int32.ofNat c)
      · obtain ⟨j, j1, j2⟩ := i_pl hc c0 c1
        have vv : gV1 n0 N 6 (Int32.ofNat (base + j)) := ⟨6, by omega, rfl, rfl, fun _ => ⟨base + j, by omega, by omega, rfl⟩⟩
        refine Or.inl ⟨pos', gup (gup r 2 6) 3 (Int32.ofNat (base + j)), gup (gup s 35 6) 36 (Int32.ofNat (base + j)), fun y o z => ?_, fun y o z => ?_, d_set k4, fun i hi => ?_, rfl, rfl, vv⟩
        · unfold cR_readPlace
          rw [ho_187, Option.bind_some, k1, Option.bind_some, if_neg c0, if_pos c1, ho_187, Option.bind_some, k_settle, Option.bind_some]
          show some (gH ((u.1, u.2.1, u.2.2.1, u.2.2.2.1, u.2.2.2.2.1, u.2.2.2.2.2.1, u.2.2.2.2.2.2.1, u.2.2.2.2.2.2.2.1, u.2.2.2.2.2.2.2.2.1, u.2.2.2.2.2.2.2.2.2.1, u.2.2.2.2.2.2.2.2.2.2.1, u.2.2.2.2.2.2.2.2.2.2.2.1, gup (gup r 2 6) 3 (Int32.ofNat base + Int64.toInt32 a), u.2.2.2.2.2.2.2.2.2.2.2.2.2.1, u.2.2.2.2.2.2.2.2.2.2.2.2.2.2) : gU) y o z) = _
          rw [j2, n_add]
        · unfold mM_takePlace
          rw [ho_188, Option.bind_some, k2, Option.bind_some, hi_188_31, Option.bind_some, if_neg (by show ¬ s 31 = 0; rw [g31]; exact i_10), if_neg c0, if_pos c1]
          show mM_takePlace_33 (some 188) fl a (some 188) 1 (gH y ((x.1, s, x.2.2.1, x.2.2.2.1, x.2.2.2.2.1, x.2.2.2.2.2.1, x.2.2.2.2.2.2.1, x.2.2.2.2.2.2.2.1, x.2.2.2.2.2.2.2.2.1, x.2.2.2.2.2.2.2.2.2.1, x.2.2.2.2.2.2.2.2.2.2.1, x.2.2.2.2.2.2.2.2.2.2.2.1, x.2.2.2.2.2.2.2.2.2.2.2.2.1, x.2.2.2.2.2.2.2.2.2.2.2.2.2.1, x.2.2.2.2.2.2.2.2.2.2.2.2.2.2.1, x.2.2.2.2.2.2.2.2.2.2.2.2.2.2.2) : gX) o z) = _
          have es : (((x.1, gup s 31 1, x.2.2.1, x.2.2.2.1, x.2.2.2.2.1, x.2.2.2.2.2.1, x.2.2.2.2.2.2.1, x.2.2.2.2.2.2.2.1, x.2.2.2.2.2.2.2.2.1, x.2.2.2.2.2.2.2.2.2.1, x.2.2.2.2.2.2.2.2.2.2.1, x.2.2.2.2.2.2.2.2.2.2.2.1, x.2.2.2.2.2.2.2.2.2.2.2.2.1, x.2.2.2.2.2.2.2.2.2.2.2.2.2.1, x.2.2.2.2.2.2.2.2.2.2.2.2.2.2.1, x.2.2.2.2.2.2.2.2.2.2.2.2.2.2.2) : gX) : gX) = ((x.1, s, x.2.2.1, x.2.2.2.1, x.2.2.2.2.1, x.2.2.2.2.2.1, x.2.2.2.2.2.2.1, x.2.2.2.2.2.2.2.1, x.2.2.2.2.2.2.2.2.1, x.2.2.2.2.2.2.2.2.2.1, x.2.2.2.2.2.2.2.2.2.2.1, x.2.2.2.2.2.2.2.2.2.2.2.1, x.2.2.2.2.2.2.2.2.2.2.2.2.1, x.2.2.2.2.2.2.2.2.2.2.2.2.2.1, x.2.2.2.2.2.2.2.2.2.2.2.2.2.2.1, x.2.2.2.2.2.2.2.2.2.2.2.2.2.2.2) : gX) := by rw [gup_same g31]
          have hx : gv_pV (gH y ((x.1, s, x.2.2.1, x.2.2.2.1, x.2.2.2.2.1, x.2.2.2.2.2.1, x.2.2.2.2.2.2.1, x.2.2.2.2.2.2.2.1, x.2.2.2.2.2.2.2.2.1, x.2.2.2.2.2.2.2.2.2.1, x.2.2.2.2.2.2.2.2.2.2.1, x.2.2.2.2.2.2.2.2.2.2.2.1, x.2.2.2.2.2.2.2.2.2.2.2.2.1, x.2.2.2.2.2.2.2.2.2.2.2.2.2.1, x.2.2.2.2.2.2.2.2.2.2.2.2.2.2.1, x.2.2.2.2.2.2.2.2.2.2.2.2.2.2.2) : gX) o z) (some 188) 7 31 (.int 1) = some (gH y ((x.1, s, x.2.2.1, x.2.2.2.1, x.2.2.2.2.1, x.2.2.2.2.2.1, x.2.2.2.2.2.2.1, x.2.2.2.2.2.2.2.1, x.2.2.2.2.2.2.2.2.1, x.2.2.2.2.2.2.2.2.2.1, x.2.2.2.2.2.2.2.2.2.2.1, x.2.2.2.2.2.2.2.2.2.2.2.1, x.2.2.2.2.2.2.2.2.2.2.2.2.1, x.2.2.2.2.2.2.2.2.2.2.2.2.2.1, x.2.2.2.2.2.2.2.2.2.2.2.2.2.2.1, x.2.2.2.2.2.2.2.2.2.2.2.2.2.2.2) : gX) o z) := by
            rw [hp_188_31]
            exact congrArg (fun w => some (gH y w o z)) es
          rw [mM_takePlace_33, if_neg (by decide), hx, Option.bind_some, hi_188_31, Option.bind_some, if_neg (by show ¬ s 31 = 0; rw [g31]; exact i_10), j2]
          rcases hf with ⟨rfl, h2, h3⟩ | ⟨rfl, h2, h3⟩
          · rw [if_pos rfl, hr_188_34, Option.bind_some, ha_210 (by omega), Option.bind_some, mM_takePlace_71, ho_188, Option.bind_some, r_got, Option.bind_some]
            show some (gH y ((x.1, gup (gup s 35 6) 36 (x.2.2.2.2.2.2.2.2.2.2.2.2.2.2.2 j), x.2.2.1, x.2.2.2.1, x.2.2.2.2.1, x.2.2.2.2.2.1, x.2.2.2.2.2.2.1, x.2.2.2.2.2.2.2.1, x.2.2.2.2.2.2.2.2.1, x.2.2.2.2.2.2.2.2.2.1, x.2.2.2.2.2.2.2.2.2.2.1, x.2.2.2.2.2.2.2.2.2.2.2.1, x.2.2.2.2.2.2.2.2.2.2.2.2.1, x.2.2.2.2.2.2.2.2.2.2.2.2.2.1, x.2.2.2.2.2.2.2.2.2.2.2.2.2.2.1, x.2.2.2.2.2.2.2.2.2.2.2.2.2.2.2) : gX) o z) = _
            rw [D.ro j (by omega), h2]
          · have e1 : s 1 = Int32.ofNat n0 := (k5 1 (by omega)).trans D.xo
            rw [if_neg i_10, hi_188_1, Option.bind_some, mM_takePlace_71, ho_188, Option.bind_some, r_got, Option.bind_some]
            show some (gH y ((x.1, gup (gup s 35 6) 36 (s 1 + Int32.ofNat j), x.2.2.1, x.2.2.2.1, x.2.2.2.2.1, x.2.2.2.2.2.1, x.2.2.2.2.2.2.1, x.2.2.2.2.2.2.2.1, x.2.2.2.2.2.2.2.2.1, x.2.2.2.2.2.2.2.2.2.1, x.2.2.2.2.2.2.2.2.2.2.1, x.2.2.2.2.2.2.2.2.2.2.2.1, x.2.2.2.2.2.2.2.2.2.2.2.2.1, x.2.2.2.2.2.2.2.2.2.2.2.2.2.1, x.2.2.2.2.2.2.2.2.2.2.2.2.2.2.1, x.2.2.2.2.2.2.2.2.2.2.2.2.2.2.2) : gX) o z) = _
            rw [e1, n_add, h2]
        · rw [gup_ne (by omega), gup_ne (by omega)]; exact k5 i hi
      · exact Or.inr ⟨gup r 1 1, s', badC (Or.inr c1), badR (Or.inr c1), rfl, t1, gKs_trans k5 t2⟩
  · obtain ⟨s', t1, t2, t3⟩ := r_pl33 (x := x) (s := s) (fl := fl) (a := b) (Or.inr trivial)
    have rf : ∀ y o z, mM_takePlace (some 188) (Int32.ofNat c) fl (gH y x o z) = some (gH y ((x.1, s', x.2.2.1, x.2.2.2.1, x.2.2.2.2.1, x.2.2.2.2.2.1, x.2.2.2.2.2.2.1, x.2.2.2.2.2.2.2.1, x.2.2.2.2.2.2.2.2.1, x.2.2.2.2.2.2.2.2.2.1, x.2.2.2.2.2.2.2.2.2.2.1, x.2.2.2.2.2.2.2.2.2.2.2.1, x.2.2.2.2.2.2.2.2.2.2.2.2.1, x.2.2.2.2.2.2.2.2.2.2.2.2.2.1, x.2.2.2.2.2.2.2.2.2.2.2.2.2.2.1, x.2.2.2.2.2.2.2.2.2.2.2.2.2.2.2) : gX) o z) := by
      intro y o z
      unfold mM_takePlace
      rw [ho_188, Option.bind_some, k2, Option.bind_some, hi_188_31, Option.bind_some, if_pos (show s 31 = 0 from k4)]
      exact t3 y o z
    have cl : ∃ r', r' 1 = 1 ∧ ∀ y o z, cR_readPlace (some 187) (some 163) (Int32.ofNat base) (Int32.ofNat c) (gH u y o z) = some (gH ((u.1, u.2.1, u.2.2.1, u.2.2.2.1, u.2.2.2.2.1, u.2.2.2.2.2.1, u.2.2.2.2.2.2.1, u.2.2.2.2.2.2.2.1, u.2.2.2.2.2.2.2.2.1, u.2.2.2.2.2.2.2.2.2.1, u.2.2.2.2.2.2.2.2.2.2.1, u.2.2.2.2.2.2.2.2.2.2.2.1, r', u.2.2.2.2.2.2.2.2.2.2.2.2.2.1, u.2.2.2.2.2.2.2.2.2.2.2.2.2.2) : gU) y o z) := by
      by_cases c0 : a < 0
      · refine ⟨gup r 1 1, rfl, fun y o z => ?_⟩
        unfold cR_readPlace
        rw [ho_187, Option.bind_some, k1, Option.bind_some, if_pos c0, hp_187_1, Option.bind_some]
      · by_cases c1 : a < Int32.toInt64 (Int32.ofNat c)
        · refine ⟨gup (gup r 2 6) 3 (Int32.ofNat base + Int64.toInt32 a), k3, fun y o z => ?_⟩
          unfold cR_readPlace
          rw [ho_187, Option.bind_some, k1, Option.bind_some, if_neg c0, if_pos c1, ho_187, Option.bind_some, k_settle, Option.bind_some]
        · refine ⟨gup r 1 1, rfl, fun y o z => ?_⟩
          unfold cR_readPlace
          rw [ho_187, Option.bind_some, k1, Option.bind_some, if_neg c0, if_neg c1, hp_187_1, Option.bind_some]
    obtain ⟨r', r1, r2⟩ := cl
    exact Or.inr ⟨r', s', r2, rf, r1, t1, gKs_trans k5 t2⟩
end H
