/-! the class goes down, the reference has its pile: runs of the reference's loop, what they leave as it was -/
abbrev gWf := Option Nat → Option Nat → Option Nat → Int32 → Int32 → Int32 → gx_H → Option gx_H
def gRun (B : Nat) (x x' : gX) : Prop := ∃ K, K ≤ B ∧ ∀ N y o z, mM_write_80 (N + K) (some 188) (gH y x o z) = mM_write_80 N (some 188) (gH y x' o z)
theorem gRun_refl {x : gX} : gRun 0 x x := ⟨0, by omega, fun _ _ _ _ => rfl⟩
theorem gRun_mono {B B2 : Nat} {x x' : gX} (h : gRun B x x') (hb : B ≤ B2) : gRun B2 x x' := by
  obtain ⟨K, h1, h2⟩ := h
  exact ⟨K, by omega, h2⟩
theorem gRun_trans {B B2 : Nat} {x x' x2 : gX} (h : gRun B x x') (k : gRun B2 x' x2) : gRun (B + B2) x x2 := by
  obtain ⟨K, h1, h2⟩ := h
  obtain ⟨L, k1, k2⟩ := k
  refine ⟨L + K, by omega, fun N y o z => ?_⟩
  rw [show N + (L + K) = N + L + K by omega, h2, k2]
theorem gRun_step {D : Nat} {x x' : gX} (h0 : x.2.1 26 = 0) (h1 : x.2.1 18 = Int32.ofNat (D + 1)) (hD : D < 14) (h : ∀ y o z, mM_sayNext (some 188) (gH y x o z) = some (gH y x' o z)) : gRun 1 x x' := by
  refine ⟨1, by omega, fun N y o z => ?_⟩
  have pz : (0 : Int32) < Int32.ofNat (D + 1) := n_ltl (n := 0) (by omega) (by omega) (by omega)
  rw [mM_write_80]
  simp only [hi_188_26, Option.bind_some, h0, if_true, hi_188_18, h1, if_pos pz, ho_188, h]
abbrev gFr  (D : Nat) (u u' : gU) (x x' : gX) : Prop := (∀ i, i ≤ D → u'.2.2.2.2.2.2.2.2.2.2.2.2.2.1 i = u.2.2.2.2.2.2.2.2.2.2.2.2.2.1 i) ∧ (∀ k, (u'.1 k).2.2.2.2.1 4 = (u.1 k).2.2.2.2.1 4) ∧ (∀ k, ¬ (u.1 k).2.2.2.2.1 4 = 0 → (u'.1 k).2.2.2.2.1 5 = (u.1 k).2.2.2.2.1 5) ∧ (∀ i, i < D → x'.2.2.2.2.2.2.1 i = x.2.2.2.2.2.2.1 i ∧ x'.2.2.2.2.2.2.2.1 i = x.2.2.2.2.2.2.2.1 i ∧ x'.2.2.2.2.2.2.2.2.1 i = x.2.2.2.2.2.2.2.2.1 i) ∧ (∀ j, j < 6 * D → x'.2.2.2.2.2.2.2.2.2.1 j = x.2.2.2.2.2.2.2.2.2.1 j) ∧ (u'.2.2.2.2.2.2.1 = u.2.2.2.2.2.2.1)
theorem gFr.fkd {D : Nat} {u u' : gU} {x x' : gX} (h : gFr D u u' x x') : ∀ i, i ≤ D → u'.2.2.2.2.2.2.2.2.2.2.2.2.2.1 i = u.2.2.2.2.2.2.2.2.2.2.2.2.2.1 i := h.1
theorem gFr.so {D : Nat} {u u' : gU} {x x' : gX} (h : gFr D u u' x x') : ∀ k, (u'.1 k).2.2.2.2.1 4 = (u.1 k).2.2.2.2.1 4 := h.2.1
theorem gFr.fct {D : Nat} {u u' : gU} {x x' : gX} (h : gFr D u u' x x') : ∀ k, ¬ (u.1 k).2.2.2.2.1 4 = 0 → (u'.1 k).2.2.2.2.1 5 = (u.1 k).2.2.2.2.1 5 := h.2.2.1
theorem gFr.pi {D : Nat} {u u' : gU} {x x' : gX} (h : gFr D u u' x x') : ∀ i, i < D → x'.2.2.2.2.2.2.1 i = x.2.2.2.2.2.2.1 i ∧ x'.2.2.2.2.2.2.2.1 i = x.2.2.2.2.2.2.2.1 i ∧ x'.2.2.2.2.2.2.2.2.1 i = x.2.2.2.2.2.2.2.2.1 i := h.2.2.2.1
theorem gFr.hk {D : Nat} {u u' : gU} {x x' : gX} (h : gFr D u u' x x') : ∀ j, j < 6 * D → x'.2.2.2.2.2.2.2.2.2.1 j = x.2.2.2.2.2.2.2.2.2.1 j := h.2.2.2.2.1
theorem gFr.fpa {D : Nat} {u u' : gU} {x x' : gX} (h : gFr D u u' x x') : u'.2.2.2.2.2.2.1 = u.2.2.2.2.2.2.1 := h.2.2.2.2.2
theorem gFr_refl {D : Nat} {u : gU} {x : gX} : gFr D u u x x := ⟨fun _ _ => rfl, fun _ => rfl, fun _ _ => rfl, fun _ _ => ⟨rfl, rfl, rfl⟩, fun _ _ => rfl, rfl⟩
theorem gFr_trans {D D2 : Nat} {u u' u2 : gU} {x x' x2 : gX} (h : gFr D u u' x x') (k : gFr D2 u' u2 x' x2) (hD : D ≤ D2) : gFr D u u2 x x2 := by
  refine ⟨fun i hi => (k.fkd i (by omega)).trans (h.fkd i hi), fun i => (k.so i).trans (h.so i), fun i hi => (k.fct i (by rw [h.so]; exact hi)).trans (h.fct i hi), fun i hi => ?_, fun j hj => (k.hk j (by omega)).trans (h.hk j hj), k.fpa.trans h.fpa⟩
  obtain ⟨a1, a2, a3⟩ := h.pi i hi
  obtain ⟨b1, b2, b3⟩ := k.pi i (by omega)
  exact ⟨b1.trans a1, b2.trans a2, b3.trans a3⟩
theorem gFr_by {D : Nat} {u u' : gU} {x x' : gX} (h : gBy u u' x x') : gFr D u u' x x' :=
  ⟨fun _ _ => by rw [h.bkd], fun _ => by rw [h.bC], fun _ _ => by rw [h.bC], fun _ _ => by rw [h.b201, h.b202, h.b203]; exact ⟨rfl, rfl, rfl⟩, fun _ _ => by rw [h.b204], h.u6⟩
def gEnd (n m p q D e g : Nat) (u : gU) (x : gX) (u' : gU) (x' : gX) : Prop := ∃ e' g', gW n m p q e' g' u' x' ∧ (u'.2.2.2.2.2.2.2.2.1 4 = 0 → u.2.2.2.2.2.2.2.2.1 4 = 0 ∧ e ≤ e' ∧ g' + e ≤ g + e') ∧ gFr D u u' x x'
theorem gEnd_trans {n m p q D D2 e g e2 g2 : Nat} {u u' u2 : gU} {x x' x2 : gX} (h2 : u'.2.2.2.2.2.2.2.2.1 4 = 0 → u.2.2.2.2.2.2.2.2.1 4 = 0 ∧ e ≤ e2 ∧ g2 + e ≤ g + e2) (h3 : gFr D u u' x x') (k : gEnd n m p q D2 e2 g2 u' x' u2 x2) (hD : D ≤ D2) : gEnd n m p q D e g u x u2 x2 := by
  obtain ⟨e', g', k1, k2, k3⟩ := k
  refine ⟨e', g', k1, fun q => ?_, gFr_trans h3 k3 hD⟩
  obtain ⟨a1, a2, a3⟩ := k2 q
  obtain ⟨b1, b2, b3⟩ := h2 a1
  exact ⟨b1, by omega, by omega⟩
theorem gEnd_by {n m p q D e g e' : Nat} {u u' : gU} {x x' : gX} (h : gBy u u' x x') (W : gW n m p q e' g u' x') (he : u'.2.2.2.2.2.2.2.2.1 4 = 0 → e ≤ e') : gEnd n m p q D e g u x u' x' :=
  ⟨e', g, W, fun q => ⟨gBy_0 h q, he q, by have := he q; omega⟩, gFr_by h⟩
theorem gW_x {n m p q e g : Nat} {u : gU} {x x' : gX} (W : gW n m p q e g u x) (hR : x'.1 = x.1) (h188 : ∀ i, ¬ i = 18 → x'.2.1 i = x.2.1 i) (h197 : x'.2.2.1 = x.2.2.1) (h198 : x'.2.2.2.1 = x.2.2.2.1) (h199 : x'.2.2.2.2.1 = x.2.2.2.2.1) (h200 : x'.2.2.2.2.2.1 = x.2.2.2.2.2.1) (h208 : x'.2.2.2.2.2.2.2.2.2.2.2.2.2.1 = x.2.2.2.2.2.2.2.2.2.2.2.2.2.1) (h209 : x'.2.2.2.2.2.2.2.2.2.2.2.2.2.2.1 = x.2.2.2.2.2.2.2.2.2.2.2.2.2.2.1) : gW n m p q e g u x' := by
  have T := W.T
  refine ⟨⟨T.hn, T.un, (h188 1 (by omega)).trans T.xn, by rw [hR]; exact T.ob, T.hm, T.um, (h188 15 (by omega)).trans T.xm, by rw [h200]; exact T.bs, T.b8, T.hp, T.up, (h188 10 (by omega)).trans T.xp, by rw [h197]; exact T.pa, T.pb, T.hq, T.uq, (h188 12 (by omega)).trans T.xq, by rw [h198, h199]; exact T.ho, T.fo.trans (h188 17 (by omega)).symm⟩, (h188 26 (by omega)).trans W.oc, W.o2, W.he, W.hg, W.dE, fun c => (h188 27 (by omega)).trans (W.xe c), by rw [h208]; exact W.dr, W.ug, fun c => (h188 29 (by omega)).trans (W.xg c), by rw [h209]; exact W.pl⟩
/-- one value at pile D is written: B turns of the loop are enough -/
def gIH (n m p q D B : Nat) (F : gWf) : Prop := ∀ (u : gU) (x : gX) (e g : Nat) (k v : Int32), gW n m p q e g u x → u.2.2.2.2.2.2.2.2.1 4 = 0 → g < e → x.2.1 18 = Int32.ofNat D → (∃ j, j < 8 ∧ k = Int32.ofNat j ∧ (j = 6 → ∃ b, b < n ∧ v = Int32.ofNat b)) → ∃ u' x1 x', (∀ y o z, F (some 169) (some 1) (some 165) k v (Int32.ofNat (D + 1)) (gH u y o z) = some (gH u' y o z)) ∧ (∀ y o z, mM_sayValue (some 188) k v (gH y x o z) = some (gH y x1 o z)) ∧ gRun B x1 x' ∧ gEnd n m p q D e g u x u' x' ∧ (u'.2.2.2.2.2.2.2.2.1 4 = 0 → x'.2.1 18 = Int32.ofNat D)
def gDead (F : gWf) : Prop := ∀ (u : gU) (y : gX) (o : Nat → Int64) (z : gx_H) (k v d : Int32), ¬ u.2.2.2.2.2.2.2.2.1 4 = 0 → F (some 169) (some 1) (some 165) k v d (gH u y o z) = some (gH u y o z)
theorem k_wbDead {u : gU} {y : gX} {o : Nat → Int64} {z : gx_H} {b : Int32} (h : ¬ u.2.2.2.2.2.2.2.2.1 4 = 0) : cW_writeByte (some 169) b (gH u y o z) = some (gH u y o z) := by
  simp only [cW_writeByte, hi_169_4, Option.bind_some, if_neg h]
/-- the top of the pile is done, and it is no record and no view -/
theorem r_nextEnd {D k w s : Nat} {x : gX} (hD : D < 14) (hk : k < 32) (h18 : x.2.1 18 = Int32.ofNat (D + 1)) (h1 : x.2.2.2.2.2.2.1 D = Int32.ofNat k) (h2 : x.2.2.2.2.2.2.2.1 D = Int32.ofNat w) (h3 : x.2.2.2.2.2.2.2.2.1 D = Int32.ofNat w) (ht : (x.1 k).2.2.2.2.1 = Int32.ofNat s) (h8 : s < 8) (s0 : ¬ s = 0) (s5 : ¬ s = 5) : ∀ y o z, mM_sayNext (some 188) (gH y x o z) = some (gH y ((x.1, gup x.2.1 18 (Int32.ofNat D), x.2.2.1, x.2.2.2.1, x.2.2.2.2.1, x.2.2.2.2.2.1, x.2.2.2.2.2.2.1, x.2.2.2.2.2.2.2.1, x.2.2.2.2.2.2.2.2.1, x.2.2.2.2.2.2.2.2.2.1, x.2.2.2.2.2.2.2.2.2.2.1, x.2.2.2.2.2.2.2.2.2.2.2.1, x.2.2.2.2.2.2.2.2.2.2.2.2.1, x.2.2.2.2.2.2.2.2.2.2.2.2.2.1, x.2.2.2.2.2.2.2.2.2.2.2.2.2.2.1, x.2.2.2.2.2.2.2.2.2.2.2.2.2.2.2) : gX) o z) := by
  intro y o z
  obtain ⟨_, _, _, e0, _, _, _, _, e5⟩ := n_s6 s h8
  simp only [mM_sayNext, hi_188_18, Option.bind_some, h18, n_pred, hr_188_19, ha_201 hD, h1, hr_188_20, ha_202 hD, h2, hr_188_2, ha_189 hk, ht, hr_188_21, ha_203 hD, h3, if_true, e0, if_neg s0, e5, if_neg s5, hp_188_18]
section H
variable {n m p q : Nat} {F : gWf}
theorem k_listDead {k c : Nat} {d : Int32} {u : gU} {y : gX} {o : Nat → Int64} {z : gx_H} (hk : k < 32) (dead : gDead F) (h0 : ¬ u.2.2.2.2.2.2.2.2.1 4 = 0) (hc : c ≤ 8) (h5 : (u.1 k).2.2.2.2.1 5 = Int32.ofNat c) : ∀ (r i f : Nat), i + r = c → cW_writeList_11 F (f + r + 1) (some 169) (some 1) (some 165) (some (3 + 5 * k)) d (Int32.ofNat i) (gH u y o z) = some (gH u y o z) := by
  intro r
  induction r with
  | zero =>
    intro i f h
    rw [cW_writeList_11, hiT_5 hk, Option.bind_some, h5, if_neg (n_nltl (by omega) (by omega) (by omega))]
  | succ r ih =>
    intro i f h
    have i8 : i < 8 := by omega
    rw [show f + (r + 1) + 1 = (f + r + 1) + 1 by omega, cW_writeList_11, hiT_5 hk, Option.bind_some, h5, if_pos (n_ltl (by omega) (by omega) (by omega))]
    simp only [hrT_2 hk, hrT_3 hk, Option.bind_some, haT_3 hk i8, haT_4 hk i8, ho_169, k_wbDead h0, cW_writeList_68, n_succ, dead u y o z _ _ _ h0, ih (i + 1) f (by omega)]
    split <;> rfl
theorem gV_val {n s : Nat} {k v : Int32} (h : gV n s k v) (h1 : ¬ k = -1) (h8 : ¬ s = 0) : ∃ j, j < 8 ∧ k = Int32.ofNat j ∧ (j = 6 → ∃ b, b < n ∧ v = Int32.ofNat b) := by
  rcases h with h | h | h
  · exact absurd h.1 h1
  · exact absurd h.2 h8
  · exact h
theorem w_listL {D k c B : Nat} (hD : D + 1 ≤ 12) (hkn : k < n) (hn : n ≤ 32) (ih : gIH n m p q (D + 1) B F) (dead : gDead F) (hc : c ≤ 8) : ∀ (r i f : Nat) (u : gU) (x : gX) (e g : Nat), i + r = c → gW n m p q e g u x → (u.2.2.2.2.2.2.2.2.1 4 = 0 → g < e ∧ x.2.1 18 = Int32.ofNat (D + 1) ∧ x.2.2.2.2.2.2.1 D = Int32.ofNat k ∧ x.2.2.2.2.2.2.2.1 D = Int32.ofNat i ∧ x.2.2.2.2.2.2.2.2.1 D = Int32.ofNat c) → (u.1 k).2.2.2.2.1 4 = 1 → (u.1 k).2.2.2.2.1 5 = Int32.ofNat c → ∃ u' x', (∀ y o z, cW_writeList_11 F (f + r + 1) (some 169) (some 1) (some 165) (some (3 + 5 * k)) (Int32.ofNat (D + 1)) (Int32.ofNat i) (gH u y o z) = some (gH u' y o z)) ∧ gRun (r * (B + 1) + 1) x x' ∧ gEnd n m p q D e g u x u' x' ∧ (u'.2.2.2.2.2.2.2.2.1 4 = 0 → x'.2.1 18 = Int32.ofNat D) := by
  have hk : k < 32 := by omega
  have hD14 : D < 14 := by omega
  intro r
  induction r with
  | zero =>
    intro i f u x e g h W st s1 h5
    obtain rfl : i = c := by omega
    by_cases h0 : u.2.2.2.2.2.2.2.2.1 4 = 0
    · obtain ⟨g1, g2, g3, g4, g5⟩ := st h0
      obtain ⟨s, c', O⟩ := W.T.ob k hkn
      have es : s = 1 := by
        have := O.es.symm.trans s1
        exact (n_eq (m := 1) (by have := O.s8; omega) (by omega)).mp this
      subst es
      refine ⟨u, ((x.1, gup x.2.1 18 (Int32.ofNat D), x.2.2.1, x.2.2.2.1, x.2.2.2.2.1, x.2.2.2.2.2.1, x.2.2.2.2.2.2.1, x.2.2.2.2.2.2.2.1, x.2.2.2.2.2.2.2.2.1, x.2.2.2.2.2.2.2.2.2.1, x.2.2.2.2.2.2.2.2.2.2.1, x.2.2.2.2.2.2.2.2.2.2.2.1, x.2.2.2.2.2.2.2.2.2.2.2.2.1, x.2.2.2.2.2.2.2.2.2.2.2.2.2.1, x.2.2.2.2.2.2.2.2.2.2.2.2.2.2.1, x.2.2.2.2.2.2.2.2.2.2.2.2.2.2.2) : gX), fun y o z => ?_, gRun_mono (gRun_step (W.oc.trans h0) g2 hD14 (r_nextEnd hD14 hk g2 g3 g4 g5 O.et (by omega) (by omega) (by omega))) (by omega), ⟨e, g, gW_x W rfl (fun i h => gup_ne h) rfl rfl rfl rfl rfl rfl, fun _ => ⟨h0, Nat.le_refl _, Nat.le_refl _⟩, ⟨fun _ _ => rfl, fun _ => rfl, fun _ _ => rfl, fun _ _ => ⟨rfl, rfl, rfl⟩, fun _ _ => rfl, rfl⟩⟩, fun _ => rfl⟩
      rw [cW_writeList_11, hiT_5 hk, Option.bind_some, h5, if_neg (n_nltl (by omega) (by omega) (by omega))]
    · exact ⟨u, x, fun y o z => k_listDead hk dead h0 hc h5 0 i f (by omega), gRun_mono gRun_refl (by omega), ⟨e, g, W, fun q => absurd q h0, gFr_refl⟩, fun q => absurd q h0⟩
  | succ r IH =>
    intro i f u x e g h W st s1 h5
    by_cases h0 : u.2.2.2.2.2.2.2.2.1 4 = 0
    · obtain ⟨g1, g2, g3, g4, g5⟩ := st h0
      obtain ⟨s, c', O⟩ := W.T.ob k hkn
      have es : s = 1 := by
        have := O.es.symm.trans s1
        exact (n_eq (m := 1) (by have := O.s8; omega) (by omega)).mp this
      subst es
      have ec : c' = c := by
        have := O.ec.symm.trans h5
        have h8 := gcap8 O.c8
        exact (n_eq (by omega) (by omega)).mp this
      subst ec
      have i8 : i < 8 := by omega
      have hi : i < c' := by omega
      obtain ⟨v1, v2⟩ := O.vs (by omega) i hi
      have vv := O.vv (by omega) i hi
      have ne : ¬ Int32.ofNat i = Int32.ofNat c' := fun q => by have := (n_eq (by omega) (by omega)).mp q; omega
      have W27 : gW n m p q e g u ((x.1, x.2.1, x.2.2.1, x.2.2.2.1, x.2.2.2.2.1, x.2.2.2.2.2.1, x.2.2.2.2.2.2.1, gup x.2.2.2.2.2.2.2.1 D (Int32.ofNat (i + 1)), x.2.2.2.2.2.2.2.2.1, x.2.2.2.2.2.2.2.2.2.1, x.2.2.2.2.2.2.2.2.2.2.1, x.2.2.2.2.2.2.2.2.2.2.2.1, x.2.2.2.2.2.2.2.2.2.2.2.2.1, x.2.2.2.2.2.2.2.2.2.2.2.2.2.1, x.2.2.2.2.2.2.2.2.2.2.2.2.2.2.1, x.2.2.2.2.2.2.2.2.2.2.2.2.2.2.2) : gX) := gW_x W rfl (fun _ _ => rfl) rfl rfl rfl rfl rfl rfl
      have F27 : gFr D u u x ((x.1, x.2.1, x.2.2.1, x.2.2.2.1, x.2.2.2.2.1, x.2.2.2.2.2.1, x.2.2.2.2.2.2.1, gup x.2.2.2.2.2.2.2.1 D (Int32.ofNat (i + 1)), x.2.2.2.2.2.2.2.2.1, x.2.2.2.2.2.2.2.2.2.1, x.2.2.2.2.2.2.2.2.2.2.1, x.2.2.2.2.2.2.2.2.2.2.2.1, x.2.2.2.2.2.2.2.2.2.2.2.2.1, x.2.2.2.2.2.2.2.2.2.2.2.2.2.1, x.2.2.2.2.2.2.2.2.2.2.2.2.2.2.1, x.2.2.2.2.2.2.2.2.2.2.2.2.2.2.2) : gX) := ⟨fun _ _ => rfl, fun _ => rfl, fun _ _ => rfl, fun j hj => ⟨rfl, gup_ne (by omega), rfl⟩, fun _ _ => rfl, rfl⟩
      have top : ∀ y o z, mM_sayNext (some 188) (gH y x o z) = (if (u.1 k).2.2.1 i = -1 then mM_sayNext_257 (some 188) (Int32.ofNat k) (Int32.ofNat i) (some 188) 0 (gH y ((x.1, x.2.1, x.2.2.1, x.2.2.2.1, x.2.2.2.2.1, x.2.2.2.2.2.1, x.2.2.2.2.2.2.1, gup x.2.2.2.2.2.2.2.1 D (Int32.ofNat (i + 1)), x.2.2.2.2.2.2.2.2.1, x.2.2.2.2.2.2.2.2.2.1, x.2.2.2.2.2.2.2.2.2.2.1, x.2.2.2.2.2.2.2.2.2.2.2.1, x.2.2.2.2.2.2.2.2.2.2.2.2.1, x.2.2.2.2.2.2.2.2.2.2.2.2.2.1, x.2.2.2.2.2.2.2.2.2.2.2.2.2.2.1, x.2.2.2.2.2.2.2.2.2.2.2.2.2.2.2) : gX) o z) else mM_sayNext_257 (some 188) (Int32.ofNat k) (Int32.ofNat i) (some 188) 1 (gH y ((x.1, x.2.1, x.2.2.1, x.2.2.2.1, x.2.2.2.2.1, x.2.2.2.2.2.1, x.2.2.2.2.2.2.1, gup x.2.2.2.2.2.2.2.1 D (Int32.ofNat (i + 1)), x.2.2.2.2.2.2.2.2.1, x.2.2.2.2.2.2.2.2.2.1, x.2.2.2.2.2.2.2.2.2.2.1, x.2.2.2.2.2.2.2.2.2.2.2.1, x.2.2.2.2.2.2.2.2.2.2.2.2.1, x.2.2.2.2.2.2.2.2.2.2.2.2.2.1, x.2.2.2.2.2.2.2.2.2.2.2.2.2.2.1, x.2.2.2.2.2.2.2.2.2.2.2.2.2.2.2) : gX) o z)) := by
        intro y o z
        simp only [mM_sayNext, hi_188_18, Option.bind_some, g2, n_pred, hr_188_19, ha_201 hD14, g3, hr_188_20, ha_202 hD14, g4, hr_188_2, ha_189 hk, O.et, hr_188_21, ha_203 hD14, g5, if_neg ne, hb_202 hD14, n_succ, show ¬ Int32.ofNat 1 = (0 : Int32) by decide, show ¬ Int32.ofNat 1 = (5 : Int32) by decide, show ¬ Int32.ofNat 1 = (2 : Int32) by decide, show ¬ Int32.ofNat 1 = (3 : Int32) by decide, if_false, hr_188_8, n_8, ha_195 hk i8, v1]
      by_cases hole : (u.1 k).2.2.1 i = -1
      · obtain ⟨u1, x1, e1, a1, a2, a3, a4, a5⟩ := w_byte (b := 0) W27 ⟨0, by omega, rfl⟩
        have nx : ∀ y o z, mM_sayNext (some 188) (gH y x o z) = some (gH y x1 o z) := by
          intro y o z
          have hR : (x1.1 k).2.2.1 i = -1 := by rw [a5.bR]; exact v1.trans hole
          rw [top, if_pos hole]
          simp only [mM_sayNext_257, ho_188, Option.bind_some, a2, hr_188_8, n_8, ha_195 hk i8, hR, if_true]
        obtain ⟨u', x', b1, b2, b3, b4⟩ := IH (i + 1) f u1 x1 e1 g (by omega) a3 (fun q => by
          have e1e := a4 q
          refine ⟨by omega, (a5.b188 18 (by omega) (by omega)).trans g2, by rw [a5.b201]; exact g3, by rw [a5.b202]; exact gup_eq, by rw [a5.b203]; exact g5⟩) (by rw [a5.bC]; exact s1) (by rw [a5.bC]; exact h5)
        refine ⟨u', x', fun y o z => ?_, gRun_mono (gRun_trans (gRun_step (W.oc.trans h0) g2 hD14 nx) b2) (by rw [Nat.succ_mul]; omega), gEnd_trans (fun q => ⟨h0, by have := a4 q; omega, by have := a4 q; omega⟩) (gFr_trans F27 (gFr_by (D := D) a5) (Nat.le_refl _)) b3 (Nat.le_refl _), b4⟩
        rw [show f + (r + 1) + 1 = (f + r + 1) + 1 by omega, cW_writeList_11, hiT_5 hk, Option.bind_some, h5, if_pos (n_ltl (by omega) (by omega) (by omega))]
        simp only [hrT_2 hk, Option.bind_some, haT_3 hk i8, hole, if_true, ho_169, a1, cW_writeList_68, n_succ, b1]
      · obtain ⟨u1, x1, e1, a1, a2, a3, a4, a5⟩ := w_byte (b := 1) W27 ⟨1, by omega, rfl⟩
        have hR1 : ¬ (x1.1 k).2.2.1 i = -1 := by rw [a5.bR, v1]; exact hole
        have cl : ∀ y o z, cW_writeList_11 F (f + (r + 1) + 1) (some 169) (some 1) (some 165) (some (3 + 5 * k)) (Int32.ofNat (D + 1)) (Int32.ofNat i) (gH u y o z) = (F (some 169) (some 1) (some 165) ((u.1 k).2.2.1 i) ((u.1 k).2.2.2.1 i) (Int32.ofNat (D + 1 + 1)) (gH u1 y o z)).bind fun h18 => cW_writeList_11 F (f + r + 1) (some 169) (some 1) (some 165) (some (3 + 5 * k)) (Int32.ofNat (D + 1)) (Int32.ofNat (i + 1)) h18 := by
          intro y o z
          rw [show f + (r + 1) + 1 = (f + r + 1) + 1 by omega, cW_writeList_11, hiT_5 hk, Option.bind_some, h5, if_pos (n_ltl (by omega) (by omega) (by omega))]
          simp only [hrT_2 hk, hrT_3 hk, Option.bind_some, haT_3 hk i8, haT_4 hk i8, if_neg hole, ho_169, a1, a5.bC, cW_writeList_68, n_succ]
        by_cases h1 : u1.2.2.2.2.2.2.2.2.1 4 = 0
        · have e1e := a4 h1
          obtain ⟨u2, x2, x3, k1, k2, k3, k4, k5⟩ := ih u1 x1 e1 g ((u.1 k).2.2.1 i) ((u.1 k).2.2.2.1 i) a3 h1 (by omega) ((a5.b188 18 (by omega) (by omega)).trans g2) (gV_val vv hole (by omega))
          have nx : ∀ y o z, mM_sayNext (some 188) (gH y x o z) = some (gH y x2 o z) := by
            intro y o z
            have v1' : (x1.1 k).2.2.1 i = (u.1 k).2.2.1 i := by rw [a5.bR]; exact v1
            have v2' : (x1.1 k).2.2.2.1 i = (u.1 k).2.2.2.1 i := by rw [a5.bR]; exact v2
            rw [top, if_neg hole]
            simp only [mM_sayNext_257, ho_188, Option.bind_some, a2, hr_188_8, n_8, ha_195 hk i8, if_neg hR1, if_neg hole, hi_188_26, a3.oc.trans h1, if_true, hr_188_9, ha_196 hk i8, v1', v2', k2]
          obtain ⟨e3, g3', l1, l2, l3⟩ := k4
          obtain ⟨u', x', b1, b2, b3, b4⟩ := IH (i + 1) f u2 x3 e3 g3' (by omega) l1 (fun q => by
            obtain ⟨m1, m2, m3⟩ := l2 q
            obtain ⟨p1, p2, p3⟩ := l3.pi D (by omega)
            refine ⟨by omega, k5 q, p1.trans (by rw [a5.b201]; exact g3), p2.trans (by rw [a5.b202]; exact gup_eq), p3.trans (by rw [a5.b203]; exact g5)⟩) ((l3.so k).trans (by rw [a5.bC]; exact s1)) ((l3.fct k (by rw [a5.bC, s1]; decide)).trans (by rw [a5.bC]; exact h5))
          refine ⟨u', x', fun y o z => ?_, gRun_mono (gRun_trans (gRun_trans (gRun_step (W.oc.trans h0) g2 hD14 nx) k3) b2) (by rw [Nat.succ_mul]; omega), gEnd_trans (fun q => ⟨h0, by have := l2 q; omega, by have := l2 q; omega⟩) (gFr_trans (gFr_trans F27 (gFr_by (D := D) a5) (Nat.le_refl _)) l3 (by omega)) b3 (Nat.le_refl _), b4⟩
          rw [cl, k1, Option.bind_some, b1]
        · have nx : ∀ y o z, mM_sayNext (some 188) (gH y x o z) = some (gH y x1 o z) := by
            intro y o z
            rw [top, if_neg hole]
            simp only [mM_sayNext_257, ho_188, Option.bind_some, a2, hr_188_8, n_8, ha_195 hk i8, if_neg hR1, hi_188_26, if_neg (fun q => h1 (a3.oc.symm.trans q))]
          refine ⟨u1, x1, fun y o z => ?_, gRun_mono (gRun_step (W.oc.trans h0) g2 hD14 nx) (by rw [Nat.succ_mul]; omega), ⟨e1, g, a3, fun q => absurd q h1, gFr_trans F27 (gFr_by (D := D) a5) (Nat.le_refl _)⟩, fun q => absurd q h1⟩
          rw [cl, dead u1 y o z _ _ _ h1, Option.bind_some, k_listDead hk dead h1 hc (by rw [a5.bC]; exact h5) r (i + 1) f (by omega)]
    · exact ⟨u, x, fun y o z => k_listDead hk dead h0 hc h5 (r + 1) i f (by omega), gRun_mono gRun_refl (by omega), ⟨e, g, W, fun q => absurd q h0, gFr_refl⟩, fun q => absurd q h0⟩
end H
