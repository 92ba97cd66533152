/-! view and get -/
theorem n_81 {k : Nat} : (8 : Int32) * Int32.ofNat k + 1 = Int32.ofNat (8 * k + 1) := n_8 (i := 1)
theorem n_82 {k : Nat} : (8 : Int32) * Int32.ofNat k + 2 = Int32.ofNat (8 * k + 2) := n_8 (i := 2)
theorem n_83 {k : Nat} : (8 : Int32) * Int32.ofNat k + 3 = Int32.ofNat (8 * k + 3) := n_8 (i := 3)
theorem n_8a1 {k : Nat} : Int32.ofNat (8 * k + 0) + 1 = Int32.ofNat (8 * k + 1) := n_add (a := 8 * k + 0) (b := 1)
theorem n_8a2 {k : Nat} : Int32.ofNat (8 * k + 0) + 2 = Int32.ofNat (8 * k + 2) := n_add (a := 8 * k + 0) (b := 2)
theorem n_8a3 {k : Nat} : Int32.ofNat (8 * k + 0) + 3 = Int32.ofNat (8 * k + 3) := n_add (a := 8 * k + 0) (b := 3)
theorem cv_key {fr co un : Int32} {c : Nat} {U : Int} (hU : un.toInt = U) (hUU : U = 1 ∨ U = 2 ∨ U = 4) (hc : c ≤ 8) (f0 : ¬ fr < 0) (g0 : ¬ co < 0) : (Int32.toInt64 (Int32.ofNat c) < Int32.toInt64 fr + Int32.toInt64 un * Int32.toInt64 co) ↔ (Int32.ofNat c < fr ∨ Int32.ofNat c < co ∨ Int32.ofNat c < fr + un * co) := by
  have f1 := n_nn0.mp f0
  have g1 := n_nn0.mp g0
  have f2 := Int32.toInt_lt fr
  have g2 := Int32.toInt_lt co
  rw [Int64.lt_iff_toInt_lt, Int32.lt_iff_toInt_lt, Int32.lt_iff_toInt_lt, Int32.lt_iff_toInt_lt, Int64.toInt_add, Int64.toInt_mul, Int32.toInt_add, Int32.toInt_mul, Int32.toInt_toInt64, Int32.toInt_toInt64, Int32.toInt_toInt64, Int32.toInt_toInt64, Int32.toInt_ofNat_of_lt (by omega), hU]
  clear hU f0 g0
  generalize fr.toInt = F at *
  generalize co.toInt = G at *
  have b1 : (U * G).bmod (2 ^ 64) = U * G := by
    rcases hUU with rfl | rfl | rfl <;> exact Int.bmod_eq_of_le_mul_two (by omega) (by omega)
  have b2 : (F + U * G).bmod (2 ^ 64) = F + U * G := by
    rcases hUU with rfl | rfl | rfl <;> exact Int.bmod_eq_of_le_mul_two (by omega) (by omega)
  rw [b1, b2]
  by_cases a1 : F ≤ c
  · by_cases a2 : G ≤ c
    · have b3 : (U * G).bmod (2 ^ 32) = U * G := by
        rcases hUU with rfl | rfl | rfl <;> exact Int.bmod_eq_of_le_mul_two (by omega) (by omega)
      have b4 : (F + U * G).bmod (2 ^ 32) = F + U * G := by
        rcases hUU with rfl | rfl | rfl <;> exact Int.bmod_eq_of_le_mul_two (by omega) (by omega)
      rw [b3, b4]
      omega
    · constructor
      · intro _; omega
      · intro _; rcases hUU with rfl | rfl | rfl <;> omega
  · constructor
    · intro _; omega
    · intro _; rcases hUU with rfl | rfl | rfl <;> omega
/-- may it be viewed, as the class asks -/
def gcv (un fr co ct : Int32) : Option Int32 := if fr < 0 then some 0 else if un = 0 then none else if (fr - fr / un * un) = 0 then (if co < 0 then some 0 else if (Int32.toInt64 ct) < ((Int32.toInt64 fr) + ((Int32.toInt64 un) * (Int32.toInt64 co))) then some 0 else some 1) else some 0
theorem cv_eq {un fr co : Int32} {c : Nat} (hun : un = 1 ∨ un = 2 ∨ un = 4) (hc : c ≤ 8) : ∃ r, (r = 0 ∨ r = 1) ∧ gcv un fr co (Int32.ofNat c) = some r ∧ mM_lies un fr co (Int32.ofNat c) = some r ∧ (r = 1 → ∃ a b, a ≤ 8 ∧ b ≤ 8 ∧ fr = Int32.ofNat a ∧ co = Int32.ofNat b) := by
  have hu : mM_isUnit un = some 1 := by rcases hun with rfl | rfl | rfl <;> rfl
  have h0 : ¬ un = 0 := by rcases hun with rfl | rfl | rfl <;> decide
  have hU : ∃ U, un.toInt = U ∧ (U = 1 ∨ U = 2 ∨ U = 4) := by
    rcases hun with rfl | rfl | rfl
    · exact ⟨1, rfl, Or.inl rfl⟩
    · exact ⟨2, rfl, Or.inr (Or.inl rfl)⟩
    · exact ⟨4, rfl, Or.inr (Or.inr rfl)⟩
  obtain ⟨U, hU1, hU2⟩ := hU
  have h1 : ¬ (1 : Int32) = 0 := by decide
  unfold gcv mM_lies
  rw [hu, Option.bind_some, if_neg h1]
  by_cases f0 : fr < 0
  · exact ⟨0, Or.inl rfl, by rw [if_pos f0], by rw [if_pos f0], fun q => absurd q (by decide)⟩
  rw [if_neg f0, if_neg f0, if_neg h0]
  by_cases rm : (fr - fr / un * un) = 0
  · by_cases g0 : co < 0
    · refine ⟨0, Or.inl rfl, by rw [if_pos rm, if_pos g0], ?_, fun q => absurd q (by decide)⟩
      by_cases b1 : Int32.ofNat c < fr
      · rw [if_pos b1]
      · rw [if_neg b1, if_neg h0, if_pos rm, if_pos g0]
    · have key := cv_key hU1 hU2 hc f0 g0
      rw [if_pos rm, if_neg g0]
      by_cases big : Int32.toInt64 (Int32.ofNat c) < Int32.toInt64 fr + Int32.toInt64 un * Int32.toInt64 co
      · refine ⟨0, Or.inl rfl, by rw [if_pos big], ?_, fun q => absurd q (by decide)⟩
        have k2 := key.mp big
        by_cases b1 : Int32.ofNat c < fr
        · rw [if_pos b1]
        · rw [if_neg b1, if_neg h0, if_pos rm, if_neg g0]
          by_cases b2 : Int32.ofNat c < co
          · rw [if_pos b2]
          · rw [if_neg b2]
            rcases k2 with k | k | k
            · exact absurd k b1
            · exact absurd k b2
            · rw [if_pos k]
      · have b1 : ¬ Int32.ofNat c < fr := fun q => big (key.mpr (Or.inl q))
        have b2 : ¬ Int32.ofNat c < co := fun q => big (key.mpr (Or.inr (Or.inl q)))
        have b3 : ¬ Int32.ofNat c < fr + un * co := fun q => big (key.mpr (Or.inr (Or.inr q)))
        refine ⟨1, Or.inr rfl, by rw [if_neg big], by rw [if_neg b1, if_neg h0, if_pos rm, if_neg g0, if_neg b2, if_neg b3], fun _ => ?_⟩
        obtain ⟨a, a1, a2⟩ := n_le f0 b1 (by omega)
        obtain ⟨b, b1, b2⟩ := n_le g0 b2 (by omega)
        exact ⟨a, b, by omega, by omega, a2, b2⟩
  · refine ⟨0, Or.inl rfl, by rw [if_neg rm], ?_, fun q => absurd q (by decide)⟩
    by_cases b1 : Int32.ofNat c < fr
    · rw [if_pos b1]
    · rw [if_neg b1, if_neg h0, if_neg rm]
section H
variable {u : gU} {x : gX} {o : Nat → Int64} {z : gx_H}
/-- both sides agree whether a view lies in an object -/
theorem cv_ob {n k s c : Nat} {un fr co : Int32} (hk : k < 32) (O : gO n s c (u.1 k) (x.1 k)) : ∃ r, (r = 0 ∨ r = 1) ∧ cT_canBeViewed (some (3 + 5 * k)) un fr co (gH u x o z) = some r ∧ (r = 1 → s = 4 ∧ (u.1 k).2.2.2.2.1 6 = 0 ∧ (un = 1 ∨ un = 2 ∨ un = 4) ∧ ∃ a b, a ≤ 8 ∧ b ≤ 8 ∧ fr = Int32.ofNat a ∧ co = Int32.ofNat b) ∧ (s = 4 → (u.1 k).2.2.2.2.1 6 = 0 → mM_lies un fr co (x.1 k).2.2.2.2.2.1 = some r) ∧ (¬ (s = 4 ∧ (u.1 k).2.2.2.2.1 6 = 0) → r = 0) := by
  obtain ⟨_, _, _, _, _, _, _, e4, _⟩ := n_s6 s O.s8
  have e34 : cT_canBeViewed_34 (some (3 + 5 * k)) un fr co (gH u x o z) = gcv un fr co ((u.1 k).2.2.2.2.1 5) := by
    unfold cT_canBeViewed_34 gcv
    simp only [hiT_5 hk, Option.bind_some]
  by_cases c1 : s = 4
  · by_cases c2 : (u.1 k).2.2.2.2.1 6 = 0
    · by_cases hun : un = 1 ∨ un = 2 ∨ un = 4
      · obtain ⟨r, r1, r2, r3, r4⟩ := cv_eq (fr := fr) (co := co) (c := c) hun (by have := O.c8; rw [c1] at this; exact this)
        refine ⟨r, r1, ?_, fun h => ⟨c1, c2, hun, r4 h⟩, fun _ _ => by rw [O.ep c2]; exact r3, fun h => absurd ⟨c1, c2⟩ h⟩
        unfold cT_canBeViewed
        simp only [hiT_4 hk, hiT_6 hk, Option.bind_some, O.es, e4, c1, c2, if_true, e34, O.ec, r2]
        rcases hun with rfl | rfl | rfl <;> rfl
      · have h1 : ¬ un = 1 := fun q => hun (Or.inl q)
        have h2 : ¬ un = 2 := fun q => hun (Or.inr (Or.inl q))
        have h4 : ¬ un = 4 := fun q => hun (Or.inr (Or.inr q))
        refine ⟨0, Or.inl rfl, ?_, fun h => absurd h (by decide), fun _ _ => ?_, fun _ => rfl⟩
        · unfold cT_canBeViewed
          simp only [hiT_4 hk, hiT_6 hk, Option.bind_some, O.es, e4, c1, c2, if_true, if_neg h1, if_neg h2, if_neg h4] <;> rfl
        · unfold mM_lies mM_isUnit
          simp only [if_neg h1, if_neg h2, if_neg h4, Option.bind_some, if_true]
    · refine ⟨0, Or.inl rfl, ?_, fun h => absurd h (by decide), fun _ h => absurd h c2, fun _ => rfl⟩
      unfold cT_canBeViewed
      simp only [hiT_4 hk, hiT_6 hk, Option.bind_some, O.es, e4, c1, if_true, if_neg c2] <;> rfl
  · refine ⟨0, Or.inl rfl, ?_, fun h => absurd h (by decide), fun h => absurd h c1, fun _ => rfl⟩
    unfold cT_canBeViewed
    simp only [hiT_4 hk, Option.bind_some, O.es, e4, if_neg c1]
theorem r_view0 {b un fr co : Int32} : mM_view_38 (some 188) b un fr co (gH u x o z) = some (0, gH u ((x.1, gup x.2.1 0 1, x.2.2.1, x.2.2.2.1, x.2.2.2.2.1, x.2.2.2.2.2.1, x.2.2.2.2.2.2.1, x.2.2.2.2.2.2.2.1, x.2.2.2.2.2.2.2.2.1, x.2.2.2.2.2.2.2.2.2.1, x.2.2.2.2.2.2.2.2.2.2.1, x.2.2.2.2.2.2.2.2.2.2.2.1, x.2.2.2.2.2.2.2.2.2.2.2.2.1, x.2.2.2.2.2.2.2.2.2.2.2.2.2.1, x.2.2.2.2.2.2.2.2.2.2.2.2.2.2.1, x.2.2.2.2.2.2.2.2.2.2.2.2.2.2.2) : gX) o z) := by
  simp only [mM_view_38, mM_view_39, if_true, mM_view_52, hi_188_1, Option.bind_some]
  by_cases c : x.2.1 1 = 32
  · simp only [if_pos c, mM_view_66, ho_188, Option.bind_some, r_ref] <;> rfl
  · simp only [if_neg c, mM_view_66, ho_188, Option.bind_some, r_ref] <;> rfl
theorem r_setView {k : Nat} {b un fr co : Int32} (hk : k < 32) : mM_setView (some 188) (Int32.ofNat k) b un fr co (gH u x o z) = some (gH u ((gup x.1 k (((x.1 k).1, (x.1 k).2.1, (x.1 k).2.2.1, gup (gup (gup (gup (x.1 k).2.2.2.1 0 b) 1 un) 2 fr) 3 co, (x.1 k).2.2.2.2.1, co, (x.1 k).2.2.2.2.2.2.1, (x.1 k).2.2.2.2.2.2.2) : gP), x.2.1, x.2.2.1, x.2.2.2.1, x.2.2.2.2.1, x.2.2.2.2.2.1, x.2.2.2.2.2.2.1, x.2.2.2.2.2.2.2.1, x.2.2.2.2.2.2.2.2.1, x.2.2.2.2.2.2.2.2.2.1, x.2.2.2.2.2.2.2.2.2.2.1, x.2.2.2.2.2.2.2.2.2.2.2.1, x.2.2.2.2.2.2.2.2.2.2.2.2.1, x.2.2.2.2.2.2.2.2.2.2.2.2.2.1, x.2.2.2.2.2.2.2.2.2.2.2.2.2.2.1, x.2.2.2.2.2.2.2.2.2.2.2.2.2.2.2) : gX) o z) := by
  simp only [mM_setView, hr_188_3, hr_188_9, Option.bind_some, hb_190 hk, n_8a1, n_8a2, n_8a3, show (8 : Int32) * Int32.ofNat k = Int32.ofNat (8 * k + 0) from n_80, hb_196 (i := 0) hk (by omega), hb_196 (i := 1) hk (by omega), hb_196 (i := 2) hk (by omega), hb_196 (i := 3) hk (by omega), gup_eq, gup_gup]
def gq_view (q : gQ) (b un fr co : Int32) : gQ := ((q.1, q.2.1, q.2.2.1, q.2.2.2.1, gup (gup (gup (gup q.2.2.2.2.1 7 b) 8 un) 9 fr) 5 co, q.2.2.2.2.2) : gQ)
def gp_view (p : gP) (b un fr co : Int32) : gP := ((p.1, p.2.1, p.2.2.1, gup (gup (gup (gup p.2.2.2.1 0 b) 1 un) 2 fr) 3 co, p.2.2.2.2.1, co, p.2.2.2.2.2.2.1, p.2.2.2.2.2.2.2) : gP)
theorem gO_view {n k a b : Nat} {q : gQ} {p : gP} {un : Int32} (hk : k < n) (ha : a ≤ 8) (hb : b ≤ 8) (hun : un = 1 ∨ un = 2 ∨ un = 4) : gO n 5 b (gq_view (gq_new q 5) (Int32.ofNat k) un (Int32.ofNat a) (Int32.ofNat b)) (gp_view (gp_new p 5) (Int32.ofNat k) un (Int32.ofNat a) (Int32.ofNat b)) :=
  ⟨by omega, rfl, rfl, rfl, hb, rfl, Or.inl rfl, fun _ => rfl, fun h => absurd rfl h, fun a => by omega, fun a => by omega, fun a => by omega, fun a => by omega, fun a => by omega, fun a => by omega, fun a => by omega, fun a => by omega, fun _ => ⟨rfl, rfl, rfl, rfl, ⟨k, hk, rfl⟩, (by
    rcases hun with rfl | rfl | rfl
    · exact ⟨1, by omega, rfl⟩
    · exact ⟨2, by omega, rfl⟩
    · exact ⟨4, by omega, rfl⟩), ⟨a, ha, rfl⟩⟩, fun a => by omega⟩
theorem k_lookAt {k : Nat} {b un fr co : Int32} (hk : k < 32) : cT_lookAt (some (3 + 5 * k)) b un fr co (gH u x o z) = some (gH ((gup u.1 k (gq_view (u.1 k) b un fr co), u.2.1, u.2.2.1, u.2.2.2.1, u.2.2.2.2.1, u.2.2.2.2.2.1, u.2.2.2.2.2.2.1, u.2.2.2.2.2.2.2.1, u.2.2.2.2.2.2.2.2.1, u.2.2.2.2.2.2.2.2.2.1, u.2.2.2.2.2.2.2.2.2.2.1, u.2.2.2.2.2.2.2.2.2.2.2.1, u.2.2.2.2.2.2.2.2.2.2.2.2.1, u.2.2.2.2.2.2.2.2.2.2.2.2.2.1, u.2.2.2.2.2.2.2.2.2.2.2.2.2.2) : gU) x o z) := by
  simp only [cT_lookAt, hpT_7 hk, hpT_8 hk, hpT_9 hk, hpT_5 hk, Option.bind_some, gup_eq, gup_gup] <;> rfl
theorem t_view {b un fr co : Int32} (h : gTT u x) : gAns u x o z (lw_view (some 0) b un fr co (some 211)) (mM_view (some 188) b un fr co) := by
  obtain ⟨n, m, p, q, T⟩ := h
  have hn := T.hn
  rcases g_ob b n (by omega) with c | ⟨k, hk, rfl⟩
  · refine ⟨1, u, o, z ++ [(8, [])], 0, ((x.1, gup x.2.1 0 1, x.2.2.1, x.2.2.2.1, x.2.2.2.2.1, x.2.2.2.2.2.1, x.2.2.2.2.2.2.1, x.2.2.2.2.2.2.2.1, x.2.2.2.2.2.2.2.2.1, x.2.2.2.2.2.2.2.2.2.1, x.2.2.2.2.2.2.2.2.2.2.1, x.2.2.2.2.2.2.2.2.2.2.2.1, x.2.2.2.2.2.2.2.2.2.2.2.2.1, x.2.2.2.2.2.2.2.2.2.2.2.2.2.1, x.2.2.2.2.2.2.2.2.2.2.2.2.2.2.1, x.2.2.2.2.2.2.2.2.2.2.2.2.2.2.2) : gX), ?_, ?_, rfl, fun q => absurd q (by decide), gTT_0 ⟨n, m, p, q, T⟩, by simp⟩
    · simp only [lw_view, ho_0, Option.bind_some, cG_view, hr_0_0, ho_1, k_tout T.un c, if_true, cG_view_27, hl, hthr, hexc] <;> rfl
    · simp only [mM_view, ho_188, Option.bind_some, r_isout T.xn c, if_true, r_view0]
  · obtain ⟨s, c, O⟩ := T.ob k hk
    have hk2 : k < 32 := by omega
    obtain ⟨_, _, _, _, _, _, _, e4, _⟩ := n_s6 s O.s8
    obtain ⟨r, r1, r2, r3, r4, r5⟩ := cv_ob (o := o) (z := z) (un := un) (fr := fr) (co := co) hk2 O
    have no : r = 0 → gAns u x o z (lw_view (some 0) (Int32.ofNat k) un fr co (some 211)) (mM_view (some 188) (Int32.ofNat k) un fr co) := by
      intro h0
      subst h0
      refine ⟨1, u, o, z ++ [(8, [])], 0, ((x.1, gup x.2.1 0 1, x.2.2.1, x.2.2.2.1, x.2.2.2.2.1, x.2.2.2.2.2.1, x.2.2.2.2.2.2.1, x.2.2.2.2.2.2.2.1, x.2.2.2.2.2.2.2.2.1, x.2.2.2.2.2.2.2.2.2.1, x.2.2.2.2.2.2.2.2.2.2.1, x.2.2.2.2.2.2.2.2.2.2.2.1, x.2.2.2.2.2.2.2.2.2.2.2.2.1, x.2.2.2.2.2.2.2.2.2.2.2.2.2.1, x.2.2.2.2.2.2.2.2.2.2.2.2.2.2.1, x.2.2.2.2.2.2.2.2.2.2.2.2.2.2.2) : gX), ?_, ?_, rfl, fun q => absurd q (by decide), gTT_0 ⟨n, m, p, q, T⟩, by simp⟩
      · simp only [lw_view, ho_0, Option.bind_some, cG_view, hr_0_0, ho_1, k_tin T.un hn hk, reduceCtorEq, if_false, ho_T hk2, r2, if_true, cG_view_27, hl, hthr, hexc] <;> rfl
      · simp only [mM_view, ho_188, Option.bind_some, r_isin T.xn hn hk, O.et, e4]
        by_cases c1 : s = 4
        · simp only [if_pos c1, hr_188_4, ha_191 hk2, Option.bind_some, O.ed]
          by_cases c2 : (u.1 k).2.2.2.2.1 6 = 0
          · simp only [if_pos c2, hr_188_3, ha_190 hk2, Option.bind_some, r4 c1 c2, if_true, r_view0] <;> rfl
          · simp only [if_neg c2, r_view0] <;> rfl
        · simp only [if_neg c1, if_true, r_view0]
    rcases r1 with h0 | h1
    · exact no h0
    · subst h1
      obtain ⟨c1, c2, hun, a, b, ha, hb, rfl, rfl⟩ := r3 rfl
      by_cases hn32 : n < 32
      · refine ⟨0, _, gup o 0 (Int32.toInt64 (Int32.ofNat n)), z, Int32.ofNat n, _, ?_, ?_, ?_, ?_, ⟨n + 1, m, p, q, gT_new T hn32 ⟨5, b, gO_view (q := u.1 n) (p := x.1 n) (k := k) (by omega) ha hb hun⟩⟩, by omega⟩
        · simp only [lw_view, ho_0, Option.bind_some, cG_view, hr_0_0, ho_1, k_tin T.un hn hk, reduceCtorEq, if_false, ho_T hk2, r2, k_bor T.un hn32, hr_1_0, hT hn32, ho_T hn32, k_lookAt hn32, gup_eq, gup_gup, hb0] <;> rfl
        · simp only [mM_view, ho_188, Option.bind_some, r_isin T.xn hn hk, O.et, e4, if_pos c1, hr_188_4, ha_191 hk2, O.ed, if_pos c2, hr_188_3, ha_190 hk2, r4 c1 c2]
          simp only [show ¬ (1 : Int32) = 0 by decide, if_false, mM_view_39, mM_view_52, hi_188_1, Option.bind_some, T.xn, if_neg (n_32 hn32), mM_view_66, ho_188, r_ref]
          simp only [true_and, and_self, if_true, r_fresh (x := ((x.1, gup x.2.1 0 0, x.2.2.1, x.2.2.2.1, x.2.2.2.2.1, x.2.2.2.2.2.1, x.2.2.2.2.2.2.1, x.2.2.2.2.2.2.2.1, x.2.2.2.2.2.2.2.2.1, x.2.2.2.2.2.2.2.2.2.1, x.2.2.2.2.2.2.2.2.2.2.1, x.2.2.2.2.2.2.2.2.2.2.2.1, x.2.2.2.2.2.2.2.2.2.2.2.2.1, x.2.2.2.2.2.2.2.2.2.2.2.2.2.1, x.2.2.2.2.2.2.2.2.2.2.2.2.2.2.1, x.2.2.2.2.2.2.2.2.2.2.2.2.2.2.2) : gX)) (n := n) T.xn hn32, Option.bind_some, ho_188, r_setView hn32, gup_eq, gup_gup] <;> rfl
        · rfl
        · intro _; rfl
      · obtain rfl : n = 32 := by omega
        refine ⟨2, u, o, z ++ [(9, [])], 0, ((x.1, gup x.2.1 0 2, x.2.2.1, x.2.2.2.1, x.2.2.2.2.1, x.2.2.2.2.2.1, x.2.2.2.2.2.2.1, x.2.2.2.2.2.2.2.1, x.2.2.2.2.2.2.2.2.1, x.2.2.2.2.2.2.2.2.2.1, x.2.2.2.2.2.2.2.2.2.2.1, x.2.2.2.2.2.2.2.2.2.2.2.1, x.2.2.2.2.2.2.2.2.2.2.2.2.1, x.2.2.2.2.2.2.2.2.2.2.2.2.2.1, x.2.2.2.2.2.2.2.2.2.2.2.2.2.2.1, x.2.2.2.2.2.2.2.2.2.2.2.2.2.2.2) : gX), ?_, ?_, rfl, fun q => absurd q (by decide), gTT_0 ⟨_, m, p, q, T⟩, by simp⟩
        · simp only [lw_view, ho_0, Option.bind_some, cG_view, hr_0_0, ho_1, k_tin T.un hn hk, reduceCtorEq, if_false, ho_T hk2, r2, show ¬ (1 : Int32) = 0 by decide, k_borF T.un, hexc] <;> rfl
        · simp only [mM_view, ho_188, Option.bind_some, r_isin T.xn hn hk, O.et, e4, if_pos c1, hr_188_4, ha_191 hk2, O.ed, if_pos c2, hr_188_3, ha_190 hk2, r4 c1 c2]
          simp only [show ¬ (1 : Int32) = 0 by decide, if_false, mM_view_39, mM_view_52, hi_188_1, Option.bind_some, T.xn, show Int32.ofNat 32 = 32 from rfl, if_true, mM_view_66, ho_188, r_ref] <;> rfl
def gAnsJ (u : gU) (x : gX) (o : Nat → Int64) (z : gx_H) (L : gx_H → Option (Int32 × gx_H)) (M : gx_H → Option (Int64 × gx_H)) : Prop := ∃ e u' o' z' r x', L (gH u x o z) = some (e, gH u' x o' z') ∧ M (gH u' x o' z') = some (r, gH u' x' o' z') ∧ x'.2.1 0 = e ∧ (e = 0 → o' 0 = r) ∧ gTT u' x' ∧ z'.length ≤ z.length + 1
theorem r_get1 {v1 v2 v3 s : Int32} : mM_get_141 (some 188) v1 v2 v3 s (some 188) 1 (gH u x o z) = some (0, gH u ((x.1, gup x.2.1 0 1, x.2.2.1, x.2.2.2.1, x.2.2.2.2.1, x.2.2.2.2.2.1, x.2.2.2.2.2.2.1, x.2.2.2.2.2.2.2.1, x.2.2.2.2.2.2.2.2.1, x.2.2.2.2.2.2.2.2.2.1, x.2.2.2.2.2.2.2.2.2.2.1, x.2.2.2.2.2.2.2.2.2.2.2.1, x.2.2.2.2.2.2.2.2.2.2.2.2.1, x.2.2.2.2.2.2.2.2.2.2.2.2.2.1, x.2.2.2.2.2.2.2.2.2.2.2.2.2.2.1, x.2.2.2.2.2.2.2.2.2.2.2.2.2.2.2) : gX) o z) := by
  simp only [mM_get_141, ho_188, Option.bind_some, r_ref] <;> rfl
theorem n_w4 : ∀ w : Nat, w < 4 → ((Int32.ofNat w < 3) ↔ w < 3) ∧ ((Int32.ofNat w = 0) ↔ w = 0) ∧ ((Int32.ofNat w = 1) ↔ w = 1) ∧ ((Int32.ofNat w = 2) ↔ w = 2) ∧ ¬ (3 : Int32) < Int32.ofNat w ∧ ¬ Int32.ofNat w < 0 ∧ Int32.ofNat w < 4 := by decide
def gG (s c w : Nat) (d v : Int32) : Prop := ¬ v < 0 ∧ (if s = 5 then v = 0 else if s = 6 then v = 0 ∧ w = 0 else d = 0 ∧ v < Int32.ofNat c ∧ (w < 3 ∨ s = 2))
theorem k_hasPart {n k s c w : Nat} {v : Int32} (hk : k < 32) (hw : w < 4) (O : gO n s c (u.1 k) (x.1 k)) : ∃ r, cT_hasPart (some (3 + 5 * k)) v (Int32.ofNat w) (gH u x o z) = some r ∧ (r = 0 ∨ r = 1) ∧ (r = 1 ↔ gG s c w ((u.1 k).2.2.2.2.1 6) v) := by
  obtain ⟨w3, w0, _, _, w4, w5, _⟩ := n_w4 w hw
  obtain ⟨_, e6, _, _, _, e2, _, _, e5⟩ := n_s6 s O.s8
  have d10 : ¬ (1 : Int32) = 0 := by decide
  have d01 : ¬ (0 : Int32) = 1 := by decide
  unfold cT_hasPart gG
  simp only [if_neg w4, if_neg w5, hiT_4 hk, hiT_5 hk, hiT_6 hk, Option.bind_some, O.es, O.ec, e5, e6, e2, w3, w0]
  by_cases c0 : v < 0
  · exact ⟨0, by rw [if_pos c0], Or.inl rfl, by simp [c0]⟩
  · rw [if_neg c0]
    by_cases c5 : s = 5
    · by_cases v0 : v = 0
      · exact ⟨1, by simp [c5, v0], Or.inr rfl, by simp [c5, v0]⟩
      · exact ⟨0, by simp [c5, v0], Or.inl rfl, by simp [c5, v0]⟩
    · by_cases c6 : s = 6
      · by_cases v0 : v = 0
        · by_cases w0 : w = 0
          · exact ⟨1, by simp [c6, v0, w0], Or.inr rfl, by simp [c6, v0, w0]⟩
          · exact ⟨0, by simp [c6, v0, w0], Or.inl rfl, by simp [c6, v0, w0]⟩
        · exact ⟨0, by simp [c6, v0], Or.inl rfl, by simp [c6, v0]⟩
      · by_cases d0 : (u.1 k).2.2.2.2.1 6 = 0
        · by_cases vc : v < Int32.ofNat c
          · by_cases w3 : w < 3
            · exact ⟨1, by simp [c5, c6, d0, vc, w3], Or.inr rfl, by simp [c0, c5, c6, d0, vc, w3]⟩
            · by_cases s2 : s = 2
              · exact ⟨1, by simp [d0, vc, w3, s2], Or.inr rfl, by simp [c0, d0, vc, s2]⟩
              · exact ⟨0, by simp [c5, c6, d0, vc, w3, s2], Or.inl rfl, by simp [c5, c6, vc, w3, s2]⟩
          · exact ⟨0, by simp [c5, c6, d0, vc], Or.inl rfl, by simp [c5, c6, vc]⟩
        · exact ⟨0, by simp [c5, c6, d0], Or.inl rfl, by simp [c5, c6, d0]⟩
end H
