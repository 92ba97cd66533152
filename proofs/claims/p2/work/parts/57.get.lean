section H
variable {u : gU} {x : gX} {o : Nat → Int64} {z : gx_H}
theorem r_get40 {n k s c w : Nat} {v : Int32} (hk : k < 32) (hw : w < 4) (O : gO n s c (u.1 k) (x.1 k)) : (gG s c w ((u.1 k).2.2.2.2.1 6) v → mM_get_40 (some 188) (Int32.ofNat k) v (Int32.ofNat w) 1 (Int32.ofNat s) (gH u x o z) = mM_get_141 (some 188) (Int32.ofNat k) v (Int32.ofNat w) (Int32.ofNat s) (some 188) 0 (gH u x o z)) ∧ (¬ gG s c w ((u.1 k).2.2.2.2.1 6) v → mM_get_40 (some 188) (Int32.ofNat k) v (Int32.ofNat w) 1 (Int32.ofNat s) (gH u x o z) = mM_get_141 (some 188) (Int32.ofNat k) v (Int32.ofNat w) (Int32.ofNat s) (some 188) 1 (gH u x o z)) := by
  obtain ⟨w3, w0, _, _, w4, w5, _⟩ := n_w4 w hw
  obtain ⟨_, e6, _, _, _, e2, _, _, e5⟩ := n_s6 s O.s8
  have d10 : ¬ (1 : Int32) = 0 := by decide
  have e5' : (Int32.ofNat s < 5) ↔ s < 5 := n_lt (m := 5) (by have := O.s8; omega) (by omega)
  unfold gG mM_get_40
  simp only [mM_get_57, mM_get_82, mM_get_81, mM_get_123, mM_get_127, mM_get_128, mM_get_130, e5, e6, e2, w3, w0, e5', if_neg d10, if_true]
  by_cases c5 : s = 5
  · by_cases v0 : v = 0
    · simp [c5, v0]
    · simp [c5, v0]
  · by_cases c6 : s = 6
    · by_cases v0 : v = 0
      · by_cases w0 : w = 0
        · simp [c6, v0, w0]
        · simp [c6, v0, w0]
      · simp [c6, v0]
    · by_cases c0 : v < 0
      · simp [c0, c5, c6]
      · by_cases l5 : s < 5
        · by_cases d0 : (u.1 k).2.2.2.2.1 6 = 0
          · simp only [if_neg c5, if_neg c6, if_pos l5, if_neg c0, hr_188_3, Option.bind_some, ha_190 hk, O.ep d0]
            by_cases vc : v < Int32.ofNat c
            · by_cases w3 : w < 3
              · simp [c0, d0, vc, w3]
              · by_cases s2 : s = 2
                · simp [c0, d0, vc, w3, s2]
                · simp [d0, vc, w3, s2]
            · simp [vc]
          · simp only [if_neg c5, if_neg c6, if_pos l5, if_neg c0, hr_188_3, Option.bind_some, ha_190 hk, O.e0 d0]
            simp [d0]
        · have s7 : s = 7 := by have := O.s8; omega
          have c7 : c = 0 := by have := O.c8; rw [s7] at this; exact Nat.le_zero.mp this
          have nv : ¬ v < Int32.ofNat c := by rw [c7]; exact c0
          simp [c5, c6, l5, nv]
theorem get_val {n k s c w : Nat} {v : Int32} (hk : k < 32) (hw : w < 4) (O : gO n s c (u.1 k) (x.1 k)) (h : gG s c w ((u.1 k).2.2.2.2.1 6) v) : ∃ r, (∀ o z, cT_part (some (3 + 5 * k)) v (Int32.ofNat w) (gH u x o z) = some r) ∧ ∀ o z, mM_get_141 (some 188) (Int32.ofNat k) v (Int32.ofNat w) (Int32.ofNat s) (some 188) 0 (gH u x o z) = some (r, gH u ((x.1, gup x.2.1 0 0, x.2.2.1, x.2.2.2.1, x.2.2.2.2.1, x.2.2.2.2.2.1, x.2.2.2.2.2.2.1, x.2.2.2.2.2.2.2.1, x.2.2.2.2.2.2.2.2.1, x.2.2.2.2.2.2.2.2.2.1, x.2.2.2.2.2.2.2.2.2.2.1, x.2.2.2.2.2.2.2.2.2.2.2.1, x.2.2.2.2.2.2.2.2.2.2.2.2.1, x.2.2.2.2.2.2.2.2.2.2.2.2.2.1, x.2.2.2.2.2.2.2.2.2.2.2.2.2.2.1, x.2.2.2.2.2.2.2.2.2.2.2.2.2.2.2) : gX) o z) := by
  obtain ⟨w3, w0, w1, w2, w4, w5, _⟩ := n_w4 w hw
  obtain ⟨_, e6, e7, e0, e1, e2, e3, e4, e5⟩ := n_s6 s O.s8
  obtain ⟨h0, h⟩ := h
  have d10 : ¬ (1 : Int32) = 0 := by decide
  have h8 := O.s8
  unfold cT_part mM_get_141
  simp only [hiT_4 hk, Option.bind_some, O.es, e4, e5, e6, ho_188, r_ref, and_self, if_true, e0, e2]
  by_cases c5 : s = 5
  · rw [if_pos c5] at h
    subst h
    obtain ⟨v0, v1, v2, v3, _⟩ := O.vw c5
    have e8 : (8 : Int32) * Int32.ofNat k + 0 = Int32.ofNat (8 * k) := n_8 (i := 0)
    have s4 : ¬ s = 4 := by omega
    rcases (by omega : w = 0 ∨ w = 1 ∨ w = 2 ∨ w = 3) with rfl | rfl | rfl | rfl
    · refine ⟨Int32.toInt64 ((u.1 k).2.2.2.2.1 7), fun o z => ?_, fun o z => ?_⟩
      · simp only [if_neg s4, if_pos c5, ho_T hk, Option.bind_some, cT_viewPart, hiT_7 hk, show (Int32.ofNat 0 = (0 : Int32)) from rfl, if_true]
      · simp only [if_pos c5, hr_188_9, Option.bind_some, e8, n_add, ha_196 (i := 0) hk (by omega), v0]
    · refine ⟨Int32.toInt64 ((u.1 k).2.2.2.2.1 8), fun o z => ?_, fun o z => ?_⟩
      · simp only [if_neg s4, if_pos c5, ho_T hk, Option.bind_some, cT_viewPart, hiT_8 hk, w0, w1, show ¬ (1 : Nat) = 0 by omega, if_false, if_true]
      · simp only [if_pos c5, hr_188_9, Option.bind_some, e8, n_add, ha_196 (i := 1) hk (by omega), v1]
    · refine ⟨Int32.toInt64 ((u.1 k).2.2.2.2.1 9), fun o z => ?_, fun o z => ?_⟩
      · simp only [if_neg s4, if_pos c5, ho_T hk, Option.bind_some, cT_viewPart, hiT_9 hk, w0, w1, w2, show ¬ (2 : Nat) = 0 by omega, show ¬ (2 : Nat) = 1 by omega, if_false, if_true]
      · simp only [if_pos c5, hr_188_9, Option.bind_some, e8, n_add, ha_196 (i := 2) hk (by omega), v2]
    · refine ⟨Int32.toInt64 ((u.1 k).2.2.2.2.1 5), fun o z => ?_, fun o z => ?_⟩
      · simp only [if_neg s4, if_pos c5, ho_T hk, Option.bind_some, cT_viewPart, hiT_5 hk, w0, w1, w2, show ¬ (3 : Nat) = 0 by omega, show ¬ (3 : Nat) = 1 by omega, show ¬ (3 : Nat) = 2 by omega, if_false]
      · simp only [if_pos c5, hr_188_9, Option.bind_some, e8, n_add, ha_196 (i := 3) hk (by omega), v3]
  · rw [if_neg c5] at h
    by_cases c6 : s = 6
    · refine ⟨(u.1 k).2.2.2.2.2 10, fun o z => ?_, fun o z => ?_⟩
      · simp only [show ¬ s = 4 by omega, if_neg c5, if_pos c6, if_false, hjT_10 hk, Option.bind_some]
      · simp only [if_neg c5, if_pos c6, hr_188_5, Option.bind_some, ha_192 hk, O.sT c6]
    · rw [if_neg c6] at h
      obtain ⟨d0, vc, ws⟩ := h
      have cc := O.c8
      have hc8 : c ≤ 8 := by
        unfold gcap at cc
        revert cc
        repeat' split
        all_goals omega
      obtain ⟨i, hi, rfl⟩ := n_of h0 vc (by omega)
      have hi8 : i < 8 := by omega
      have s7 : ¬ s = 7 := by
        rintro rfl
        have : c ≤ 0 := cc
        omega
      by_cases c4 : s = 4
      · have s0 : ¬ s = 0 := by omega
        have s2 : ¬ s = 2 := by omega
        have w3 : w < 3 := by rcases ws with h | h; exact h; omega
        rcases (by omega : w = 0 ∨ w = 1 ∨ w = 2) with rfl | rfl | rfl
        · refine ⟨Int32.toInt64 (Int32.ofNat i), fun o z => ?_, fun o z => ?_⟩
          · simp only [if_pos c4, ho_T hk, Option.bind_some, cT_bytePart, w0, if_true]
          · simp only [if_neg c5, if_neg c6, if_neg s0, if_neg s2, mM_get_205, w0, if_true]
        · refine ⟨4, fun o z => ?_, fun o z => ?_⟩
          · simp only [if_pos c4, ho_T hk, Option.bind_some, cT_bytePart, w0, w1, show ¬ (1 : Nat) = 0 by omega, if_false, if_true]
          · simp only [if_neg c5, if_neg c6, if_neg s0, if_neg s2, mM_get_205, w0, w1, e4, if_pos c4, show ¬ (1 : Nat) = 0 by omega, if_false, if_true]
        · refine ⟨Int32.toInt64 (gt_w ((u.1 k).2.2.2.2.2 10) i), fun o z => ?_, fun o z => ?_⟩
          · simp only [if_pos c4, ho_T hk, Option.bind_some, cT_bytePart, w0, w1, show ¬ (2 : Nat) = 0 by omega, show ¬ (2 : Nat) = 1 by omega, if_false, hjT_10 hk, k_byteOf]
          · simp only [if_neg c5, if_neg c6, if_neg s0, if_neg s2, mM_get_205, w0, w1, w2, show ¬ (2 : Nat) = 0 by omega, show ¬ (2 : Nat) = 1 by omega, if_false, if_true, hr_188_9, Option.bind_some, n_8, ha_196 hk hi8, O.bb c4 i hi]
      · have s3 : s ≤ 3 := by omega
        obtain ⟨v1, v2⟩ := O.vs s3 i hi
        by_cases s02 : s = 0 ∨ s = 2
        · have k1 := O.kE s02 i hi
          have eR : ∀ h : gx_H, (if s = 0 then mM_get_200 (some 188) (Int32.ofNat i) (Int32.ofNat w) (Int32.ofNat s) (Int32.ofNat (8 * k + i)) h else if s = 2 then mM_get_200 (some 188) (Int32.ofNat i) (Int32.ofNat w) (Int32.ofNat s) (Int32.ofNat (8 * k + i)) h else mM_get_205 (some 188) (Int32.ofNat i) (Int32.ofNat w) (Int32.ofNat s) (Int32.ofNat (8 * k + i)) 0 h) = mM_get_205 (some 188) (Int32.ofNat i) (Int32.ofNat w) (Int32.ofNat s) (Int32.ofNat (8 * k + i)) 1 h := by
            intro h
            rcases s02 with c | c
            · rw [if_pos c]; rfl
            · rw [if_neg (by omega), if_pos c]; rfl
          rcases (by omega : w = 0 ∨ w = 1 ∨ w = 2 ∨ w = 3) with rfl | rfl | rfl | rfl
          · refine ⟨Int32.toInt64 ((u.1 k).2.1 i), fun o z => ?_, fun o z => ?_⟩
            · simp only [if_neg c4, if_neg c5, if_neg c6, ho_T hk, Option.bind_some, cT_valuePart, show Int32.ofNat 0 = (0 : Int32) from rfl, if_true, hiT_4 hk, O.es, e0, e2, hrT_1 hk, haT_2 hk hi8]
              rcases s02 with c | c
              · rw [if_pos c]; rfl
              · rw [if_neg (by omega), if_pos c]; rfl
            · simp only [if_neg c5, if_neg c6, n_8]; rw [eR]; simp only [mM_get_205, w0, if_true, if_neg d10, hr_188_6, Option.bind_some, n_8, ha_193 hk hi8, k1]
          · refine ⟨Int32.toInt64 ((u.1 k).2.2.1 i), fun o z => ?_, fun o z => ?_⟩
            · simp only [if_neg c4, if_neg c5, if_neg c6, ho_T hk, Option.bind_some, cT_valuePart, w0, w1, show ¬ (1 : Nat) = 0 by omega, if_false, if_true, hrT_2 hk, haT_3 hk hi8]
            · simp only [if_neg c5, if_neg c6, n_8]; rw [eR]; simp only [mM_get_205, w0, w1, e4, if_neg c4, show ¬ (1 : Nat) = 0 by omega, if_false, if_true, hr_188_8, Option.bind_some, n_8, ha_195 hk hi8, v1]
          · refine ⟨Int32.toInt64 ((u.1 k).2.2.2.1 i), fun o z => ?_, fun o z => ?_⟩
            · simp only [if_neg c4, if_neg c5, if_neg c6, ho_T hk, Option.bind_some, cT_valuePart, w0, w1, w2, show ¬ (2 : Nat) = 0 by omega, show ¬ (2 : Nat) = 1 by omega, if_false, if_true, hrT_3 hk, haT_4 hk hi8]
            · simp only [if_neg c5, if_neg c6, n_8]; rw [eR]; simp only [mM_get_205, w0, w1, w2, show ¬ (2 : Nat) = 0 by omega, show ¬ (2 : Nat) = 1 by omega, if_false, if_true, hr_188_9, Option.bind_some, n_8, ha_196 hk hi8, v2]
          · have s2 : s = 2 := by rcases ws with h | h; omega; exact h
            refine ⟨Int32.toInt64 ((u.1 k).1 i), fun o z => ?_, fun o z => ?_⟩
            · simp only [if_neg c4, if_neg c5, if_neg c6, ho_T hk, Option.bind_some, cT_valuePart, w0, w1, w2, show ¬ (3 : Nat) = 0 by omega, show ¬ (3 : Nat) = 1 by omega, show ¬ (3 : Nat) = 2 by omega, if_false, hrT_0 hk, haT_1 hk hi8]
            · simp only [if_neg c5, if_neg c6, n_8]; rw [eR]; simp only [mM_get_205, w0, w1, w2, show ¬ (3 : Nat) = 0 by omega, show ¬ (3 : Nat) = 1 by omega, show ¬ (3 : Nat) = 2 by omega, if_false, hr_188_7, Option.bind_some, n_8, ha_194 hk hi8, O.kK s2 i hi]
        · have s0 : ¬ s = 0 := fun q => s02 (Or.inl q)
          have s2 : ¬ s = 2 := fun q => s02 (Or.inr q)
          have w3 : w < 3 := by rcases ws with h | h; exact h; exact absurd h s2
          rcases (by omega : w = 0 ∨ w = 1 ∨ w = 2) with rfl | rfl | rfl
          · refine ⟨Int32.toInt64 (Int32.ofNat i), fun o z => ?_, fun o z => ?_⟩
            · simp only [if_neg c4, if_neg c5, if_neg c6, ho_T hk, Option.bind_some, cT_valuePart, show Int32.ofNat 0 = (0 : Int32) from rfl, if_true, hiT_4 hk, O.es, e0, e2, if_neg s0, if_neg s2]
            · simp only [if_neg c5, if_neg c6, if_neg s0, if_neg s2, mM_get_205, w0, if_true]
          · refine ⟨Int32.toInt64 ((u.1 k).2.2.1 i), fun o z => ?_, fun o z => ?_⟩
            · simp only [if_neg c4, if_neg c5, if_neg c6, ho_T hk, Option.bind_some, cT_valuePart, w0, w1, show ¬ (1 : Nat) = 0 by omega, if_false, if_true, hrT_2 hk, haT_3 hk hi8]
            · simp only [if_neg c5, if_neg c6, if_neg s0, if_neg s2, mM_get_205, w0, w1, e4, if_neg c4, show ¬ (1 : Nat) = 0 by omega, if_false, if_true, hr_188_8, Option.bind_some, n_8, ha_195 hk hi8, v1]
          · refine ⟨Int32.toInt64 ((u.1 k).2.2.2.1 i), fun o z => ?_, fun o z => ?_⟩
            · simp only [if_neg c4, if_neg c5, if_neg c6, ho_T hk, Option.bind_some, cT_valuePart, w0, w1, w2, show ¬ (2 : Nat) = 0 by omega, show ¬ (2 : Nat) = 1 by omega, if_false, if_true, hrT_3 hk, haT_4 hk hi8]
            · simp only [if_neg c5, if_neg c6, if_neg s0, if_neg s2, mM_get_205, w0, w1, w2, show ¬ (2 : Nat) = 0 by omega, show ¬ (2 : Nat) = 1 by omega, if_false, if_true, hr_188_9, Option.bind_some, n_8, ha_196 hk hi8, v2]
theorem r_get21 {v1 v2 v3 : Int32} : mM_get_21 (some 188) v1 v2 v3 (gH u x o z) = some (0, gH u ((x.1, gup x.2.1 0 1, x.2.2.1, x.2.2.2.1, x.2.2.2.2.1, x.2.2.2.2.2.1, x.2.2.2.2.2.2.1, x.2.2.2.2.2.2.2.1, x.2.2.2.2.2.2.2.2.1, x.2.2.2.2.2.2.2.2.2.1, x.2.2.2.2.2.2.2.2.2.2.1, x.2.2.2.2.2.2.2.2.2.2.2.1, x.2.2.2.2.2.2.2.2.2.2.2.2.1, x.2.2.2.2.2.2.2.2.2.2.2.2.2.1, x.2.2.2.2.2.2.2.2.2.2.2.2.2.2.1, x.2.2.2.2.2.2.2.2.2.2.2.2.2.2.2) : gX) o z) := by
  simp only [mM_get_21, mM_get_22, if_true, mM_get_40, show ¬ (7 : Int32) = 5 by decide, show ¬ (7 : Int32) = 6 by decide, if_false, mM_get_127, mM_get_128, mM_get_130, r_get1]
theorem t_get {b v w : Int32} (h : gTT u x) : gAnsJ u x o z (lw_get (some 0) b v w (some 211)) (mM_get (some 188) b v w) := by
  obtain ⟨n, m, p, q, T⟩ := h
  have hn := T.hn
  have no : (∀ h : gx_H, h = gH u x o z → cG_get (some 0) b v w h = cG_get_25 h) → (∀ z, mM_get (some 188) b v w (gH u x o z) = some (0, gH u ((x.1, gup x.2.1 0 1, x.2.2.1, x.2.2.2.1, x.2.2.2.2.1, x.2.2.2.2.2.1, x.2.2.2.2.2.2.1, x.2.2.2.2.2.2.2.1, x.2.2.2.2.2.2.2.2.1, x.2.2.2.2.2.2.2.2.2.1, x.2.2.2.2.2.2.2.2.2.2.1, x.2.2.2.2.2.2.2.2.2.2.2.1, x.2.2.2.2.2.2.2.2.2.2.2.2.1, x.2.2.2.2.2.2.2.2.2.2.2.2.2.1, x.2.2.2.2.2.2.2.2.2.2.2.2.2.2.1, x.2.2.2.2.2.2.2.2.2.2.2.2.2.2.2) : gX) o z)) → gAnsJ u x o z (lw_get (some 0) b v w (some 211)) (mM_get (some 188) b v w) := by
    intro h1 h2
    refine ⟨1, u, o, z ++ [(10, [])], 0, ((x.1, gup x.2.1 0 1, x.2.2.1, x.2.2.2.1, x.2.2.2.2.1, x.2.2.2.2.2.1, x.2.2.2.2.2.2.1, x.2.2.2.2.2.2.2.1, x.2.2.2.2.2.2.2.2.1, x.2.2.2.2.2.2.2.2.2.1, x.2.2.2.2.2.2.2.2.2.2.1, x.2.2.2.2.2.2.2.2.2.2.2.1, x.2.2.2.2.2.2.2.2.2.2.2.2.1, x.2.2.2.2.2.2.2.2.2.2.2.2.2.1, x.2.2.2.2.2.2.2.2.2.2.2.2.2.2.1, x.2.2.2.2.2.2.2.2.2.2.2.2.2.2.2) : gX), ?_, h2 _, rfl, fun q => absurd q (by decide), gTT_0 ⟨n, m, p, q, T⟩, by simp⟩
    simp only [lw_get, ho_0, Option.bind_some, h1 _ rfl, cG_get_25, hl, hthr, hexc] <;> rfl
  rcases g_ob b n (by omega) with c | ⟨k, hk, rfl⟩
  · refine no (fun h e => ?_) (fun z => ?_)
    · subst e
      simp only [cG_get, hr_0_0, Option.bind_some, ho_1, k_tout T.un c, if_true]
    · simp only [mM_get, ho_188, Option.bind_some, r_oout T.xn c, if_true, r_get21]
  · obtain ⟨s, c, O⟩ := T.ob k hk
    have hk2 : k < 32 := by omega
    by_cases w0 : w < 0
    · refine no (fun h e => ?_) (fun z => ?_)
      · subst e
        simp only [cG_get, hr_0_0, Option.bind_some, ho_1, k_tin T.un hn hk, reduceCtorEq, if_false, ho_T hk2, cT_hasPart, if_pos w0, if_true] <;> rfl
      · simp only [mM_get, ho_188, Option.bind_some, r_oin T.xn hn hk, if_pos w0, r_get21] <;> rfl
    · by_cases w4 : w < 4
      · obtain ⟨w, hw, rfl⟩ := n_of (m := 4) w0 w4 (by omega)
        obtain ⟨r, r1, r2, r3⟩ := k_hasPart (o := o) (z := z) (v := v) hk2 hw O
        by_cases g : gG s c w ((u.1 k).2.2.2.2.1 6) v
        · obtain ⟨a, a1, a2⟩ := get_val hk2 hw O g
          have r1' := r3.mpr g
          subst r1'
          refine ⟨0, u, gup o 0 a, z, a, _, ?_, ?_, rfl, fun _ => rfl, gTT_0 ⟨n, m, p, q, T⟩, by omega⟩
          · simp only [lw_get, ho_0, Option.bind_some, cG_get, hr_0_0, ho_1, k_tin T.un hn hk, reduceCtorEq, if_false, ho_T hk2, r1, a1 o z, hb0] <;> rfl
          · simp only [mM_get, ho_188, Option.bind_some, r_oin T.xn hn hk, if_neg w0, if_pos w4, mM_get_22, hr_188_2, ha_189 hk2, O.et, (r_get40 (o := gup o 0 a) (z := z) hk2 hw O).1 g, a2 (gup o 0 a) z] <;> rfl
        · have r0 : r = 0 := by rcases r2 with h | h; exact h; exact absurd (r3.mp h) g
          subst r0
          refine no (fun h e => ?_) (fun z => ?_)
          · subst e
            simp only [cG_get, hr_0_0, Option.bind_some, ho_1, k_tin T.un hn hk, reduceCtorEq, if_false, ho_T hk2, r1, if_true] <;> rfl
          · simp only [mM_get, ho_188, Option.bind_some, r_oin T.xn hn hk, if_neg w0, if_pos w4, mM_get_22, hr_188_2, ha_189 hk2, O.et, (r_get40 (o := o) (z := z) hk2 hw O).2 g, r_get1] <;> rfl
      · refine no (fun h e => ?_) (fun z => ?_)
        · subst e
          have w3 : 3 < w := by
            have := n_w4 3 (by omega)
            rw [Int32.lt_iff_toInt_lt] at w4 ⊢
            have a1 : (4 : Int32).toInt = 4 := rfl
            have a0 : (3 : Int32).toInt = 3 := rfl
            omega
          simp only [cG_get, hr_0_0, Option.bind_some, ho_1, k_tin T.un hn hk, reduceCtorEq, if_false, ho_T hk2, cT_hasPart, if_neg w0, if_pos w3, if_true] <;> rfl
        · simp only [mM_get, ho_188, Option.bind_some, r_oin T.xn hn hk, if_neg w0, if_neg w4, r_get21] <;> rfl
end H
