/-! write: what is asked before and behind -/
def gfl (r : Nat → Int32) (i : Nat) : Nat → Int32 := fun j => if i ≤ j ∧ j < 32 then -1 else r j
theorem gfl_32 {r : Nat → Int32} : gfl r 32 = r := by funext j; unfold gfl; rw [if_neg (by omega)]
theorem gfl_step {r : Nat → Int32} {i : Nat} (h : i < 32) : gfl (gup r i (-1)) (i + 1) = gfl r i := by
  funext j; unfold gfl gup
  by_cases c : j = i
  · subst c; rw [if_neg (by omega), if_pos rfl, if_pos (by omega)]
  · by_cases c2 : i + 1 ≤ j ∧ j < 32
    · rw [if_pos c2, if_pos (by omega)]
    · rw [if_neg c2, if_neg c, if_neg (by omega)]
/-- the object that is passed at place i -/
def gpk (u : gU) (i : Nat) : Nat := (u.2.2.2.2.2.2.1 i).toNatClampNeg
section H
variable {n m p q e g : Nat} {u : gU} {x : gX}
theorem gpk_at (T : gTi n m p q u x) {i : Nat} (hi : i < p) : gpk u i < n ∧ u.2.2.2.2.2.2.1 i = Int32.ofNat (gpk u i) ∧ x.2.2.1 i = Int32.ofNat (gpk u i) := by
  obtain ⟨k, h1, h2⟩ := T.pb i hi
  have hn := T.hn
  have : gpk u i = k := by unfold gpk; rw [h2]; exact n_cl (by omega)
  rw [this]
  exact ⟨h1, h2, (T.pa i hi).trans h2⟩
theorem k_fillW {k v : Int32} {o : Nat → Int64} {z : gx_H} : ∀ (r i f : Nat) (u : gU), i + r = 32 → cW_run_16 (f + r + 1) (some 169) (some 1) (some 165) k v (Int32.ofNat i) (gH u x o z) = cW_run_16 (f + 1) (some 169) (some 1) (some 165) k v (Int32.ofNat 32) (gH ((u.1, u.2.1, u.2.2.1, u.2.2.2.1, u.2.2.2.2.1, u.2.2.2.2.2.1, u.2.2.2.2.2.2.1, u.2.2.2.2.2.2.2.1, u.2.2.2.2.2.2.2.2.1, u.2.2.2.2.2.2.2.2.2.1, u.2.2.2.2.2.2.2.2.2.2.1, gfl u.2.2.2.2.2.2.2.2.2.2.2.1 i, u.2.2.2.2.2.2.2.2.2.2.2.2.1, u.2.2.2.2.2.2.2.2.2.2.2.2.2.1, u.2.2.2.2.2.2.2.2.2.2.2.2.2.2) : gU) x o z) := by
  intro r
  induction r with
  | zero => intro i f u h; obtain rfl : i = 32 := by omega
            rw [gfl_32]
  | succ r ih =>
    intro i f u h
    rw [show f + (r + 1) + 1 = (f + r + 1) + 1 by omega, cW_run_16, if_pos (show Int32.ofNat i < 32 from n_ltl (m := 32) (by omega) (by omega) (by omega)), hr_169_1, Option.bind_some, hb_172 (show i < 32 by omega), Option.bind_some, n_succ, ih (i + 1) f _ (by omega)]
    simp only [gfl_step (show i < 32 by omega)]
theorem r_fillW {k v : Int32} {o : Nat → Int64} {z : gx_H} : ∀ (r i f : Nat) (x : gX), i + r = 32 → mM_write_42 (f + r + 1) (some 188) k v (Int32.ofNat i) (gH u x o z) = mM_write_42 (f + 1) (some 188) k v (Int32.ofNat 32) (gH u ((x.1, x.2.1, x.2.2.1, x.2.2.2.1, x.2.2.2.2.1, x.2.2.2.2.2.1, x.2.2.2.2.2.2.1, x.2.2.2.2.2.2.2.1, x.2.2.2.2.2.2.2.2.1, x.2.2.2.2.2.2.2.2.2.1, x.2.2.2.2.2.2.2.2.2.2.1, x.2.2.2.2.2.2.2.2.2.2.2.1, x.2.2.2.2.2.2.2.2.2.2.2.2.1, x.2.2.2.2.2.2.2.2.2.2.2.2.2.1, gfl x.2.2.2.2.2.2.2.2.2.2.2.2.2.2.1 i, x.2.2.2.2.2.2.2.2.2.2.2.2.2.2.2) : gX) o z) := by
  intro r
  induction r with
  | zero => intro i f x h; obtain rfl : i = 32 := by omega
            rw [gfl_32]
  | succ r ih =>
    intro i f x h
    rw [show f + (r + 1) + 1 = (f + r + 1) + 1 by omega, mM_write_42, if_pos (show Int32.ofNat i < 32 from n_ltl (m := 32) (by omega) (by omega) (by omega)), hr_188_30, Option.bind_some, hb_209 (show i < 32 by omega), Option.bind_some, n_succ, ih (i + 1) f _ (by omega)]
    simp only [gfl_step (show i < 32 by omega)]
theorem k_fr {k : Nat} {o : Nat → Int64} {z : gx_H} (hu : u.2.2.1 1 = Int32.ofNat n) (hn : n ≤ 32) (hk : k < n) : cS_isFreeBuffer (some 1) (Int32.ofNat k) (gH u x o z) = some (if (u.1 k).2.2.2.2.1 4 = 4 ∧ (u.1 k).2.2.2.2.1 6 = 0 then 1 else 0) := by
  have hk2 : k < 32 := by omega
  unfold cS_isFreeBuffer
  simp only [ho_1, Option.bind_some, k_tin hu hn hk, reduceCtorEq, if_false, hiT_4 hk2, hiT_6 hk2]
  by_cases c1 : (u.1 k).2.2.2.2.1 4 = 4 <;> by_cases c2 : (u.1 k).2.2.2.2.1 6 = 0 <;> simp [c1, c2]
theorem k_freeL (T : gTi n m p q u x) : ∀ (r i f : Nat), i + r = p → ∃ a, (∀ y o z, cH_areFreeBuffers_2 (f + r + 1) (some 165) (some 1) (Int32.ofNat i) (gH u y o z) = some a) ∧ (a = 0 ∨ a = 1) ∧ (a = 1 ↔ ∀ t, i ≤ t → t < p → (u.1 (gpk u t)).2.2.2.2.1 4 = 4 ∧ (u.1 (gpk u t)).2.2.2.2.1 6 = 0) := by
  have hp := T.hp
  have hn := T.hn
  intro r
  induction r with
  | zero =>
    intro i f h
    refine ⟨1, fun y o z => ?_, Or.inr rfl, fun _ t h1 h2 => by omega, fun _ => rfl⟩
    rw [cH_areFreeBuffers_2, hi_165_1, Option.bind_some, T.up, if_neg (n_nltl (by omega) (by omega) (by omega))]
  | succ r ih =>
    intro i f h
    obtain ⟨g1, g2, g3⟩ := gpk_at T (show i < p by omega)
    obtain ⟨a, a1, a2, a3⟩ := ih (i + 1) f (by omega)
    have st : ∀ y o z, cH_areFreeBuffers_2 (f + (r + 1) + 1) (some 165) (some 1) (Int32.ofNat i) (gH u y o z) = if (u.1 (gpk u i)).2.2.2.2.1 4 = 4 ∧ (u.1 (gpk u i)).2.2.2.2.1 6 = 0 then some a else some 0 := by
      intro y o z
      rw [show f + (r + 1) + 1 = (f + r + 1) + 1 by omega, cH_areFreeBuffers_2, hi_165_1, Option.bind_some, T.up, if_pos (n_ltl (by omega) (by omega) (by omega)), hr_165_0, Option.bind_some, ha_166 (by omega), Option.bind_some, ho_1, Option.bind_some, g2, k_fr T.un hn g1, Option.bind_some, n_succ, a1]
      by_cases c : (u.1 (gpk u i)).2.2.2.2.1 4 = 4 ∧ (u.1 (gpk u i)).2.2.2.2.1 6 = 0
      · rw [if_pos c, if_pos c, if_neg (by decide)]
      · rw [if_neg c, if_neg c, if_pos rfl]
    by_cases c : (u.1 (gpk u i)).2.2.2.2.1 4 = 4 ∧ (u.1 (gpk u i)).2.2.2.2.1 6 = 0
    · refine ⟨a, fun y o z => (st y o z).trans (if_pos c), a2, fun q t h1 h2 => ?_, fun q => a3.mpr fun t h1 h2 => q t (by omega) h2⟩
      by_cases e : t = i
      · subst e; exact c
      · exact a3.mp q t (by omega) h2
    · exact ⟨0, fun y o z => (st y o z).trans (if_neg c), Or.inl rfl, fun q => absurd q (by decide), fun q => absurd (q i (by omega) (by omega)) c⟩
theorem k_freeAll (T : gTi n m p q u x) : ∃ a, (∀ y o z, cH_areFreeBuffers (some 165) (some 1) (gH u y o z) = some a) ∧ (a = 0 ∨ a = 1) ∧ (a = 1 ↔ ∀ t, t < p → (u.1 (gpk u t)).2.2.2.2.1 4 = 4 ∧ (u.1 (gpk u t)).2.2.2.2.1 6 = 0) := by
  obtain ⟨a, a1, a2, a3⟩ := k_freeL T p 0 (1000000000000000 - p - 1) (by omega)
  have hp := T.hp
  rw [show 1000000000000000 - p - 1 + p + 1 = 1000000000000000 by omega] at a1
  exact ⟨a, a1, a2, fun q t h => a3.mp q t (by omega) h, fun q => a3.mpr fun t _ h => q t h⟩
theorem k_twiceL (T : gTi n m p q u x) : ∀ (r i f : Nat), i + r = p → ∃ a, (∀ y o z, cH_noneTwice_2 (f + r + 1) (some 165) (Int32.ofNat i) (gH u y o z) = some a) ∧ (a = 0 ∨ a = 1) ∧ (a = 1 ↔ ∀ t, i ≤ t → t < p → gio (gfi (fun j => decide (u.2.2.2.2.2.2.1 j = u.2.2.2.2.2.2.1 t)) p 0) = Int32.ofNat t) := by
  have hp := T.hp
  intro r
  induction r with
  | zero =>
    intro i f h
    refine ⟨1, fun y o z => ?_, Or.inr rfl, fun _ t h1 h2 => by omega, fun _ => rfl⟩
    rw [cH_noneTwice_2, hi_165_1, Option.bind_some, T.up, if_neg (n_nltl (by omega) (by omega) (by omega))]
  | succ r ih =>
    intro i f h
    obtain ⟨a, a1, a2, a3⟩ := ih (i + 1) f (by omega)
    have st : ∀ y o z, cH_noneTwice_2 (f + (r + 1) + 1) (some 165) (Int32.ofNat i) (gH u y o z) = if gio (gfi (fun j => decide (u.2.2.2.2.2.2.1 j = u.2.2.2.2.2.2.1 i)) p 0) = Int32.ofNat i then some a else some 0 := by
      intro y o z
      rw [show f + (r + 1) + 1 = (f + r + 1) + 1 by omega, cH_noneTwice_2, hi_165_1, Option.bind_some, T.up, if_pos (n_ltl (by omega) (by omega) (by omega)), hr_165_0, Option.bind_some, ha_166 (by omega), Option.bind_some, ho_165, Option.bind_some, k_place T.up T.hp, Option.bind_some, n_succ, a1]
    by_cases c : gio (gfi (fun j => decide (u.2.2.2.2.2.2.1 j = u.2.2.2.2.2.2.1 i)) p 0) = Int32.ofNat i
    · refine ⟨a, fun y o z => (st y o z).trans (if_pos c), a2, fun q t h1 h2 => ?_, fun q => a3.mpr fun t h1 h2 => q t (by omega) h2⟩
      by_cases e : t = i
      · subst e; exact c
      · exact a3.mp q t (by omega) h2
    · exact ⟨0, fun y o z => (st y o z).trans (if_neg c), Or.inl rfl, fun q => absurd q (by decide), fun q => absurd (q i (by omega) (by omega)) c⟩
theorem k_twice (T : gTi n m p q u x) : ∃ a, (∀ y o z, cH_noneTwice (some 165) (gH u y o z) = some a) ∧ (a = 0 ∨ a = 1) ∧ (a = 1 ↔ ∀ t, t < p → gio (gfi (fun j => decide (u.2.2.2.2.2.2.1 j = u.2.2.2.2.2.2.1 t)) p 0) = Int32.ofNat t) := by
  obtain ⟨a, a1, a2, a3⟩ := k_twiceL T p 0 (1000000000000000 - p - 1) (by omega)
  have hp := T.hp
  rw [show 1000000000000000 - p - 1 + p + 1 = 1000000000000000 by omega] at a1
  exact ⟨a, a1, a2, fun q t h => a3.mp q t (by omega) h, fun q => a3.mpr fun t _ h => q t h⟩
theorem r_can0 (T : gTi n m p q u x) : ∀ (r i f : Nat), i + r = p → ∀ y o z, mM_canPass_4 (f + r + 1) (some 188) 0 (Int32.ofNat i) (gH y x o z) = some 0 := by
  have hp := T.hp
  intro r
  induction r with
  | zero =>
    intro i f h y o z
    rw [mM_canPass_4, hi_188_10, Option.bind_some, T.xp, if_neg (n_nltl (by omega) (by omega) (by omega))]
    rfl
  | succ r ih =>
    intro i f h y o z
    rw [show f + (r + 1) + 1 = (f + r + 1) + 1 by omega, mM_canPass_4, hi_188_10, Option.bind_some, T.xp, if_pos (n_ltl (by omega) (by omega) (by omega)), if_pos rfl]
    simp only [mM_canPass_63, mM_canPass_64, n_succ]
    exact ih (i + 1) f (by omega) y o z
theorem r_canL (T : gTi n m p q u x) : ∀ (r i f : Nat), i + r = p → ∃ a, (∀ y o z, mM_canPass_4 (f + r + 1) (some 188) 1 (Int32.ofNat i) (gH y x o z) = some a) ∧ (a = 0 ∨ a = 1) ∧ (a = 1 ↔ ∀ t, i ≤ t → t < p → ((u.1 (gpk u t)).2.2.2.2.1 4 = 4 ∧ (u.1 (gpk u t)).2.2.2.2.1 6 = 0) ∧ gio (gfi (fun j => decide (u.2.2.2.2.2.2.1 j = u.2.2.2.2.2.2.1 t)) p 0) = Int32.ofNat t) := by
  have hp := T.hp
  have hn := T.hn
  intro r
  induction r with
  | zero =>
    intro i f h
    refine ⟨1, fun y o z => ?_, Or.inr rfl, fun _ t h1 h2 => by omega, fun _ => rfl⟩
    rw [mM_canPass_4, hi_188_10, Option.bind_some, T.xp, if_neg (n_nltl (by omega) (by omega) (by omega))]
    rfl
  | succ r ih =>
    intro i f h
    obtain ⟨g1, g2, g3⟩ := gpk_at T (show i < p by omega)
    obtain ⟨s, c', O⟩ := T.ob _ g1
    have hk : gpk u i < 32 := by omega
    obtain ⟨a, a1, a2, a3⟩ := ih (i + 1) f (by omega)
    have et : (x.1 (gpk u i)).2.2.2.2.1 = (u.1 (gpk u i)).2.2.2.2.1 4 := O.et.trans O.es.symm
    have pl : ∀ y o z, mM_passOf (some 188) (Int32.ofNat (gpk u i)) (gH y x o z) = some (gio (gfi (fun j => decide (u.2.2.2.2.2.2.1 j = u.2.2.2.2.2.2.1 i)) p 0)) := fun y o z => by
      rw [← g2, r_pass T.xp T.hp, ← pass_find T]
    have st : ∀ y o z, mM_canPass_4 (f + (r + 1) + 1) (some 188) 1 (Int32.ofNat i) (gH y x o z) = if ((u.1 (gpk u i)).2.2.2.2.1 4 = 4 ∧ (u.1 (gpk u i)).2.2.2.2.1 6 = 0) ∧ gio (gfi (fun j => decide (u.2.2.2.2.2.2.1 j = u.2.2.2.2.2.2.1 i)) p 0) = Int32.ofNat i then some a else some 0 := by
      intro y o z
      rw [show f + (r + 1) + 1 = (f + r + 1) + 1 by omega, mM_canPass_4, hi_188_10, Option.bind_some, T.xp, if_pos (n_ltl (by omega) (by omega) (by omega)), if_neg (show ¬ (1 : Int32) = 0 by decide)]
      simp only [hr_188_2, hr_188_11, hr_188_4, Option.bind_some, ha_197 (show i < 4 by omega), g3, ha_189 hk, et, ha_191 hk, O.ed, ho_188, pl, mM_canPass_63, mM_canPass_64, n_succ, a1, r_can0 T r (i + 1) f (by omega)]
      by_cases c1 : (u.1 (gpk u i)).2.2.2.2.1 4 = 4
      · by_cases c2 : (u.1 (gpk u i)).2.2.2.2.1 6 = 0
        · by_cases c3 : gio (gfi (fun j => decide (u.2.2.2.2.2.2.1 j = u.2.2.2.2.2.2.1 i)) p 0) = Int32.ofNat i
          · simp [c1, c2, c3]
          · simp [c1, c2, c3]
        · simp [c1, c2]
      · simp [c1]
    by_cases c : ((u.1 (gpk u i)).2.2.2.2.1 4 = 4 ∧ (u.1 (gpk u i)).2.2.2.2.1 6 = 0) ∧ gio (gfi (fun j => decide (u.2.2.2.2.2.2.1 j = u.2.2.2.2.2.2.1 i)) p 0) = Int32.ofNat i
    · refine ⟨a, fun y o z => (st y o z).trans (if_pos c), a2, fun q t h1 h2 => ?_, fun q => a3.mpr fun t h1 h2 => q t (by omega) h2⟩
      by_cases e : t = i
      · subst e; exact c
      · exact a3.mp q t (by omega) h2
    · exact ⟨0, fun y o z => (st y o z).trans (if_neg c), Or.inl rfl, fun q => absurd q (by decide), fun q => absurd (q i (by omega) (by omega)) c⟩
theorem r_can (T : gTi n m p q u x) : ∃ a, (∀ y o z, mM_canPass (some 188) (gH y x o z) = some a) ∧ (a = 0 ∨ a = 1) ∧ (a = 1 ↔ ∀ t, t < p → ((u.1 (gpk u t)).2.2.2.2.1 4 = 4 ∧ (u.1 (gpk u t)).2.2.2.2.1 6 = 0) ∧ gio (gfi (fun j => decide (u.2.2.2.2.2.2.1 j = u.2.2.2.2.2.2.1 t)) p 0) = Int32.ofNat t) := by
  obtain ⟨a, a1, a2, a3⟩ := r_canL T p 0 (1000000000000000 - p - 1) (by omega)
  have hp := T.hp
  rw [show 1000000000000000 - p - 1 + p + 1 = 1000000000000000 by omega] at a1
  exact ⟨a, a1, a2, fun q t h => a3.mp q t (by omega) h, fun q => a3.mpr fun t _ h => q t h⟩
/-- the reference's look at what is passed, behind the loop -/
theorem r_103L (T : gTi n m p q u x) : ∀ (r i f : Nat) (b : Nat → Int32), i + r = p → (∀ j, ¬ j = 26 → b j = x.2.1 j) → b 26 = 0 → ∃ v, (v = 0 ∨ v = 1) ∧ (v = 0 ↔ ∀ t, i ≤ t → t < p → (u.1 (gpk u t)).2.2.2.2.1 6 = 0) ∧ ∀ y o z, mM_write_103 (f + r + 1) (some 188) (Int32.ofNat i) (gH y ((x.1, b, x.2.2.1, x.2.2.2.1, x.2.2.2.2.1, x.2.2.2.2.2.1, x.2.2.2.2.2.2.1, x.2.2.2.2.2.2.2.1, x.2.2.2.2.2.2.2.2.1, x.2.2.2.2.2.2.2.2.2.1, x.2.2.2.2.2.2.2.2.2.2.1, x.2.2.2.2.2.2.2.2.2.2.2.1, x.2.2.2.2.2.2.2.2.2.2.2.2.1, x.2.2.2.2.2.2.2.2.2.2.2.2.2.1, x.2.2.2.2.2.2.2.2.2.2.2.2.2.2.1, x.2.2.2.2.2.2.2.2.2.2.2.2.2.2.2) : gX) o z) = mM_write_147 (some 188) (gH y ((x.1, gup b 26 v, x.2.2.1, x.2.2.2.1, x.2.2.2.2.1, x.2.2.2.2.2.1, x.2.2.2.2.2.2.1, x.2.2.2.2.2.2.2.1, x.2.2.2.2.2.2.2.2.1, x.2.2.2.2.2.2.2.2.2.1, x.2.2.2.2.2.2.2.2.2.2.1, x.2.2.2.2.2.2.2.2.2.2.2.1, x.2.2.2.2.2.2.2.2.2.2.2.2.1, x.2.2.2.2.2.2.2.2.2.2.2.2.2.1, x.2.2.2.2.2.2.2.2.2.2.2.2.2.2.1, x.2.2.2.2.2.2.2.2.2.2.2.2.2.2.2) : gX) o z) := by
  have hp := T.hp
  have hn := T.hn
  intro r
  induction r with
  | zero =>
    intro i f b h hb h0
    refine ⟨0, Or.inl rfl, ⟨fun _ t h1 h2 => by omega, fun _ => rfl⟩, fun y o z => ?_⟩
    have b10 : b 10 = Int32.ofNat p := (hb 10 (by omega)).trans T.xp
    rw [mM_write_103, hi_188_10, Option.bind_some]
    simp only [b10]
    rw [if_neg (n_nltl (by omega) (by omega) (by omega)), gup_same h0]
  | succ r ih =>
    intro i f b h hb h0
    obtain ⟨g1, g2, g3⟩ := gpk_at T (show i < p by omega)
    obtain ⟨s, c', O⟩ := T.ob _ g1
    have hk : gpk u i < 32 := by omega
    have b10 : b 10 = Int32.ofNat p := (hb 10 (by omega)).trans T.xp
    have st : ∀ y o z, mM_write_103 (f + (r + 1) + 1) (some 188) (Int32.ofNat i) (gH y ((x.1, b, x.2.2.1, x.2.2.2.1, x.2.2.2.2.1, x.2.2.2.2.2.1, x.2.2.2.2.2.2.1, x.2.2.2.2.2.2.2.1, x.2.2.2.2.2.2.2.2.1, x.2.2.2.2.2.2.2.2.2.1, x.2.2.2.2.2.2.2.2.2.2.1, x.2.2.2.2.2.2.2.2.2.2.2.1, x.2.2.2.2.2.2.2.2.2.2.2.2.1, x.2.2.2.2.2.2.2.2.2.2.2.2.2.1, x.2.2.2.2.2.2.2.2.2.2.2.2.2.2.1, x.2.2.2.2.2.2.2.2.2.2.2.2.2.2.2) : gX) o z) = mM_write_103 (f + r + 1) (some 188) (Int32.ofNat (i + 1)) (gH y ((x.1, gup b 26 (if (u.1 (gpk u i)).2.2.2.2.1 6 = 0 then 0 else 1), x.2.2.1, x.2.2.2.1, x.2.2.2.2.1, x.2.2.2.2.2.1, x.2.2.2.2.2.2.1, x.2.2.2.2.2.2.2.1, x.2.2.2.2.2.2.2.2.1, x.2.2.2.2.2.2.2.2.2.1, x.2.2.2.2.2.2.2.2.2.2.1, x.2.2.2.2.2.2.2.2.2.2.2.1, x.2.2.2.2.2.2.2.2.2.2.2.2.1, x.2.2.2.2.2.2.2.2.2.2.2.2.2.1, x.2.2.2.2.2.2.2.2.2.2.2.2.2.2.1, x.2.2.2.2.2.2.2.2.2.2.2.2.2.2.2) : gX) o z) := by
      intro y o z
      rw [show f + (r + 1) + 1 = (f + r + 1) + 1 by omega, mM_write_103]
      simp only [hi_188_10, Option.bind_some, b10, if_pos (n_ltl (n := i) (m := p) (by omega) (by omega) (by omega)), hi_188_26, h0, if_true, hr_188_4, hr_188_11, ha_197 (show i < 4 by omega), g3, ha_191 hk, O.ed, mM_write_138, hp_188_26, n_succ]
      by_cases c : (u.1 (gpk u i)).2.2.2.2.1 6 = 0
      · rw [if_pos c, if_pos c]
      · rw [if_neg c, if_neg c]
    by_cases c : (u.1 (gpk u i)).2.2.2.2.1 6 = 0
    · rw [if_pos c] at st
      obtain ⟨v, v1, v2, v3⟩ := ih (i + 1) f (gup b 26 0) (by omega) (fun j hj => (gup_ne hj).trans (hb j hj)) gup_eq
      refine ⟨v, v1, ⟨fun q t h1 h2 => ?_, fun q => v2.mpr fun t h1 h2 => q t (by omega) h2⟩, fun y o z => ?_⟩
      · by_cases e : t = i
        · subst e; exact c
        · exact v2.mp q t (by omega) h2
      · rw [st, v3, gup_gup]
    · rw [if_neg c] at st
      refine ⟨1, Or.inr rfl, ⟨fun q => absurd q (by decide), fun q => absurd (q i (by omega) (by omega)) c⟩, fun y o z => ?_⟩
      rw [st, mM_write_103, hi_188_10, Option.bind_some]
      by_cases c2 : Int32.ofNat (i + 1) < gup b 26 1 10
      · rw [if_pos c2, hi_188_26, Option.bind_some, if_neg (show ¬ gup b 26 1 26 = 0 by rw [gup_eq]; decide)]
      · rw [if_neg c2]
end H
