/-! read: the bytes of a word, texts -/
def gLow (S : Int64) (i : Nat) : Prop := ∀ s, 8 * i ≤ s → S.toBitVec.getLsbD s = false
theorem b_or1 {S : Int64} {t i : Nat} (ht : t < 256) (hi : i < 8) (h : gLow S i) : gLow (S ||| ((Int32.toInt64 (Int32.ofNat t)) <<< (Int32.toInt64 ((8 : Int32) * Int32.ofNat i) &&& 63))) (i + 1) := by
  intro s hs
  by_cases c : s < 64
  · rw [Int64.toBitVec_or, BitVec.getLsbD_or, h s (by omega), b_add ht hi c, b_small ht (by omega)]
    simp
  · exact BitVec.getLsbD_of_ge _ _ (by omega)
theorem b_or2 {S : Int64} {t i j : Nat} (ht : t < 256) (hi : i < 8) (hj : j < i) : gt_w (S ||| ((Int32.toInt64 (Int32.ofNat t)) <<< (Int32.toInt64 ((8 : Int32) * Int32.ofNat i) &&& 63))) j = gt_w S j := by
  apply Int32.toBitVec_inj.mp
  apply BitVec.eq_of_getLsbD_eq
  intro s hs
  rw [b_byte (by omega) hs, b_byte (by omega) hs]
  by_cases c : s < 8
  · rw [Int64.toBitVec_or, BitVec.getLsbD_or, b_add ht hi (by omega)]
    simp [show ¬ 8 * i ≤ 8 * j + s by omega]
  · simp [c]
theorem b_or3 {S : Int64} {t i : Nat} (ht : t < 256) (hi : i < 8) (h : gLow S i) : gt_w (S ||| ((Int32.toInt64 (Int32.ofNat t)) <<< (Int32.toInt64 ((8 : Int32) * Int32.ofNat i) &&& 63))) i = Int32.ofNat t := by
  apply Int32.toBitVec_inj.mp
  apply BitVec.eq_of_getLsbD_eq
  intro s hs
  rw [b_byte hi hs]
  show _ = (BitVec.ofNat 32 t).getLsbD s
  by_cases c : s < 8
  · rw [Int64.toBitVec_or, BitVec.getLsbD_or, b_add ht hi (by omega), h (8 * i + s) (by omega), show 8 * i + s - 8 * i = s by omega]
    simp [c]
  · rw [b_small ht (by omega)]
    simp [c]
theorem gwd_byte {b : Nat → Int32} : ∀ (r i p : Nat) (S : Int64), i + r ≤ 8 → (∀ j, j < r → ∃ t, t < 256 ∧ b (p + j) = Int32.ofNat t) → gLow S i → (∀ j, j < i → gt_w (gwd b r i p S) j = gt_w S j) ∧ ∀ j, j < r → gt_w (gwd b r i p S) (i + j) = b (p + j) := by
  intro r
  induction r with
  | zero =>
    intro i p S h hb hl
    exact ⟨fun j _ => rfl, fun j hj => by omega⟩
  | succ r ih =>
    intro i p S h hb hl
    obtain ⟨t, t1, t2⟩ := hb 0 (by omega)
    rw [Nat.add_zero] at t2
    unfold gwd
    rw [t2]
    obtain ⟨k1, k2⟩ := ih (i + 1) (p + 1) _ (by omega) (fun j hj => by
      obtain ⟨t, t1, t2⟩ := hb (j + 1) (by omega)
      exact ⟨t, t1, by rw [← t2, show p + 1 + j = p + (j + 1) by omega]⟩) (b_or1 t1 (by omega) hl)
    refine ⟨fun j hj => ?_, fun j hj => ?_⟩
    · rw [k1 j (by omega), b_or2 t1 (by omega) hj]
    · by_cases c : j = 0
      · subst c
        show gt_w _ i = b p
        rw [k1 i (by omega), b_or3 t1 (by omega) hl, t2]
      · have := k2 (j - 1) (by omega)
        rw [show i + 1 + (j - 1) = i + j by omega, show p + 1 + (j - 1) = p + j by omega] at this
        exact this
theorem gLow0 {i : Nat} : gLow 0 i := by
  intro s _
  show (0#64).getLsbD s = false
  simp
/-- a text's number, as the reference puts it together -/
def gw32 (b : Nat → Int32) : Nat → Nat → Nat → Int32 → Int32
  | 0, _, _, v => v
  | r + 1, i, p, v => gw32 b r (i + 1) (p + 1) (v ||| (b p <<< (((8 : Int32) * Int32.ofNat i) &&& 31)))
theorem b_low {S : Int64} {s : Nat} (hs : s < 32) : (Int64.toInt32 S).toBitVec.getLsbD s = S.toBitVec.getLsbD s := by
  show (BitVec.signExtend 32 S.toBitVec).getLsbD s = _
  rw [BitVec.getLsbD_signExtend]
  simp [hs, show s < 64 by omega]
theorem b_or32 {S : Int64} {t i : Nat} (ht : t < 256) (hi : i < 4) : Int64.toInt32 (S ||| ((Int32.toInt64 (Int32.ofNat t)) <<< (Int32.toInt64 ((8 : Int32) * Int32.ofNat i) &&& 63))) = Int64.toInt32 S ||| (Int32.ofNat t <<< (((8 : Int32) * Int32.ofNat i) &&& 31)) := by
  apply Int32.toBitVec_inj.mp
  apply BitVec.eq_of_getLsbD_eq
  intro s hs
  rw [b_low hs, Int64.toBitVec_or, BitVec.getLsbD_or, b_add ht (by omega) (by omega), Int32.toBitVec_or, BitVec.getLsbD_or, b_low hs]
  congr 1
  show _ = ((BitVec.ofNat 32 t) <<< ((((8 : Int32) * Int32.ofNat i) &&& 31).toBitVec.smod 32)).getLsbD s
  rw [BitVec.shiftLeft_eq', BitVec.getLsbD_shiftLeft, b_sh32 i hi]
  by_cases c : 8 * i ≤ s
  · simp [hs, c, show ¬ s < 8 * i by omega]
  · simp [c, show s < 8 * i by omega]
theorem gwd_32 {b : Nat → Int32} : ∀ (r i p : Nat) (S : Int64), i + r ≤ 4 → (∀ j, j < r → ∃ t, t < 256 ∧ b (p + j) = Int32.ofNat t) → Int64.toInt32 (gwd b r i p S) = gw32 b r i p (Int64.toInt32 S) := by
  intro r
  induction r with
  | zero => intro i p S h hb; rfl
  | succ r ih =>
    intro i p S h hb
    obtain ⟨t, t1, t2⟩ := hb 0 (by omega)
    rw [Nat.add_zero] at t2
    unfold gwd gw32
    rw [t2, ih (i + 1) (p + 1) _ (by omega) (fun j hj => by
      obtain ⟨t, t1, t2⟩ := hb (j + 1) (by omega)
      exact ⟨t, t1, by rw [← t2, show p + 1 + j = p + (j + 1) by omega]⟩), b_or32 t1 (by omega)]
theorem gt_w32 {S : Int64} {j : Nat} (hj : j < 4) : gt_w (Int32.toInt64 (Int64.toInt32 S)) j = gt_w S j := by
  apply Int32.toBitVec_inj.mp
  apply BitVec.eq_of_getLsbD_eq
  intro s hs
  rw [b_byte (by omega) hs, b_byte (by omega) hs]
  by_cases c : s < 8
  · have e : (Int32.toInt64 (Int64.toInt32 S)).toBitVec.getLsbD (8 * j + s) = (Int64.toInt32 S).toBitVec.getLsbD (8 * j + s) := by
      show (BitVec.signExtend 64 (Int64.toInt32 S).toBitVec).getLsbD (8 * j + s) = _
      rw [BitVec.getLsbD_signExtend]
      simp [show 8 * j + s < 64 by omega, show 8 * j + s < 32 by omega]
    rw [e, b_low (by omega)]
  · simp [c]
section H
variable {n0 f q m N pos : Nat} {u : gU} {x : gX}
theorem k_settle {a b : Int32} : ∀ y o z, cR_settle (some 187) a b (gH u y o z) = some (gH ((u.1, u.2.1, u.2.2.1, u.2.2.2.1, u.2.2.2.2.1, u.2.2.2.2.2.1, u.2.2.2.2.2.2.1, u.2.2.2.2.2.2.2.1, u.2.2.2.2.2.2.2.2.1, u.2.2.2.2.2.2.2.2.2.1, u.2.2.2.2.2.2.2.2.2.2.1, u.2.2.2.2.2.2.2.2.2.2.2.1, gup (gup u.2.2.2.2.2.2.2.2.2.2.2.2.1 2 a) 3 b, u.2.2.2.2.2.2.2.2.2.2.2.2.2.1, u.2.2.2.2.2.2.2.2.2.2.2.2.2.2) : gU) y o z) := by
  intro y o z
  simp only [cR_settle, hp_187_2, Option.bind_some, hp_187_3]
theorem r_got {a b : Int32} : ∀ y o z, mM_got (some 188) a b (gH y x o z) = some (gH y ((x.1, gup (gup x.2.1 35 a) 36 b, x.2.2.1, x.2.2.2.1, x.2.2.2.2.1, x.2.2.2.2.2.1, x.2.2.2.2.2.2.1, x.2.2.2.2.2.2.2.1, x.2.2.2.2.2.2.2.2.1, x.2.2.2.2.2.2.2.2.2.1, x.2.2.2.2.2.2.2.2.2.2.1, x.2.2.2.2.2.2.2.2.2.2.2.1, x.2.2.2.2.2.2.2.2.2.2.2.2.1, x.2.2.2.2.2.2.2.2.2.2.2.2.2.1, x.2.2.2.2.2.2.2.2.2.2.2.2.2.2.1, x.2.2.2.2.2.2.2.2.2.2.2.2.2.2.2) : gX) o z) := by
  intro y o z
  simp only [mM_got, hp_188_35, Option.bind_some, hp_188_36]
theorem k_chkL {l : Nat} {v : Int32} (hl : l ≤ 4) : ∀ (r i g : Nat) (u : gU), i + r = l → ∃ w, (∀ y o z, cR_readText_18 (g + r + 1) (some 187) (Int32.ofNat l) v (Int32.ofNat i) (gH u y o z) = some (gH ((u.1, u.2.1, u.2.2.1, u.2.2.2.1, u.2.2.2.2.1, u.2.2.2.2.2.1, u.2.2.2.2.2.2.1, u.2.2.2.2.2.2.2.1, u.2.2.2.2.2.2.2.2.1, u.2.2.2.2.2.2.2.2.2.1, u.2.2.2.2.2.2.2.2.2.2.1, u.2.2.2.2.2.2.2.2.2.2.2.1, gup (gup (gup u.2.2.2.2.2.2.2.2.2.2.2.2.1 1 w) 2 5) 3 v, u.2.2.2.2.2.2.2.2.2.2.2.2.2.1, u.2.2.2.2.2.2.2.2.2.2.2.2.2.2) : gU) y o z)) ∧ ((w = u.2.2.2.2.2.2.2.2.2.2.2.2.1 1 ∧ ∀ j, i ≤ j → j < l → ¬ gt_w (Int32.toInt64 v) j = 0) ∨ (w = 1 ∧ (u.2.2.2.2.2.2.2.2.2.2.2.2.1 1 = 1 ∨ ∃ j, i ≤ j ∧ j < l ∧ gt_w (Int32.toInt64 v) j = 0))) := by
  intro r
  induction r with
  | zero =>
    intro i g u e
    refine ⟨u.2.2.2.2.2.2.2.2.2.2.2.2.1 1, fun y o z => ?_, Or.inl ⟨rfl, fun j h1 h2 => by omega⟩⟩
    rw [cR_readText_18, if_neg (n_nltl (by omega) (by omega) (by omega)), ho_187, Option.bind_some, k_settle, Option.bind_some, gup_self]
  | succ r ih =>
    intro i g u e
    by_cases c : gt_w (Int32.toInt64 v) i = 0
    · obtain ⟨w, k1, k2⟩ := ih (i + 1) g ((u.1, u.2.1, u.2.2.1, u.2.2.2.1, u.2.2.2.2.1, u.2.2.2.2.2.1, u.2.2.2.2.2.2.1, u.2.2.2.2.2.2.2.1, u.2.2.2.2.2.2.2.2.1, u.2.2.2.2.2.2.2.2.2.1, u.2.2.2.2.2.2.2.2.2.2.1, u.2.2.2.2.2.2.2.2.2.2.2.1, gup u.2.2.2.2.2.2.2.2.2.2.2.2.1 1 1, u.2.2.2.2.2.2.2.2.2.2.2.2.2.1, u.2.2.2.2.2.2.2.2.2.2.2.2.2.2) : gU) (by omega)
      refine ⟨w, fun y o z => ?_, Or.inr ⟨?_, Or.inr ⟨i, by omega, by omega, c⟩⟩⟩
      · rw [show g + (r + 1) + 1 = (g + r + 1) + 1 by omega, cR_readText_18, if_pos (n_ltl (by omega) (by omega) (by omega)), k_byteOf, Option.bind_some, if_pos c, hp_187_1, Option.bind_some, cR_readText_39, n_succ]
        refine (k1 y o z).trans ?_
        show some (gH ((u.1, u.2.1, u.2.2.1, u.2.2.2.1, u.2.2.2.2.1, u.2.2.2.2.2.1, u.2.2.2.2.2.2.1, u.2.2.2.2.2.2.2.1, u.2.2.2.2.2.2.2.2.1, u.2.2.2.2.2.2.2.2.2.1, u.2.2.2.2.2.2.2.2.2.2.1, u.2.2.2.2.2.2.2.2.2.2.2.1, gup (gup (gup (gup u.2.2.2.2.2.2.2.2.2.2.2.2.1 1 1) 1 w) 2 5) 3 v, u.2.2.2.2.2.2.2.2.2.2.2.2.2.1, u.2.2.2.2.2.2.2.2.2.2.2.2.2.2) : gU) y o z) = _
        rw [gup_gup]
      · rcases k2 with h | h
        · exact h.1
        · exact h.1
    · obtain ⟨w, k1, k2⟩ := ih (i + 1) g u (by omega)
      refine ⟨w, fun y o z => ?_, ?_⟩
      · rw [show g + (r + 1) + 1 = (g + r + 1) + 1 by omega, cR_readText_18, if_pos (n_ltl (by omega) (by omega) (by omega)), k_byteOf, Option.bind_some, if_neg c, cR_readText_39, n_succ]
        exact k1 y o z
      · rcases k2 with ⟨h1, h2⟩ | ⟨h1, h2⟩
        · refine Or.inl ⟨h1, fun j a b => ?_⟩
          by_cases e : j = i
          · subst e; exact c
          · exact h2 j (by omega) b
        · refine Or.inr ⟨h1, ?_⟩
          rcases h2 with h2 | ⟨j, a, b⟩
          · exact Or.inl h2
          · exact Or.inr ⟨j, by omega, b⟩
theorem r_textDead {l : Nat} (hl : l ≤ 4) : ∀ (r i g : Nat) (v : Int32) (x : gX), i + r = l → x.2.1 31 = 0 → ∃ v' s, s 31 = 0 ∧ gKs x.2.1 s ∧ ∀ y o z, mM_text_10 (g + r + 1) (some 188) (Int32.ofNat l) v (Int32.ofNat i) (gH y x o z) = some (v', gH y ((x.1, s, x.2.2.1, x.2.2.2.1, x.2.2.2.2.1, x.2.2.2.2.2.1, x.2.2.2.2.2.2.1, x.2.2.2.2.2.2.2.1, x.2.2.2.2.2.2.2.2.1, x.2.2.2.2.2.2.2.2.2.1, x.2.2.2.2.2.2.2.2.2.2.1, x.2.2.2.2.2.2.2.2.2.2.2.1, x.2.2.2.2.2.2.2.2.2.2.2.2.1, x.2.2.2.2.2.2.2.2.2.2.2.2.2.1, x.2.2.2.2.2.2.2.2.2.2.2.2.2.2.1, x.2.2.2.2.2.2.2.2.2.2.2.2.2.2.2) : gX) o z) := by
  intro r
  induction r with
  | zero =>
    intro i g v x e h
    exact ⟨v, x.2.1, h, gKs_refl, fun y o z => by rw [mM_text_10, if_neg (n_nltl (by omega) (by omega) (by omega))]⟩
  | succ r ih =>
    intro i g v x e h
    obtain ⟨s, s1, s2, s3⟩ := r_nxDead h
    obtain ⟨v', s', t1, t2, t3⟩ := ih (i + 1) g (v ||| ((0 : Int32) <<< (((8 : Int32) * Int32.ofNat i) &&& 31))) ((x.1, gup s 31 0, x.2.2.1, x.2.2.2.1, x.2.2.2.2.1, x.2.2.2.2.2.1, x.2.2.2.2.2.2.1, x.2.2.2.2.2.2.2.1, x.2.2.2.2.2.2.2.2.1, x.2.2.2.2.2.2.2.2.2.1, x.2.2.2.2.2.2.2.2.2.2.1, x.2.2.2.2.2.2.2.2.2.2.2.1, x.2.2.2.2.2.2.2.2.2.2.2.2.1, x.2.2.2.2.2.2.2.2.2.2.2.2.2.1, x.2.2.2.2.2.2.2.2.2.2.2.2.2.2.1, x.2.2.2.2.2.2.2.2.2.2.2.2.2.2.2) : gX) (by omega) rfl
    refine ⟨v', s', t1, gKs_trans s2 (gKs_trans (fun j hj => gup_ne (by omega)) t2), fun y o z => ?_⟩
    rw [show g + (r + 1) + 1 = (g + r + 1) + 1 by omega, mM_text_10, if_pos (n_ltl (by omega) (by omega) (by omega)), ho_188, Option.bind_some, s3, Option.bind_some, hi_188_31, Option.bind_some, if_pos s1]
    simp only [mM_text_38, mM_text_39, true_or, not_true, if_false, hp_188_31, Option.bind_some, n_succ]
    exact t3 y o z
theorem r_textL {l : Nat} (hl : l ≤ 4) : ∀ (r i g : Nat) (v : Int32) (u : gU) (x : gX) (pos : Nat), i + r = l → gD n0 f q m N pos u x → pos + r ≤ m → (∀ j, j < r → ¬ u.2.2.2.2.1 (pos + j) = 0) → ∀ y o z, mM_text_10 (g + r + 1) (some 188) (Int32.ofNat l) v (Int32.ofNat i) (gH y x o z) = some (gw32 u.2.2.2.2.1 r i pos v, gH y (sx x (pos + r)) o z) := by
  intro r
  induction r with
  | zero =>
    intro i g v u x pos e D c nz y o z
    rw [mM_text_10, if_neg (n_nltl (by omega) (by omega) (by omega))]
    have : sx x (pos + 0) = x := by
      unfold sx
      rw [Nat.add_zero, gup_same D.px]
    rw [this]; rfl
  | succ r ih =>
    intro i g v u x pos e D c nz y o z
    have e31 : (sx x (pos + 1)).2.1 31 = 1 := D.gg
    have D1 : gD n0 f q m N (pos + 1) (su u (pos + 1)) (sx x (pos + 1)) := gD_s D (by omega)
    have z0 : ¬ u.2.2.2.2.1 pos = 0 := nz 0 (by omega)
    rw [show g + (r + 1) + 1 = (g + r + 1) + 1 by omega, mM_text_10, if_pos (n_ltl (by omega) (by omega) (by omega)), ho_188, Option.bind_some, r_nx D (by omega), Option.bind_some, hi_188_31, Option.bind_some, if_neg (by rw [e31]; decide), if_neg z0]
    have K := ih (i + 1) g (v ||| (u.2.2.2.2.1 pos <<< (((8 : Int32) * Int32.ofNat i) &&& 31))) (su u (pos + 1)) (sx x (pos + 1)) (pos + 1) (by omega) D1 (by omega) (fun j hj => by
      rw [show pos + 1 + j = pos + (j + 1) by omega]; exact nz (j + 1) (by omega)) y o z
    rw [sx_sx, show pos + 1 + r = pos + (r + 1) by omega] at K
    simp only [mM_text_39, or_true, not_true, if_false, hp_188_31, Option.bind_some, n_succ, gup_same e31]
    exact K
theorem r_textL0 {l : Nat} (hl : l ≤ 4) : ∀ (r i g : Nat) (v : Int32) (u : gU) (x : gX) (pos : Nat), i + r = l → gD n0 f q m N pos u x → ¬ (pos + r ≤ m ∧ ∀ j, j < r → ¬ u.2.2.2.2.1 (pos + j) = 0) → ∃ v' s, s 31 = 0 ∧ gKs x.2.1 s ∧ ∀ y o z, mM_text_10 (g + r + 1) (some 188) (Int32.ofNat l) v (Int32.ofNat i) (gH y x o z) = some (v', gH y ((x.1, s, x.2.2.1, x.2.2.2.1, x.2.2.2.2.1, x.2.2.2.2.2.1, x.2.2.2.2.2.2.1, x.2.2.2.2.2.2.2.1, x.2.2.2.2.2.2.2.2.1, x.2.2.2.2.2.2.2.2.2.1, x.2.2.2.2.2.2.2.2.2.2.1, x.2.2.2.2.2.2.2.2.2.2.2.1, x.2.2.2.2.2.2.2.2.2.2.2.2.1, x.2.2.2.2.2.2.2.2.2.2.2.2.2.1, x.2.2.2.2.2.2.2.2.2.2.2.2.2.2.1, x.2.2.2.2.2.2.2.2.2.2.2.2.2.2.2) : gX) o z) := by
  intro r
  induction r with
  | zero =>
    intro i g v u x pos e D c
    exact absurd ⟨D.hp, fun j hj => by omega⟩ c
  | succ r ih =>
    intro i g v u x pos e D c
    by_cases p : pos < m
    · have e31 : (sx x (pos + 1)).2.1 31 = 1 := D.gg
      have D1 : gD n0 f q m N (pos + 1) (su u (pos + 1)) (sx x (pos + 1)) := gD_s D (by omega)
      have ks : gKs x.2.1 (sx x (pos + 1)).2.1 := fun j hj => gup_ne (by omega)
      by_cases z0 : u.2.2.2.2.1 pos = 0
      · obtain ⟨v', s', t1, t2, t3⟩ := r_textDead hl r (i + 1) g (v ||| (u.2.2.2.2.1 pos <<< (((8 : Int32) * Int32.ofNat i) &&& 31))) (((sx x (pos + 1)).1, gup (sx x (pos + 1)).2.1 31 0, (sx x (pos + 1)).2.2.1, (sx x (pos + 1)).2.2.2.1, (sx x (pos + 1)).2.2.2.2.1, (sx x (pos + 1)).2.2.2.2.2.1, (sx x (pos + 1)).2.2.2.2.2.2.1, (sx x (pos + 1)).2.2.2.2.2.2.2.1, (sx x (pos + 1)).2.2.2.2.2.2.2.2.1, (sx x (pos + 1)).2.2.2.2.2.2.2.2.2.1, (sx x (pos + 1)).2.2.2.2.2.2.2.2.2.2.1, (sx x (pos + 1)).2.2.2.2.2.2.2.2.2.2.2.1, (sx x (pos + 1)).2.2.2.2.2.2.2.2.2.2.2.2.1, (sx x (pos + 1)).2.2.2.2.2.2.2.2.2.2.2.2.2.1, (sx x (pos + 1)).2.2.2.2.2.2.2.2.2.2.2.2.2.2.1, (sx x (pos + 1)).2.2.2.2.2.2.2.2.2.2.2.2.2.2.2) : gX) (by omega) rfl
        refine ⟨v', s', t1, gKs_trans ks (gKs_trans (fun j hj => gup_ne (by omega)) t2), fun y o z => ?_⟩
        rw [show g + (r + 1) + 1 = (g + r + 1) + 1 by omega, mM_text_10, if_pos (n_ltl (by omega) (by omega) (by omega)), ho_188, Option.bind_some, r_nx D p, Option.bind_some, hi_188_31, Option.bind_some, if_neg (by rw [e31]; decide), if_pos z0]
        simp only [mM_text_38, mM_text_39, true_or, not_true, if_false, hp_188_31, Option.bind_some, n_succ]
        exact t3 y o z
      · obtain ⟨v', s', t1, t2, t3⟩ := ih (i + 1) g (v ||| (u.2.2.2.2.1 pos <<< (((8 : Int32) * Int32.ofNat i) &&& 31))) (su u (pos + 1)) (sx x (pos + 1)) (pos + 1) (by omega) D1 (fun ⟨a1, a2⟩ => c ⟨by omega, fun j hj => by
          by_cases e : j = 0
          · subst e; exact z0
          · have := a2 (j - 1) (by omega)
            rw [show pos + 1 + (j - 1) = pos + j by omega] at this
            exact this⟩)
        refine ⟨v', s', t1, gKs_trans ks t2, fun y o z => ?_⟩
        rw [show g + (r + 1) + 1 = (g + r + 1) + 1 by omega, mM_text_10, if_pos (n_ltl (by omega) (by omega) (by omega)), ho_188, Option.bind_some, r_nx D p, Option.bind_some, hi_188_31, Option.bind_some, if_neg (by rw [e31]; decide), if_neg z0]
        simp only [mM_text_39, or_true, not_true, if_false, hp_188_31, Option.bind_some, n_succ, gup_same e31]
        exact t3 y o z
    · have e31 : gup (gup x.2.1 31 0) 32 (Int32.ofNat (pos + 1)) 31 = 0 := rfl
      obtain ⟨v', s', t1, t2, t3⟩ := r_textDead hl r (i + 1) g (v ||| ((0 : Int32) <<< (((8 : Int32) * Int32.ofNat i) &&& 31))) ((x.1, gup (gup (gup x.2.1 31 0) 32 (Int32.ofNat (pos + 1))) 31 0, x.2.2.1, x.2.2.2.1, x.2.2.2.2.1, x.2.2.2.2.2.1, x.2.2.2.2.2.2.1, x.2.2.2.2.2.2.2.1, x.2.2.2.2.2.2.2.2.1, x.2.2.2.2.2.2.2.2.2.1, x.2.2.2.2.2.2.2.2.2.2.1, x.2.2.2.2.2.2.2.2.2.2.2.1, x.2.2.2.2.2.2.2.2.2.2.2.2.1, x.2.2.2.2.2.2.2.2.2.2.2.2.2.1, x.2.2.2.2.2.2.2.2.2.2.2.2.2.2.1, x.2.2.2.2.2.2.2.2.2.2.2.2.2.2.2) : gX) (by omega) rfl
      refine ⟨v', s', t1, gKs_trans (fun j hj => by
        show gup (gup (gup x.2.1 31 0) 32 (Int32.ofNat (pos + 1))) 31 0 j = x.2.1 j
        rw [gup_ne (by omega), gup_ne (by omega), gup_ne (by omega)]) t2, fun y o z => ?_⟩
      rw [show g + (r + 1) + 1 = (g + r + 1) + 1 by omega, mM_text_10, if_pos (n_ltl (by omega) (by omega) (by omega)), ho_188, Option.bind_some, r_nx0 D p, Option.bind_some, hi_188_31, Option.bind_some, if_pos e31]
      simp only [mM_text_38, mM_text_39, true_or, not_true, if_false, hp_188_31, Option.bind_some, n_succ]
      exact t3 y o z
/-- a text -/
theorem d_text (D : gD n0 f q m N pos u x) : (∃ v pos' r s, pos' ≤ m ∧ (∀ y o z, cR_readText (some 187) (some 163) (gH u y o z) = some (gH ((u.1, u.2.1, u.2.2.1, u.2.2.2.1, u.2.2.2.2.1, u.2.2.2.2.2.1, u.2.2.2.2.2.2.1, u.2.2.2.2.2.2.2.1, u.2.2.2.2.2.2.2.2.1, u.2.2.2.2.2.2.2.2.2.1, u.2.2.2.2.2.2.2.2.2.2.1, u.2.2.2.2.2.2.2.2.2.2.2.1, r, u.2.2.2.2.2.2.2.2.2.2.2.2.2.1, u.2.2.2.2.2.2.2.2.2.2.2.2.2.2) : gU) y o z)) ∧ (∀ y o z, mM_text (some 188) (gH y x o z) = some (v, gH y ((x.1, s, x.2.2.1, x.2.2.2.1, x.2.2.2.2.1, x.2.2.2.2.2.1, x.2.2.2.2.2.2.1, x.2.2.2.2.2.2.2.1, x.2.2.2.2.2.2.2.2.1, x.2.2.2.2.2.2.2.2.2.1, x.2.2.2.2.2.2.2.2.2.2.1, x.2.2.2.2.2.2.2.2.2.2.2.1, x.2.2.2.2.2.2.2.2.2.2.2.2.1, x.2.2.2.2.2.2.2.2.2.2.2.2.2.1, x.2.2.2.2.2.2.2.2.2.2.2.2.2.2.1, x.2.2.2.2.2.2.2.2.2.2.2.2.2.2.2) : gX) o z)) ∧ r 0 = Int32.ofNat pos' ∧ r 1 = 0 ∧ r 2 = 5 ∧ r 3 = v ∧ r 4 = u.2.2.2.2.2.2.2.2.2.2.2.2.1 4 ∧ r 5 = u.2.2.2.2.2.2.2.2.2.2.2.2.1 5 ∧ r 6 = u.2.2.2.2.2.2.2.2.2.2.2.2.1 6 ∧ s 31 = 1 ∧ s 32 = Int32.ofNat pos' ∧ s 33 = x.2.1 33 ∧ gKs x.2.1 s) ∨ ∃ v r s, (∀ y o z, cR_readText (some 187) (some 163) (gH u y o z) = some (gH ((u.1, u.2.1, u.2.2.1, u.2.2.2.1, u.2.2.2.2.1, u.2.2.2.2.2.1, u.2.2.2.2.2.2.1, u.2.2.2.2.2.2.2.1, u.2.2.2.2.2.2.2.2.1, u.2.2.2.2.2.2.2.2.2.1, u.2.2.2.2.2.2.2.2.2.2.1, u.2.2.2.2.2.2.2.2.2.2.2.1, r, u.2.2.2.2.2.2.2.2.2.2.2.2.2.1, u.2.2.2.2.2.2.2.2.2.2.2.2.2.2) : gU) y o z)) ∧ (∀ y o z, mM_text (some 188) (gH y x o z) = some (v, gH y ((x.1, s, x.2.2.1, x.2.2.2.1, x.2.2.2.2.1, x.2.2.2.2.2.1, x.2.2.2.2.2.2.1, x.2.2.2.2.2.2.2.1, x.2.2.2.2.2.2.2.2.1, x.2.2.2.2.2.2.2.2.2.1, x.2.2.2.2.2.2.2.2.2.2.1, x.2.2.2.2.2.2.2.2.2.2.2.1, x.2.2.2.2.2.2.2.2.2.2.2.2.1, x.2.2.2.2.2.2.2.2.2.2.2.2.2.1, x.2.2.2.2.2.2.2.2.2.2.2.2.2.2.1, x.2.2.2.2.2.2.2.2.2.2.2.2.2.2.2) : gX) o z)) ∧ r 1 = 1 ∧ s 31 = 0 ∧ gKs x.2.1 s := by
  have hm := D.hm
  by_cases c : pos < m ∧ ∃ j, j ≤ 4 ∧ u.2.2.2.2.1 pos = Int32.ofNat j
  · obtain ⟨p, l, hl, e⟩ := c
    have D1 : gD n0 f q m N (pos + 1) (su u (pos + 1)) (sx x (pos + 1)) := gD_s D (by omega)
    have a1 := k_up (t := 4) D p hl (by omega) e
    have a2 := r_up (t := 4) D p hl (by omega) e
    have ks : gKs x.2.1 (sx x (pos + 1)).2.1 := fun j hj => gup_ne (by omega)
    obtain ⟨G, hG⟩ : ∃ G, 1000000000000000 = G + l + 1 := ⟨999999999999999 - l, by omega⟩
    by_cases c2 : pos + 1 + l ≤ m
    · have b1 := k_word (l := l) (by omega) D1 c2
      rw [su_su] at b1
      have hb : ∀ j, j < l → ∃ t, t < 256 ∧ u.2.2.2.2.1 (pos + 1 + j) = Int32.ofNat t := fun j hj => D.b8 _ (by omega)
      obtain ⟨_, w1⟩ := gwd_byte (b := u.2.2.2.2.1) l 0 (pos + 1) 0 (by omega) hb gLow0
      obtain ⟨w, k1, k2⟩ := k_chkL (l := l) (v := Int64.toInt32 (gwd u.2.2.2.2.1 l 0 (pos + 1) 0)) hl l 0 G (su u (pos + 1 + l)) (by omega)
      have cl : ∀ y o z, cR_readText (some 187) (some 163) (gH u y o z) = some (gH ((u.1, u.2.1, u.2.2.1, u.2.2.2.1, u.2.2.2.2.1, u.2.2.2.2.2.1, u.2.2.2.2.2.2.1, u.2.2.2.2.2.2.2.1, u.2.2.2.2.2.2.2.2.1, u.2.2.2.2.2.2.2.2.2.1, u.2.2.2.2.2.2.2.2.2.2.1, u.2.2.2.2.2.2.2.2.2.2.2.1, gup (gup (gup (su u (pos + 1 + l)).2.2.2.2.2.2.2.2.2.2.2.2.1 1 w) 2 5) 3 (Int64.toInt32 (gwd u.2.2.2.2.1 l 0 (pos + 1) 0)), u.2.2.2.2.2.2.2.2.2.2.2.2.2.1, u.2.2.2.2.2.2.2.2.2.2.2.2.2.2) : gU) y o z) := by
        intro y o z
        unfold cR_readText
        rw [hG, ho_187, Option.bind_some, show (4 : Int32) = Int32.ofNat 4 from rfl, a1, Option.bind_some, ho_187, Option.bind_some]
        show ((cR_nextWord (some 187) (some 163) (Int32.ofNat l) (gH (su u (pos + 1)) y o z)).bind _) = _
        rw [b1, Option.bind_some]
        exact k1 y o z
      have by0 : ∀ j, j < l → gt_w (Int32.toInt64 (Int64.toInt32 (gwd u.2.2.2.2.1 l 0 (pos + 1) 0))) j = u.2.2.2.2.1 (pos + 1 + j) := fun j hj => by
        rw [gt_w32 (by omega)]
        have := w1 j hj
        rw [Nat.zero_add] at this
        exact this
      by_cases nz : ∀ j, j < l → ¬ u.2.2.2.2.1 (pos + 1 + j) = 0
      · have tl := r_textL hl l 0 G 0 (su u (pos + 1)) (sx x (pos + 1)) (pos + 1) (by omega) D1 c2 nz
        rw [sx_sx] at tl
        have w0 : w = 0 := by
          rcases k2 with ⟨h1, _⟩ | ⟨_, h2 | ⟨j, _, h3, h4⟩⟩
          · exact h1.trans D.wr
          · exact absurd (D.wr.symm.trans h2) (by decide)
          · exact absurd ((by0 j h3).symm.trans h4) (nz j h3)
        refine Or.inl ⟨gw32 u.2.2.2.2.1 l 0 (pos + 1) 0, pos + 1 + l, _, (sx x (pos + 1 + l)).2.1, c2, cl, fun y o z => ?_, rfl, w0, rfl, gwd_32 l 0 (pos + 1) 0 (by omega) hb, rfl, rfl, rfl, D.gg, rfl, rfl, fun j hj => gup_ne (v := Int32.ofNat (pos + 1 + l)) (by omega)⟩
        unfold mM_text
        rw [hG, ho_188, Option.bind_some, show (4 : Int32) = Int32.ofNat 4 from rfl, a2, Option.bind_some]
        exact tl y o z
      · obtain ⟨v', s', t1, t2, t3⟩ := r_textL0 hl l 0 G 0 (su u (pos + 1)) (sx x (pos + 1)) (pos + 1) (by omega) D1 (fun h => nz h.2)
        refine Or.inr ⟨v', _, s', cl, fun y o z => ?_, ?_, t1, gKs_trans ks t2⟩
        · unfold mM_text
          rw [hG, ho_188, Option.bind_some, show (4 : Int32) = Int32.ofNat 4 from rfl, a2, Option.bind_some]
          exact t3 y o z
        · show w = 1
          rcases k2 with ⟨_, h2⟩ | h2
          · exact absurd (fun j hj => fun q => h2 j (by omega) hj ((by0 j hj).trans q)) nz
          · exact h2.1
    · obtain ⟨S', r', h1, h2⟩ := k_word0 (l := l) (by omega) D1 c2
      obtain ⟨w, k1, k2⟩ := k_chkL (l := l) (v := Int64.toInt32 S') hl l 0 G (((su u (pos + 1)).1, (su u (pos + 1)).2.1, (su u (pos + 1)).2.2.1, (su u (pos + 1)).2.2.2.1, (su u (pos + 1)).2.2.2.2.1, (su u (pos + 1)).2.2.2.2.2.1, (su u (pos + 1)).2.2.2.2.2.2.1, (su u (pos + 1)).2.2.2.2.2.2.2.1, (su u (pos + 1)).2.2.2.2.2.2.2.2.1, (su u (pos + 1)).2.2.2.2.2.2.2.2.2.1, (su u (pos + 1)).2.2.2.2.2.2.2.2.2.2.1, (su u (pos + 1)).2.2.2.2.2.2.2.2.2.2.2.1, r', (su u (pos + 1)).2.2.2.2.2.2.2.2.2.2.2.2.2.1, (su u (pos + 1)).2.2.2.2.2.2.2.2.2.2.2.2.2.2) : gU) (by omega)
      obtain ⟨v', s', t1, t2, t3⟩ := r_textL0 hl l 0 G 0 (su u (pos + 1)) (sx x (pos + 1)) (pos + 1) (by omega) D1 (fun h => c2 h.1)
      refine Or.inr ⟨v', gup (gup (gup r' 1 w) 2 5) 3 (Int64.toInt32 S'), s', fun y o z => ?_, fun y o z => ?_, ?_, t1, gKs_trans ks t2⟩
      · unfold cR_readText
        rw [hG, ho_187, Option.bind_some, show (4 : Int32) = Int32.ofNat 4 from rfl, a1, Option.bind_some, ho_187, Option.bind_some]
        show ((cR_nextWord (some 187) (some 163) (Int32.ofNat l) (gH (su u (pos + 1)) y o z)).bind _) = _
        rw [h2, Option.bind_some]
        exact k1 y o z
      · unfold mM_text
        rw [hG, ho_188, Option.bind_some, show (4 : Int32) = Int32.ofNat 4 from rfl, a2, Option.bind_some]
        exact t3 y o z
      · show w = 1
        rcases k2 with h | h
        · exact h.1.trans h1
        · exact h.1
  · obtain ⟨r1, r2, a1⟩ := k_up0 (t := 4) D (by omega) c
    obtain ⟨s1, s2, s3, a2⟩ := r_up0 (t := 4) D (by omega) c
    obtain ⟨G, hG⟩ : ∃ G, 1000000000000000 = G + 0 + 1 := ⟨999999999999999, rfl⟩
    obtain ⟨S', b1⟩ := k_wordD (u := ((u.1, u.2.1, u.2.2.1, u.2.2.2.1, u.2.2.2.2.1, u.2.2.2.2.2.1, u.2.2.2.2.2.2.1, u.2.2.2.2.2.2.2.1, u.2.2.2.2.2.2.2.2.1, u.2.2.2.2.2.2.2.2.2.1, u.2.2.2.2.2.2.2.2.2.2.1, u.2.2.2.2.2.2.2.2.2.2.2.1, r1, u.2.2.2.2.2.2.2.2.2.2.2.2.2.1, u.2.2.2.2.2.2.2.2.2.2.2.2.2.2) : gU)) (l := 0) (by omega) r2
    obtain ⟨w, k1, k2⟩ := k_chkL (l := 0) (v := Int64.toInt32 S') (by omega) 0 0 G ((u.1, u.2.1, u.2.2.1, u.2.2.2.1, u.2.2.2.2.1, u.2.2.2.2.2.1, u.2.2.2.2.2.2.1, u.2.2.2.2.2.2.2.1, u.2.2.2.2.2.2.2.2.1, u.2.2.2.2.2.2.2.2.2.1, u.2.2.2.2.2.2.2.2.2.2.1, u.2.2.2.2.2.2.2.2.2.2.2.1, r1, u.2.2.2.2.2.2.2.2.2.2.2.2.2.1, u.2.2.2.2.2.2.2.2.2.2.2.2.2.2) : gU) (by omega)
    refine Or.inr ⟨0, gup (gup (gup r1 1 w) 2 5) 3 (Int64.toInt32 S'), s1, fun y o z => ?_, fun y o z => ?_, ?_, s2, s3⟩
    · unfold cR_readText
      rw [hG, ho_187, Option.bind_some, show (4 : Int32) = Int32.ofNat 4 from rfl, a1, Option.bind_some, ho_187, Option.bind_some]
      show ((cR_nextWord (some 187) (some 163) (Int32.ofNat 0) (gH ((u.1, u.2.1, u.2.2.1, u.2.2.2.1, u.2.2.2.2.1, u.2.2.2.2.2.1, u.2.2.2.2.2.2.1, u.2.2.2.2.2.2.2.1, u.2.2.2.2.2.2.2.2.1, u.2.2.2.2.2.2.2.2.2.1, u.2.2.2.2.2.2.2.2.2.2.1, u.2.2.2.2.2.2.2.2.2.2.2.1, r1, u.2.2.2.2.2.2.2.2.2.2.2.2.2.1, u.2.2.2.2.2.2.2.2.2.2.2.2.2.2) : gU) y o z)).bind _) = _
      rw [b1, Option.bind_some]
      exact k1 y o z
    · unfold mM_text
      rw [hG, ho_188, Option.bind_some, show (4 : Int32) = Int32.ofNat 4 from rfl, a2, Option.bind_some, mM_text_10]
      exact if_neg (show ¬ (0 : Int32) < 0 by decide)
    · show w = 1
      rcases k2 with h | h
      · exact h.1.trans r2
      · exact h.1
end H
