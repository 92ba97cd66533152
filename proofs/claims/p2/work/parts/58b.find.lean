theorem n_34 {k : Int32} : (3 < k) ↔ ¬ k < 4 := by
  rw [Int32.lt_iff_toInt_lt, Int32.lt_iff_toInt_lt]
  have a1 : (4 : Int32).toInt = 4 := rfl
  have a0 : (3 : Int32).toInt = 3 := rfl
  omega
theorem n_78 {k : Int32} : (7 < k) ↔ ¬ k < 8 := by
  rw [Int32.lt_iff_toInt_lt, Int32.lt_iff_toInt_lt]
  have a1 : (8 : Int32).toInt = 8 := rfl
  have a0 : (7 : Int32).toInt = 7 := rfl
  omega
/-- the number that counts -/
def gcn (k v : Int32) : Int32 := if k < 4 then 0 else v
theorem k_cn {k v : Int32} : cG_countedNumber k v = some (gcn k v) := by
  unfold cG_countedNumber gcn
  by_cases c : k < 4
  · rw [if_pos c, if_neg (fun q => n_34.mp q c)]
  · rw [if_neg c, if_pos (n_34.mpr c)]
theorem r_no {k v : Int32} : mM_numberOf k v = some (gcn k v) := by
  unfold mM_numberOf gcn
  by_cases c : k < 4
  · rw [if_pos c, if_pos c]
  · rw [if_neg c, if_neg c]
/-- the first place from i on, of m, that does -/
def gfi (P : Nat → Bool) : Nat → Nat → Option Nat
  | 0, _ => none
  | m + 1, i => if P i = true then some i else gfi P m (i + 1)
def gio : Option Nat → Int32
  | none => -1
  | some j => Int32.ofNat j
theorem gfi_some {P : Nat → Bool} : ∀ (m i j : Nat), gfi P m i = some j → i ≤ j ∧ j < i + m ∧ P j = true ∧ ∀ t, i ≤ t → t < j → P t = false := by
  intro m
  induction m with
  | zero => intro i j h; cases h
  | succ m ih =>
    intro i j h
    unfold gfi at h
    by_cases c : P i = true
    · rw [if_pos c] at h
      cases h
      exact ⟨by omega, by omega, c, fun t h1 h2 => by omega⟩
    · rw [if_neg c] at h
      obtain ⟨h1, h2, h3, h4⟩ := ih (i + 1) j h
      refine ⟨by omega, by omega, h3, fun t h5 h6 => ?_⟩
      by_cases e : t = i
      · subst e; simpa using c
      · exact h4 t (by omega) h6
theorem gfi_none {P : Nat → Bool} : ∀ (m i : Nat), gfi P m i = none → ∀ t, i ≤ t → t < i + m → P t = false := by
  intro m
  induction m with
  | zero => intro i _ t h1 h2; omega
  | succ m ih =>
    intro i h t h1 h2
    unfold gfi at h
    by_cases c : P i = true
    · rw [if_pos c] at h; cases h
    · rw [if_neg c] at h
      by_cases e : t = i
      · subst e; simpa using c
      · exact ih (i + 1) h t (by omega) (by omega)
theorem gfi_congr {P Q : Nat → Bool} : ∀ (m i : Nat), (∀ t, i ≤ t → t < i + m → P t = Q t) → gfi P m i = gfi Q m i := by
  intro m
  induction m with
  | zero => intro i _; rfl
  | succ m ih =>
    intro i h
    unfold gfi
    rw [h i (by omega) (by omega), ih (i + 1) (fun t h1 h2 => h t (by omega) (by omega))]
theorem gcap8 {s c : Nat} (h : c ≤ gcap s) : c ≤ 8 := by
  unfold gcap at h
  revert h
  repeat' split
  all_goals omega
section H
variable {u : gU} {x : gX} {o : Nat → Int64} {z : gx_H}
theorem k_indexL {k c : Nat} {a b : Int32} (hk : k < 32) (hc : (u.1 k).2.2.2.2.1 5 = Int32.ofNat c) (h8 : c ≤ 8) : ∀ (m i f : Nat), i + m = c → cT_indexOfKey_2 (f + m + 1) (some (3 + 5 * k)) a b (Int32.ofNat i) (gH u x o z) = some (gio (gfi (fun i => decide ((u.1 k).1 i = a ∧ (u.1 k).2.1 i = b)) m i)) := by
  intro m
  induction m with
  | zero =>
    intro i f h
    rw [cT_indexOfKey_2, hiT_5 hk, Option.bind_some, hc, if_neg (n_nltl (by omega) (by omega) (by omega))]
    rfl
  | succ m ih =>
    intro i f h
    have i8 : i < 8 := by omega
    rw [show f + (m + 1) + 1 = (f + m + 1) + 1 by omega, cT_indexOfKey_2, hiT_5 hk, Option.bind_some, hc, if_pos (n_ltl (by omega) (by omega) (by omega)), gfi]
    simp only [hrT_0 hk, hrT_1 hk, haT_1 hk i8, haT_2 hk i8, Option.bind_some, cT_indexOfKey_32, n_succ, ih (i + 1) f (by omega)]
    by_cases c1 : (u.1 k).1 i = a
    · by_cases c2 : (u.1 k).2.1 i = b
      · simp [c1, c2, gio]
      · simp [c1, c2]
    · simp [c1]
theorem k_index {k c : Nat} {a b : Int32} (hk : k < 32) (hc : (u.1 k).2.2.2.2.1 5 = Int32.ofNat c) (h8 : c ≤ 8) : cT_indexOfKey (some (3 + 5 * k)) a b (gH u x o z) = some (gio (gfi (fun i => decide ((u.1 k).1 i = a ∧ (u.1 k).2.1 i = b)) c 0)) := by
  have := k_indexL (x := x) (o := o) (z := z) (a := a) (b := b) hk hc h8 c 0 (1000000000000000 - c - 1) (by omega)
  rw [show 1000000000000000 - c - 1 + c + 1 = 1000000000000000 by omega] at this
  exact this
/-- the place of a key in the reference's row -/
def gis (k : Nat) : Option Nat → Int32
  | none => -1
  | some j => Int32.ofNat (8 * k + j)
theorem r_slotL {k c : Nat} {b : Int32} (hk : k < 32) (hc : (x.1 k).2.2.2.2.2.1 = Int32.ofNat c) (h8 : c ≤ 8) : ∀ (m i f : Nat), i + m = c → mM_slotOf_2 (f + m + 1) (some 188) (Int32.ofNat k) b (Int32.ofNat i) (gH u x o z) = some (gis k (gfi (fun i => decide ((x.1 k).2.1 i = b)) m i)) := by
  intro m
  induction m with
  | zero =>
    intro i f h
    rw [mM_slotOf_2, hr_188_3, Option.bind_some, ha_190 hk, Option.bind_some, hc, if_neg (n_nltl (by omega) (by omega) (by omega))]
    rfl
  | succ m ih =>
    intro i f h
    have i8 : i < 8 := by omega
    rw [show f + (m + 1) + 1 = (f + m + 1) + 1 by omega, mM_slotOf_2, hr_188_3, Option.bind_some, ha_190 hk, Option.bind_some, hc, if_pos (n_ltl (by omega) (by omega) (by omega)), gfi]
    simp only [hr_188_6, n_8, ha_193 hk i8, Option.bind_some, n_succ, ih (i + 1) f (by omega)]
    by_cases c2 : (x.1 k).2.1 i = b
    · simp [c2, gis]
    · simp [c2]
theorem r_slot {k c : Nat} {b : Int32} (hk : k < 32) (hc : (x.1 k).2.2.2.2.2.1 = Int32.ofNat c) (h8 : c ≤ 8) : mM_slotOf (some 188) (Int32.ofNat k) b (gH u x o z) = some (gis k (gfi (fun i => decide ((x.1 k).2.1 i = b)) c 0)) := by
  have := r_slotL (u := u) (o := o) (z := z) (b := b) hk hc h8 c 0 (1000000000000000 - c - 1) (by omega)
  rw [show 1000000000000000 - c - 1 + c + 1 = 1000000000000000 by omega] at this
  exact this
theorem k_hasL {k c : Nat} {a b : Int32} (hk : k < 32) (hc : (u.1 k).2.2.2.2.1 5 = Int32.ofNat c) (h8 : c ≤ 8) : ∀ (m i f : Nat), i + m = c → cT_hasMember_2 (f + m + 1) (some (3 + 5 * k)) a b (Int32.ofNat i) (gH u x o z) = some (if (gfi (fun i => decide ((u.1 k).2.2.1 i = a ∧ (u.1 k).2.2.2.1 i = b)) m i).isSome then 1 else 0) := by
  intro m
  induction m with
  | zero =>
    intro i f h
    rw [cT_hasMember_2, hiT_5 hk, Option.bind_some, hc, if_neg (n_nltl (by omega) (by omega) (by omega))]
    rfl
  | succ m ih =>
    intro i f h
    have i8 : i < 8 := by omega
    rw [show f + (m + 1) + 1 = (f + m + 1) + 1 by omega, cT_hasMember_2, hiT_5 hk, Option.bind_some, hc, if_pos (n_ltl (by omega) (by omega) (by omega)), gfi]
    simp only [hrT_2 hk, hrT_3 hk, haT_3 hk i8, haT_4 hk i8, Option.bind_some, cT_hasMember_32, n_succ, ih (i + 1) f (by omega)]
    by_cases c1 : (u.1 k).2.2.1 i = a
    · by_cases c2 : (u.1 k).2.2.2.1 i = b
      · simp [c1, c2]
      · simp [c1, c2]
    · simp [c1]
theorem k_has {k c : Nat} {a b : Int32} (hk : k < 32) (hc : (u.1 k).2.2.2.2.1 5 = Int32.ofNat c) (h8 : c ≤ 8) : cT_hasMember (some (3 + 5 * k)) a b (gH u x o z) = some (if (gfi (fun i => decide ((u.1 k).2.2.1 i = a ∧ (u.1 k).2.2.2.1 i = b)) c 0).isSome then 1 else 0) := by
  have := k_hasL (x := x) (o := o) (z := z) (a := a) (b := b) hk hc h8 c 0 (1000000000000000 - c - 1) (by omega)
  rw [show 1000000000000000 - c - 1 + c + 1 = 1000000000000000 by omega] at this
  exact this
theorem r_hasL1 {k c : Nat} {a b : Int32} (hk : k < 32) (hc : (x.1 k).2.2.2.2.2.1 = Int32.ofNat c) (h8 : c ≤ 8) : ∀ (m i f : Nat), i + m = c → mM_hasMember_6 (f + m + 1) (some 188) (Int32.ofNat k) a b 1 (Int32.ofNat i) (gH u x o z) = some 1 := by
  intro m
  induction m with
  | zero =>
    intro i f h
    rw [mM_hasMember_6, hr_188_3, Option.bind_some, ha_190 hk, Option.bind_some, hc, if_neg (n_nltl (by omega) (by omega) (by omega))]
    rfl
  | succ m ih =>
    intro i f h
    rw [show f + (m + 1) + 1 = (f + m + 1) + 1 by omega, mM_hasMember_6, hr_188_3, Option.bind_some, ha_190 hk, Option.bind_some, hc, if_pos (n_ltl (by omega) (by omega) (by omega)), if_neg (by decide)]
    simp only [mM_hasMember_58, mM_hasMember_63, n_succ, ih (i + 1) f (by omega)]
theorem r_hasL {k c : Nat} {a b : Int32} (hk : k < 32) (hc : (x.1 k).2.2.2.2.2.1 = Int32.ofNat c) (h8 : c ≤ 8) : ∀ (m i f : Nat), i + m = c → mM_hasMember_6 (f + m + 1) (some 188) (Int32.ofNat k) a b 0 (Int32.ofNat i) (gH u x o z) = some (if (gfi (fun i => decide ((x.1 k).2.2.1 i = a ∧ (x.1 k).2.2.2.1 i = gcn a b)) m i).isSome then 1 else 0) := by
  intro m
  induction m with
  | zero =>
    intro i f h
    rw [mM_hasMember_6, hr_188_3, Option.bind_some, ha_190 hk, Option.bind_some, hc, if_neg (n_nltl (by omega) (by omega) (by omega))]
    rfl
  | succ m ih =>
    intro i f h
    have i8 : i < 8 := by omega
    rw [show f + (m + 1) + 1 = (f + m + 1) + 1 by omega, mM_hasMember_6, hr_188_3, Option.bind_some, ha_190 hk, Option.bind_some, hc, if_pos (n_ltl (by omega) (by omega) (by omega)), if_pos rfl, gfi]
    simp only [hr_188_8, hr_188_9, n_8, ha_195 hk i8, ha_196 hk i8, r_no, Option.bind_some, mM_hasMember_58, mM_hasMember_62, mM_hasMember_63, n_succ, ih (i + 1) f (by omega), r_hasL1 hk hc h8 m (i + 1) f (by omega)]
    by_cases c1 : (x.1 k).2.2.1 i = a
    · by_cases c2 : (x.1 k).2.2.2.1 i = gcn a b
      · simp [c1, c2]
      · simp [c1, c2]
    · simp [c1]
theorem r_has {k c : Nat} {a b : Int32} (hk : k < 32) (hc : (x.1 k).2.2.2.2.2.1 = Int32.ofNat c) (h8 : c ≤ 8) : mM_hasMember (some 188) (Int32.ofNat k) a b (gH u x o z) = some (if (gfi (fun i => decide ((x.1 k).2.2.1 i = a ∧ (x.1 k).2.2.2.1 i = gcn a b)) c 0).isSome then 1 else 0) := by
  have := r_hasL (u := u) (o := o) (z := z) (a := a) (b := b) hk hc h8 c 0 (1000000000000000 - c - 1) (by omega)
  rw [show 1000000000000000 - c - 1 + c + 1 = 1000000000000000 by omega] at this
  exact this
theorem r_entL {k c : Nat} {a b : Int32} (hk : k < 32) (hc : (x.1 k).2.2.2.2.2.1 = Int32.ofNat c) (h8 : c ≤ 8) : ∀ (m i f : Nat), i + m = c → mM_entryOf_3 (f + m + 1) (some 188) (Int32.ofNat k) a b (Int32.ofNat i) (gH u x o z) = some (gio (gfi (fun i => decide ((x.1 k).1 i = a ∧ (x.1 k).2.1 i = gcn a b)) m i)) := by
  intro m
  induction m with
  | zero =>
    intro i f h
    rw [mM_entryOf_3, hr_188_3, Option.bind_some, ha_190 hk, Option.bind_some, hc, if_neg (n_nltl (by omega) (by omega) (by omega))]
    rfl
  | succ m ih =>
    intro i f h
    have i8 : i < 8 := by omega
    rw [show f + (m + 1) + 1 = (f + m + 1) + 1 by omega, mM_entryOf_3, hr_188_3, Option.bind_some, ha_190 hk, Option.bind_some, hc, if_pos (n_ltl (by omega) (by omega) (by omega)), gfi]
    simp only [hr_188_6, hr_188_7, n_8, ha_193 hk i8, ha_194 hk i8, r_no, Option.bind_some, mM_entryOf_53, n_succ, ih (i + 1) f (by omega)]
    by_cases c1 : (x.1 k).1 i = a
    · by_cases c2 : (x.1 k).2.1 i = gcn a b
      · simp [c1, c2, gio]
      · simp [c1, c2]
    · simp [c1]
theorem r_ent {k c : Nat} {a b : Int32} (hk : k < 32) (hc : (x.1 k).2.2.2.2.2.1 = Int32.ofNat c) (h8 : c ≤ 8) : mM_entryOf (some 188) (Int32.ofNat k) a b (gH u x o z) = some (gio (gfi (fun i => decide ((x.1 k).1 i = a ∧ (x.1 k).2.1 i = gcn a b)) c 0)) := by
  have := r_entL (u := u) (o := o) (z := z) (a := a) (b := b) hk hc h8 c 0 (1000000000000000 - c - 1) (by omega)
  rw [show 1000000000000000 - c - 1 + c + 1 = 1000000000000000 by omega] at this
  exact this
/-- values: both sides agree -/
theorem gt_T_z {a b c d : Int32} : gt_T a b c d = 0 ∨ gt_T a b c d = 1 := by
  unfold gt_T
  split
  · exact Or.inl rfl
  · exact Or.inr rfl
theorem v_eq {n : Nat} {k v : Int32} (hu : u.2.2.1 1 = Int32.ofNat n) (hx : x.2.1 1 = Int32.ofNat n) (hn : n ≤ 32) : ∃ r, (r = 0 ∨ r = 1) ∧ (∀ y o z, cS_isValue (some 1) k v (gH u y o z) = some r) ∧ (∀ y o z, mM_isValue (some 188) k v (gH y x o z) = some r) ∧ (r = 1 → ∃ j, j < 8 ∧ k = Int32.ofNat j ∧ (j = 6 → ∃ b, b < n ∧ v = Int32.ofNat b)) := by
  have d10 : ¬ (1 : Int32) = 0 := by decide
  unfold cS_isValue mM_isValue mM_isValue_22
  by_cases c0 : k < 0
  · exact ⟨0, Or.inl rfl, fun y o z => by rw [if_pos c0], fun y o z => by rw [if_pos c0], fun q => absurd q (by decide)⟩
  · by_cases c8 : k < 8
    · have c7 : ¬ 7 < k := fun q => n_78.mp q c8
      obtain ⟨j, hj, rfl⟩ := n_of (m := 8) c0 c8 (by omega)
      obtain ⟨_, e6, _, _, _, _, _, _, e5⟩ := n_s6 j hj
      by_cases c5 : j = 5
      · have c6 : ¬ j = 6 := by omega
        rcases gt_T_z (a := gt_b v 0) (b := gt_b v 1) (c := gt_b v 2) (d := gt_b v 3) with t | t
        · refine ⟨0, Or.inl rfl, fun y o z => ?_, fun y o z => ?_, fun q => absurd q (by decide)⟩
          · simp only [if_neg c0, if_neg c7, e5, if_pos c5, c_isText, t, Option.bind_some]
            simp
          · simp only [if_neg c0, if_pos c8, e5, if_pos c5, m_isText, t, Option.bind_some, if_true]
        · refine ⟨1, Or.inr rfl, fun y o z => ?_, fun y o z => ?_, fun q => ⟨j, hj, rfl, fun q => absurd q c6⟩⟩
          · simp only [if_neg c0, if_neg c7, e5, if_pos c5, c_isText, t, Option.bind_some]
            simp
          · simp only [if_neg c0, if_pos c8, e5, if_pos c5, m_isText, t, Option.bind_some, if_neg d10, e6, if_neg c6]
      · by_cases c6 : j = 6
        · rcases g_ob v n (by omega) with c | ⟨b, hb, rfl⟩
          · refine ⟨0, Or.inl rfl, fun y o z => ?_, fun y o z => ?_, fun q => absurd q (by decide)⟩
            · simp only [if_neg c0, if_neg c7, e5, if_neg c5, e6, if_pos c6, hi_1_1, hu, Option.bind_some]
              by_cases v0 : v < 0
              · rw [if_pos v0]
              · rw [if_neg v0, if_neg (by rcases c with h | h; exact absurd h v0; exact h)]
            · simp only [if_neg c0, if_pos c8, e5, if_neg c5, e6, if_pos c6, ho_188, Option.bind_some, r_oout hx c, if_true]
          · refine ⟨1, Or.inr rfl, fun y o z => ?_, fun y o z => ?_, fun q => ⟨j, hj, rfl, fun _ => ⟨b, hb, rfl⟩⟩⟩
            · simp only [if_neg c0, if_neg c7, e5, if_neg c5, e6, if_pos c6, hi_1_1, hu, Option.bind_some, if_neg (n_nn (n := b) (by omega)), if_pos (n_ltl (n := b) (m := n) (by omega) (by omega) hb)]
            · simp only [if_neg c0, if_pos c8, e5, if_neg c5, e6, if_pos c6, ho_188, Option.bind_some, r_oin hx hn hb, if_neg d10]
        · refine ⟨1, Or.inr rfl, fun y o z => ?_, fun y o z => ?_, fun q => ⟨j, hj, rfl, fun q => absurd q c6⟩⟩
          · simp only [if_neg c0, if_neg c7, e5, if_neg c5, e6, if_neg c6]
          · simp only [if_neg c0, if_pos c8, e5, if_neg c5, e6, if_neg c6]
    · have c7 : 7 < k := n_78.mpr c8
      exact ⟨0, Or.inl rfl, fun y o z => by rw [if_neg c0, if_pos c7], fun y o z => by rw [if_neg c0, if_neg c8], fun q => absurd q (by decide)⟩
end H
