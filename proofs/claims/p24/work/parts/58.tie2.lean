section
/-! texts, small numbers, searching -/
section F
def gt_b (v : Int32) (k : Int32) : Int32 := (v >>> ((8 * k) &&& 31)) &&& 255
def gt_T (a b c d : Int32) : Int32 := if (a = 0 ∧ ¬ b = 0) ∨ (b = 0 ∧ ¬ c = 0) ∨ (c = 0 ∧ ¬ d = 0) then 0 else 1
theorem m_isText {v : Int32} : mM_isText v = some (gt_T (gt_b v 0) (gt_b v 1) (gt_b v 2) (gt_b v 3)) := by
  unfold mM_isText
  by_cases c0 : gt_b v 0 = 0 <;> by_cases c1 : gt_b v 1 = 0 <;> by_cases c2 : gt_b v 2 = 0 <;> by_cases c3 : gt_b v 3 = 0 <;>
    (simp only [gt_T, c0, c1, c2, c3]
     unfold gt_b at c0 c1 c2 c3
     simp at c0 c1 c2 c3
     simp [mM_isText_56, mM_isText_55, mM_isText_41, mM_isText_36, mM_isText_40, mM_isText_6, mM_isText, c0, c1, c2, c3])
/-- byte k of a number, as the class takes it -/
theorem gt_bvk (v : BitVec 32) (s i : Nat) (hs : s ≤ 24) (hi : i < 32) : ((BitVec.signExtend 32 (BitVec.signExtend 64 v >>> s)).getLsbD i && (255#32).getLsbD i) = ((v.sshiftRight s).getLsbD i && (255#32).getLsbD i) := by
  rw [gt_bv255 i hi]
  by_cases h : i < 8
  · have h1 : s + i < 32 := by omega
    have h2 : s + i < 64 := by omega
    have h3 : i < 64 := by omega
    rw [BitVec.getLsbD_signExtend, BitVec.getLsbD_sshiftRight, BitVec.getLsbD_ushiftRight, BitVec.getLsbD_signExtend]
    have h4 : ¬ 32 ≤ i := by omega
    simp [h, hi, h1, h2, h3, h4]
  · simp [h]
theorem c_byteOf {v : Int32} {k : Int32} (hk : k = 0 ∨ k = 1 ∨ k = 2 ∨ k = 3) : cG_byteOf (Int32.toInt64 v) k = some (gt_b v k) := by
  unfold cG_byteOf gt_b
  congr 1
  apply Int32.toBitVec_inj.mp
  apply BitVec.eq_of_getLsbD_eq
  intro i hi
  rcases hk with rfl | rfl | rfl | rfl
  · have e1 : ((Int32.toInt64 ((8 : Int32) * 0)).toUInt64 &&& Int64.toUInt64 63) = 0 := by decide
    have e2 : ((8 * 0 : Int32) &&& 31) = 0 := by decide
    rw [e1, e2]
    have K := gt_bvk v.toBitVec 0 i (by decide) hi
    rw [BitVec.sshiftRight_zero] at K
    simp [Int64.toInt32, Int32.toInt64, Int32.toBitVec_and] at K ⊢
    exact K
  · have e1 : ((Int32.toInt64 ((8 : Int32) * 1)).toUInt64 &&& Int64.toUInt64 63) = 8 := by decide
    have e2 : ((8 * 1 : Int32) &&& 31) = 8 := by decide
    rw [e1, e2]
    have K := gt_bvk v.toBitVec 8 i (by decide) hi
    simp [Int64.toInt32, Int32.toInt64, Int32.toBitVec_and]
    exact K
  · have e1 : ((Int32.toInt64 ((8 : Int32) * 2)).toUInt64 &&& Int64.toUInt64 63) = 16 := by decide
    have e2 : ((8 * 2 : Int32) &&& 31) = 16 := by decide
    rw [e1, e2]
    have K := gt_bvk v.toBitVec 16 i (by decide) hi
    simp [Int64.toInt32, Int32.toInt64, Int32.toBitVec_and]
    exact K
  · have e1 : ((Int32.toInt64 ((8 : Int32) * 3)).toUInt64 &&& Int64.toUInt64 63) = 24 := by decide
    have e2 : ((8 * 3 : Int32) &&& 31) = 24 := by decide
    rw [e1, e2]
    have K := gt_bvk v.toBitVec 24 i (by decide) hi
    simp [Int64.toInt32, Int32.toInt64, Int32.toBitVec_and]
    exact K
theorem c_isText {v : Int32} : cS_isText v = some (gt_T (gt_b v 0) (gt_b v 1) (gt_b v 2) (gt_b v 3)) := by
  unfold cS_isText
  by_cases c0 : gt_b v 0 = 0 <;> by_cases c1 : gt_b v 1 = 0 <;> by_cases c2 : gt_b v 2 = 0 <;> by_cases c3 : gt_b v 3 = 0 <;>
    simp [cS_isText_31, cS_isText_2, cS_isText, gt_T, c0, c1, c2, c3, c_byteOf]
end F
end
section
theorem n_34 {k : Int32} : (3 < k) ↔ ¬ k < 4 := by
  rw [Int32.lt_iff_toInt_lt, Int32.lt_iff_toInt_lt]
  have a1 : (4 : Int32).toInt = 4 := rfl
  have a0 : (3 : Int32).toInt = 3 := rfl
  omega
theorem n_78 {k : Int32} : (7 < k) ↔ ¬ k < 8 := by
  rw [Int32.lt_iff_toInt_lt, Int32.lt_iff_toInt_lt]
  have a1 : (8 : Int32).toInt = 8 := rfl
  have a0 : (7 : Int32).toInt = 7 := rfl
  omega
/-- the number that counts -/
def gcn (k v : Int32) : Int32 := if k < 4 then 0 else v
theorem k_cn {k v : Int32} : cG_countedNumber k v = some (gcn k v) := by
  unfold cG_countedNumber gcn
  by_cases c : k < 4
  · rw [if_pos c, if_neg (fun q => n_34.mp q c)]
  · rw [if_neg c, if_pos (n_34.mpr c)]
theorem r_no {k v : Int32} : mM_numberOf k v = some (gcn k v) := by
  unfold mM_numberOf gcn
  by_cases c : k < 4
  · rw [if_pos c, if_pos c]
  · rw [if_neg c, if_neg c]
/-- the first place from i on, of m, that does -/
def gfi (P : Nat → Bool) : Nat → Nat → Option Nat
  | 0, _ => none
  | m + 1, i => if P i = true then some i else gfi P m (i + 1)
def gio : Option Nat → Int32
  | none => -1
  | some j => Int32.ofNat j
theorem gfi_some {P : Nat → Bool} : ∀ (m i j : Nat), gfi P m i = some j → i ≤ j ∧ j < i + m ∧ P j = true ∧ ∀ t, i ≤ t → t < j → P t = false := by
  intro m
  induction m with
  | zero => intro i j h; cases h
  | succ m ih =>
    intro i j h
    unfold gfi at h
    by_cases c : P i = true
    · rw [if_pos c] at h
      cases h
      exact ⟨by omega, by omega, c, fun t h1 h2 => by omega⟩
    · rw [if_neg c] at h
      obtain ⟨h1, h2, h3, h4⟩ := ih (i + 1) j h
      refine ⟨by omega, by omega, h3, fun t h5 h6 => ?_⟩
      by_cases e : t = i
      · subst e; simpa using c
      · exact h4 t (by omega) h6
theorem gfi_none {P : Nat → Bool} : ∀ (m i : Nat), gfi P m i = none → ∀ t, i ≤ t → t < i + m → P t = false := by
  intro m
  induction m with
  | zero => intro i _ t h1 h2; omega
  | succ m ih =>
    intro i h t h1 h2
    unfold gfi at h
    by_cases c : P i = true
    · rw [if_pos c] at h; cases h
    · rw [if_neg c] at h
      by_cases e : t = i
      · subst e; simpa using c
      · exact ih (i + 1) h t (by omega) (by omega)
theorem gfi_congr {P Q : Nat → Bool} : ∀ (m i : Nat), (∀ t, i ≤ t → t < i + m → P t = Q t) → gfi P m i = gfi Q m i := by
  intro m
  induction m with
  | zero => intro i _; rfl
  | succ m ih =>
    intro i h
    unfold gfi
    rw [h i (by omega) (by omega), ih (i + 1) (fun t h1 h2 => h t (by omega) (by omega))]
theorem gcap8 {s c : Nat} (h : c ≤ gcap s) : c ≤ 8 := by
  unfold gcap at h
  revert h
  repeat' split
  all_goals omega
section H
variable {u : gU} {x : gX} {o : Nat → Int64} {z : gx_H}
theorem k_indexL {k c : Nat} {a b : Int32} (hk : k < 32) (hc : (u.1 k).2.2.2.2.1 5 = Int32.ofNat c) (h8 : c ≤ 8) : ∀ (m i f : Nat), i + m = c → cT_indexOfKey_2 (f + m + 1) (some (3 + 5 * k)) a b (Int32.ofNat i) (gH u x o z) = some (gio (gfi (fun i => decide ((u.1 k).1 i = a ∧ (u.1 k).2.1 i = b)) m i)) := by
  intro m
  induction m with
  | zero =>
    intro i f h
    rw [cT_indexOfKey_2, hiT_5 hk, Option.bind_some, hc, if_neg (n_nltl (by omega) (by omega) (by omega))]
    rfl
  | succ m ih =>
    intro i f h
    have i8 : i < 8 := by omega
    rw [show f + (m + 1) + 1 = (f + m + 1) + 1 by omega, cT_indexOfKey_2, hiT_5 hk, Option.bind_some, hc, if_pos (n_ltl (by omega) (by omega) (by omega)), gfi]
    simp only [hrT_0 hk, hrT_1 hk, haT_1 hk i8, haT_2 hk i8, Option.bind_some, cT_indexOfKey_32, n_succ, ih (i + 1) f (by omega)]
    by_cases c1 : (u.1 k).1 i = a
    · by_cases c2 : (u.1 k).2.1 i = b
      · simp [c1, c2, gio]
      · simp [c1, c2]
    · simp [c1]
theorem k_index {k c : Nat} {a b : Int32} (hk : k < 32) (hc : (u.1 k).2.2.2.2.1 5 = Int32.ofNat c) (h8 : c ≤ 8) : cT_indexOfKey (some (3 + 5 * k)) a b (gH u x o z) = some (gio (gfi (fun i => decide ((u.1 k).1 i = a ∧ (u.1 k).2.1 i = b)) c 0)) := by
  have := k_indexL (x := x) (o := o) (z := z) (a := a) (b := b) hk hc h8 c 0 (1000000000000000 - c - 1) (by omega)
  rw [show 1000000000000000 - c - 1 + c + 1 = 1000000000000000 by omega] at this
  exact this
/-- the place of a key in the reference's row -/
def gis (k : Nat) : Option Nat → Int32
  | none => -1
  | some j => Int32.ofNat (8 * k + j)
theorem r_slotL {k c : Nat} {b : Int32} (hk : k < 32) (hc : (x.1 k).2.2.2.2.2.1 = Int32.ofNat c) (h8 : c ≤ 8) : ∀ (m i f : Nat), i + m = c → mM_slotOf_2 (f + m + 1) (some 188) (Int32.ofNat k) b (Int32.ofNat i) (gH u x o z) = some (gis k (gfi (fun i => decide ((x.1 k).2.1 i = b)) m i)) := by
  intro m
  induction m with
  | zero =>
    intro i f h
    rw [mM_slotOf_2, hr_188_3, Option.bind_some, ha_190 hk, Option.bind_some, hc, if_neg (n_nltl (by omega) (by omega) (by omega))]
    rfl
  | succ m ih =>
    intro i f h
    have i8 : i < 8 := by omega
    rw [show f + (m + 1) + 1 = (f + m + 1) + 1 by omega, mM_slotOf_2, hr_188_3, Option.bind_some, ha_190 hk, Option.bind_some, hc, if_pos (n_ltl (by omega) (by omega) (by omega)), gfi]
    simp only [hr_188_6, n_8, ha_193 hk i8, Option.bind_some, n_succ, ih (i + 1) f (by omega)]
    by_cases c2 : (x.1 k).2.1 i = b
    · simp [c2, gis]
    · simp [c2]
theorem r_slot {k c : Nat} {b : Int32} (hk : k < 32) (hc : (x.1 k).2.2.2.2.2.1 = Int32.ofNat c) (h8 : c ≤ 8) : mM_slotOf (some 188) (Int32.ofNat k) b (gH u x o z) = some (gis k (gfi (fun i => decide ((x.1 k).2.1 i = b)) c 0)) := by
  have := r_slotL (u := u) (o := o) (z := z) (b := b) hk hc h8 c 0 (1000000000000000 - c - 1) (by omega)
  rw [show 1000000000000000 - c - 1 + c + 1 = 1000000000000000 by omega] at this
  exact this
theorem k_hasL {k c : Nat} {a b : Int32} (hk : k < 32) (hc : (u.1 k).2.2.2.2.1 5 = Int32.ofNat c) (h8 : c ≤ 8) : ∀ (m i f : Nat), i + m = c → cT_hasMember_2 (f + m + 1) (some (3 + 5 * k)) a b (Int32.ofNat i) (gH u x o z) = some (if (gfi (fun i => decide ((u.1 k).2.2.1 i = a ∧ (u.1 k).2.2.2.1 i = b)) m i).isSome then 1 else 0) := by
  intro m
  induction m with
  | zero =>
    intro i f h
    rw [cT_hasMember_2, hiT_5 hk, Option.bind_some, hc, if_neg (n_nltl (by omega) (by omega) (by omega))]
    rfl
  | succ m ih =>
    intro i f h
    have i8 : i < 8 := by omega
    rw [show f + (m + 1) + 1 = (f + m + 1) + 1 by omega, cT_hasMember_2, hiT_5 hk, Option.bind_some, hc, if_pos (n_ltl (by omega) (by omega) (by omega)), gfi]
    simp only [hrT_2 hk, hrT_3 hk, haT_3 hk i8, haT_4 hk i8, Option.bind_some, cT_hasMember_32, n_succ, ih (i + 1) f (by omega)]
    by_cases c1 : (u.1 k).2.2.1 i = a
    · by_cases c2 : (u.1 k).2.2.2.1 i = b
      · simp [c1, c2]
      · simp [c1, c2]
    · simp [c1]
theorem k_has {k c : Nat} {a b : Int32} (hk : k < 32) (hc : (u.1 k).2.2.2.2.1 5 = Int32.ofNat c) (h8 : c ≤ 8) : cT_hasMember (some (3 + 5 * k)) a b (gH u x o z) = some (if (gfi (fun i => decide ((u.1 k).2.2.1 i = a ∧ (u.1 k).2.2.2.1 i = b)) c 0).isSome then 1 else 0) := by
  have := k_hasL (x := x) (o := o) (z := z) (a := a) (b := b) hk hc h8 c 0 (1000000000000000 - c - 1) (by omega)
  rw [show 1000000000000000 - c - 1 + c + 1 = 1000000000000000 by omega] at this
  exact this
theorem r_hasL1 {k c : Nat} {a b : Int32} (hk : k < 32) (hc : (x.1 k).2.2.2.2.2.1 = Int32.ofNat c) (h8 : c ≤ 8) : ∀ (m i f : Nat), i + m = c → mM_hasMember_6 (f + m + 1) (some 188) (Int32.ofNat k) a b 1 (Int32.ofNat i) (gH u x o z) = some 1 := by
  intro m
  induction m with
  | zero =>
    intro i f h
    rw [mM_hasMember_6, hr_188_3, Option.bind_some, ha_190 hk, Option.bind_some, hc, if_neg (n_nltl (by omega) (by omega) (by omega))]
    rfl
  | succ m ih =>
    intro i f h
    rw [show f + (m + 1) + 1 = (f + m + 1) + 1 by omega, mM_hasMember_6, hr_188_3, Option.bind_some, ha_190 hk, Option.bind_some, hc, if_pos (n_ltl (by omega) (by omega) (by omega)), if_neg (by decide)]
    simp only [mM_hasMember_58, mM_hasMember_63, n_succ, ih (i + 1) f (by omega)]
theorem r_hasL {k c : Nat} {a b : Int32} (hk : k < 32) (hc : (x.1 k).2.2.2.2.2.1 = Int32.ofNat c) (h8 : c ≤ 8) : ∀ (m i f : Nat), i + m = c → mM_hasMember_6 (f + m + 1) (some 188) (Int32.ofNat k) a b 0 (Int32.ofNat i) (gH u x o z) = some (if (gfi (fun i => decide ((x.1 k).2.2.1 i = a ∧ (x.1 k).2.2.2.1 i = gcn a b)) m i).isSome then 1 else 0) := by
  intro m
  induction m with
  | zero =>
    intro i f h
    rw [mM_hasMember_6, hr_188_3, Option.bind_some, ha_190 hk, Option.bind_some, hc, if_neg (n_nltl (by omega) (by omega) (by omega))]
    rfl
  | succ m ih =>
    intro i f h
    have i8 : i < 8 := by omega
    rw [show f + (m + 1) + 1 = (f + m + 1) + 1 by omega, mM_hasMember_6, hr_188_3, Option.bind_some, ha_190 hk, Option.bind_some, hc, if_pos (n_ltl (by omega) (by omega) (by omega)), if_pos rfl, gfi]
    simp only [hr_188_8, hr_188_9, n_8, ha_195 hk i8, ha_196 hk i8, r_no, Option.bind_some, mM_hasMember_58, mM_hasMember_62, mM_hasMember_63, n_succ, ih (i + 1) f (by omega), r_hasL1 hk hc h8 m (i + 1) f (by omega)]
    by_cases c1 : (x.1 k).2.2.1 i = a
    · by_cases c2 : (x.1 k).2.2.2.1 i = gcn a b
      · simp [c1, c2]
      · simp [c1, c2]
    · simp [c1]
theorem r_has {k c : Nat} {a b : Int32} (hk : k < 32) (hc : (x.1 k).2.2.2.2.2.1 = Int32.ofNat c) (h8 : c ≤ 8) : mM_hasMember (some 188) (Int32.ofNat k) a b (gH u x o z) = some (if (gfi (fun i => decide ((x.1 k).2.2.1 i = a ∧ (x.1 k).2.2.2.1 i = gcn a b)) c 0).isSome then 1 else 0) := by
  have := r_hasL (u := u) (o := o) (z := z) (a := a) (b := b) hk hc h8 c 0 (1000000000000000 - c - 1) (by omega)
  rw [show 1000000000000000 - c - 1 + c + 1 = 1000000000000000 by omega] at this
  exact this
theorem r_entL {k c : Nat} {a b : Int32} (hk : k < 32) (hc : (x.1 k).2.2.2.2.2.1 = Int32.ofNat c) (h8 : c ≤ 8) : ∀ (m i f : Nat), i + m = c → mM_entryOf_3 (f + m + 1) (some 188) (Int32.ofNat k) a b (Int32.ofNat i) (gH u x o z) = some (gio (gfi (fun i => decide ((x.1 k).1 i = a ∧ (x.1 k).2.1 i = gcn a b)) m i)) := by
  intro m
  induction m with
  | zero =>
    intro i f h
    rw [mM_entryOf_3, hr_188_3, Option.bind_some, ha_190 hk, Option.bind_some, hc, if_neg (n_nltl (by omega) (by omega) (by omega))]
    rfl
  | succ m ih =>
    intro i f h
    have i8 : i < 8 := by omega
    rw [show f + (m + 1) + 1 = (f + m + 1) + 1 by omega, mM_entryOf_3, hr_188_3, Option.bind_some, ha_190 hk, Option.bind_some, hc, if_pos (n_ltl (by omega) (by omega) (by omega)), gfi]
    simp only [hr_188_6, hr_188_7, n_8, ha_193 hk i8, ha_194 hk i8, r_no, Option.bind_some, mM_entryOf_53, n_succ, ih (i + 1) f (by omega)]
    by_cases c1 : (x.1 k).1 i = a
    · by_cases c2 : (x.1 k).2.1 i = gcn a b
      · simp [c1, c2, gio]
      · simp [c1, c2]
    · simp [c1]
theorem r_ent {k c : Nat} {a b : Int32} (hk : k < 32) (hc : (x.1 k).2.2.2.2.2.1 = Int32.ofNat c) (h8 : c ≤ 8) : mM_entryOf (some 188) (Int32.ofNat k) a b (gH u x o z) = some (gio (gfi (fun i => decide ((x.1 k).1 i = a ∧ (x.1 k).2.1 i = gcn a b)) c 0)) := by
  have := r_entL (u := u) (o := o) (z := z) (a := a) (b := b) hk hc h8 c 0 (1000000000000000 - c - 1) (by omega)
  rw [show 1000000000000000 - c - 1 + c + 1 = 1000000000000000 by omega] at this
  exact this
/-- values: both sides agree -/
theorem gt_T_z {a b c d : Int32} : gt_T a b c d = 0 ∨ gt_T a b c d = 1 := by
  unfold gt_T
  split
  · exact Or.inl rfl
  · exact Or.inr rfl
theorem v_eq {n : Nat} {k v : Int32} (hu : u.2.2.1 1 = Int32.ofNat n) (hx : x.2.1 1 = Int32.ofNat n) (hn : n ≤ 32) : ∃ r, (r = 0 ∨ r = 1) ∧ (∀ y o z, cS_isValue (some 1) k v (gH u y o z) = some r) ∧ (∀ y o z, mM_isValue (some 188) k v (gH y x o z) = some r) ∧ (r = 1 → ∃ j, j < 8 ∧ k = Int32.ofNat j ∧ (j = 6 → ∃ b, b < n ∧ v = Int32.ofNat b)) := by
  have d10 : ¬ (1 : Int32) = 0 := by decide
  unfold cS_isValue mM_isValue mM_isValue_22
  by_cases c0 : k < 0
  · exact ⟨0, Or.inl rfl, fun y o z => by rw [if_pos c0], fun y o z => by rw [if_pos c0], fun q => absurd q (by decide)⟩
  · by_cases c8 : k < 8
    · have c7 : ¬ 7 < k := fun q => n_78.mp q c8
      obtain ⟨j, hj, rfl⟩ := n_of (m := 8) c0 c8 (by omega)
      obtain ⟨_, e6, _, _, _, _, _, _, e5⟩ := n_s6 j hj
      by_cases c5 : j = 5
      · have c6 : ¬ j = 6 := by omega
        rcases gt_T_z (a := gt_b v 0) (b := gt_b v 1) (c := gt_b v 2) (d := gt_b v 3) with t | t
        · refine ⟨0, Or.inl rfl, fun y o z => ?_, fun y o z => ?_, fun q => absurd q (by decide)⟩
          · simp only [if_neg c0, if_neg c7, e5, if_pos c5, c_isText, t, Option.bind_some]
            simp
          · simp only [if_neg c0, if_pos c8, e5, if_pos c5, m_isText, t, Option.bind_some, if_true]
        · refine ⟨1, Or.inr rfl, fun y o z => ?_, fun y o z => ?_, fun q => ⟨j, hj, rfl, fun q => absurd q c6⟩⟩
          · simp only [if_neg c0, if_neg c7, e5, if_pos c5, c_isText, t, Option.bind_some]
            simp
          · simp only [if_neg c0, if_pos c8, e5, if_pos c5, m_isText, t, Option.bind_some, if_neg d10, e6, if_neg c6]
      · by_cases c6 : j = 6
        · rcases g_ob v n (by omega) with c | ⟨b, hb, rfl⟩
          · refine ⟨0, Or.inl rfl, fun y o z => ?_, fun y o z => ?_, fun q => absurd q (by decide)⟩
            · simp only [if_neg c0, if_neg c7, e5, if_neg c5, e6, if_pos c6, hi_1_1, hu, Option.bind_some]
              by_cases v0 : v < 0
              · rw [if_pos v0]
              · rw [if_neg v0, if_neg (by rcases c with h | h; exact absurd h v0; exact h)]
            · simp only [if_neg c0, if_pos c8, e5, if_neg c5, e6, if_pos c6, ho_188, Option.bind_some, r_oout hx c, if_true]
          · refine ⟨1, Or.inr rfl, fun y o z => ?_, fun y o z => ?_, fun q => ⟨j, hj, rfl, fun _ => ⟨b, hb, rfl⟩⟩⟩
            · simp only [if_neg c0, if_neg c7, e5, if_neg c5, e6, if_pos c6, hi_1_1, hu, Option.bind_some, if_neg (n_nn (n := b) (by omega)), if_pos (n_ltl (n := b) (m := n) (by omega) (by omega) hb)]
            · simp only [if_neg c0, if_pos c8, e5, if_neg c5, e6, if_pos c6, ho_188, Option.bind_some, r_oin hx hn hb, if_neg d10]
        · refine ⟨1, Or.inr rfl, fun y o z => ?_, fun y o z => ?_, fun q => ⟨j, hj, rfl, fun q => absurd q c6⟩⟩
          · simp only [if_neg c0, if_neg c7, e5, if_neg c5, e6, if_neg c6]
          · simp only [if_neg c0, if_pos c8, e5, if_neg c5, e6, if_neg c6]
    · have c7 : 7 < k := n_78.mpr c8
      exact ⟨0, Or.inl rfl, fun y o z => by rw [if_neg c0, if_pos c7], fun y o z => by rw [if_neg c0, if_neg c8], fun q => absurd q (by decide)⟩
end H
end
section
/-! places, properties, entries, values of sets: the rows that come out -/
def gpl (r : Nat → Int32) (i p : Nat) (v w : Int32) : Nat → Int32 := fun j => if j = p then v else if i ≤ j ∧ j < p then w else r j
theorem gpl_base {r : Nat → Int32} {i p : Nat} {v w : Int32} (h : p ≤ i) : gpl r i p v w = gup r p v := by
  funext j; unfold gpl gup
  by_cases c : j = p
  · rw [if_pos c, if_pos c]
  · rw [if_neg c, if_neg c, if_neg (by omega)]
theorem gpl_step {r : Nat → Int32} {i p : Nat} {v w : Int32} (h : i ≤ p) : gpl (gup r i w) (i + 1) p v w = gpl r i p v w := by
  funext j; unfold gpl gup
  by_cases c : j = p
  · rw [if_pos c, if_pos c]
  · rw [if_neg c, if_neg c]
    by_cases c2 : j = i
    · subst c2; rw [if_neg (by omega), if_pos rfl, if_pos (by omega)]
    · rw [if_neg c2]
      by_cases c3 : i + 1 ≤ j ∧ j < p
      · rw [if_pos c3, if_pos (by omega)]
      · rw [if_neg c3, if_neg (by omega)]
def gsh (r : Nat → Int32) (t e : Nat) : Nat → Int32 := fun j => if t < j ∧ j ≤ e then r (j - 1) else r j
theorem gsh_base {r : Nat → Int32} {t : Nat} : gsh r t t = r := by
  funext j; unfold gsh; rw [if_neg (by omega)]
theorem gsh_step {r : Nat → Int32} {t m : Nat} : gsh (gup r (t + m + 1) (r (t + m))) t (t + m) = gsh r t (t + m + 1) := by
  funext j; unfold gsh gup
  by_cases c : j = t + m + 1
  · subst c
    rw [if_neg (by omega), if_pos rfl, if_pos (by omega), show t + m + 1 - 1 = t + m by omega]
  · by_cases c2 : t < j ∧ j ≤ t + m
    · rw [if_pos c2, if_neg (by omega), if_pos (by omega)]
    · rw [if_neg c2, if_neg c, if_neg (by omega)]
def gdl (r : Nat → Int32) (t c : Nat) : Nat → Int32 := fun j => if t ≤ j ∧ j + 1 < c then r (j + 1) else r j
theorem gdl_base {r : Nat → Int32} {t c : Nat} (h : c ≤ t + 1) : gdl r t c = r := by
  funext j; unfold gdl; rw [if_neg (by omega)]
theorem gdl_step {r : Nat → Int32} {t c : Nat} (h : t + 1 < c) : gdl (gup r t (r (t + 1))) (t + 1) c = gdl r t c := by
  funext j; unfold gdl gup
  by_cases c2 : j = t
  · subst c2
    rw [if_neg (by omega), if_pos rfl, if_pos (by omega)]
  · by_cases c3 : t + 1 ≤ j ∧ j + 1 < c
    · rw [if_pos c3, if_neg (by omega), if_pos (by omega)]
    · rw [if_neg c3, if_neg c2, if_neg (by omega)]
theorem k_max {a b : Nat} (ha : a < 2 ^ 31) (hb : b < 2 ^ 31) : jM_max (Int32.ofNat a) (Int32.ofNat b) = some (Int32.ofNat (max a b)) := by
  unfold jM_max
  by_cases c : a < b
  · rw [if_pos (n_ltl ha hb c), Nat.max_eq_right (by omega)]
  · rw [if_neg (n_nltl ha hb (by omega)), Nat.max_eq_left (by omega)]
section H
variable {u : gU} {x : gX} {o : Nat → Int64} {z : gx_H}
theorem k_setValue {k i : Nat} {a b : Int32} (hk : k < 32) (hi : i < 8) : cT_setValue (some (3 + 5 * k)) (Int32.ofNat i) a b (gH u x o z) = some (gH ((gup u.1 k (((u.1 k).1, (u.1 k).2.1, gup (u.1 k).2.2.1 i a, gup (u.1 k).2.2.2.1 i b, (u.1 k).2.2.2.2.1, (u.1 k).2.2.2.2.2) : gQ), u.2.1, u.2.2.1, u.2.2.2.1, u.2.2.2.2.1, u.2.2.2.2.2.1, u.2.2.2.2.2.2.1, u.2.2.2.2.2.2.2.1, u.2.2.2.2.2.2.2.2.1, u.2.2.2.2.2.2.2.2.2.1, u.2.2.2.2.2.2.2.2.2.2.1, u.2.2.2.2.2.2.2.2.2.2.2.1, u.2.2.2.2.2.2.2.2.2.2.2.2.1, u.2.2.2.2.2.2.2.2.2.2.2.2.2.1, u.2.2.2.2.2.2.2.2.2.2.2.2.2.2) : gU) x o z) := by
  simp only [cT_setValue, hrT_2 hk, hrT_3 hk, Option.bind_some, hbT_3 hk hi, hbT_4 hk hi, gup_eq, gup_gup]
theorem r_setSlot {k i : Nat} {a b : Int32} (hk : k < 32) (hi : i < 8) : mM_setSlot (some 188) (Int32.ofNat (8 * k + i)) a b (gH u x o z) = some (gH u ((gup x.1 k (((x.1 k).1, (x.1 k).2.1, gup (x.1 k).2.2.1 i a, gup (x.1 k).2.2.2.1 i (gcn a b), (x.1 k).2.2.2.2.1, (x.1 k).2.2.2.2.2.1, (x.1 k).2.2.2.2.2.2.1, (x.1 k).2.2.2.2.2.2.2) : gP), x.2.1, x.2.2.1, x.2.2.2.1, x.2.2.2.2.1, x.2.2.2.2.2.1, x.2.2.2.2.2.2.1, x.2.2.2.2.2.2.2.1, x.2.2.2.2.2.2.2.2.1, x.2.2.2.2.2.2.2.2.2.1, x.2.2.2.2.2.2.2.2.2.2.1, x.2.2.2.2.2.2.2.2.2.2.2.1, x.2.2.2.2.2.2.2.2.2.2.2.2.1, x.2.2.2.2.2.2.2.2.2.2.2.2.2.1, x.2.2.2.2.2.2.2.2.2.2.2.2.2.2.1, x.2.2.2.2.2.2.2.2.2.2.2.2.2.2.2) : gX) o z) := by
  simp only [mM_setSlot, hr_188_8, hr_188_9, Option.bind_some, r_no, hb_195 hk hi, hb_196 hk hi, gup_eq, gup_gup]
theorem r_copySlot {k i j : Nat} (hk : k < 32) (hi : i < 8) (hj : j < 8) : mM_copySlot (some 188) (Int32.ofNat (8 * k + i)) (Int32.ofNat (8 * k + j)) (gH u x o z) = some (gH u ((gup x.1 k (((x.1 k).1, gup (x.1 k).2.1 j ((x.1 k).2.1 i), gup (x.1 k).2.2.1 j ((x.1 k).2.2.1 i), gup (x.1 k).2.2.2.1 j ((x.1 k).2.2.2.1 i), (x.1 k).2.2.2.2.1, (x.1 k).2.2.2.2.2.1, (x.1 k).2.2.2.2.2.2.1, (x.1 k).2.2.2.2.2.2.2) : gP), x.2.1, x.2.2.1, x.2.2.2.1, x.2.2.2.2.1, x.2.2.2.2.2.1, x.2.2.2.2.2.2.1, x.2.2.2.2.2.2.2.1, x.2.2.2.2.2.2.2.2.1, x.2.2.2.2.2.2.2.2.2.1, x.2.2.2.2.2.2.2.2.2.2.1, x.2.2.2.2.2.2.2.2.2.2.2.1, x.2.2.2.2.2.2.2.2.2.2.2.2.1, x.2.2.2.2.2.2.2.2.2.2.2.2.2.1, x.2.2.2.2.2.2.2.2.2.2.2.2.2.2.1, x.2.2.2.2.2.2.2.2.2.2.2.2.2.2.2) : gX) o z) := by
  simp only [mM_copySlot, hr_188_6, hr_188_8, hr_188_9, Option.bind_some, ha_193 hk hi, ha_195 hk hi, ha_196 hk hi, hb_193 hk hj, hb_195 hk hj, hb_196 hk hj, gup_eq, gup_gup]
theorem k_spL {k p c : Nat} {a b : Int32} (hk : k < 32) (hp : p < 8) (hc : c ≤ 8) : ∀ (m i f : Nat) (u : gU), i ≤ 8 → (i + m = p ∨ (m = 0 ∧ p ≤ i)) → (u.1 k).2.2.2.2.1 5 = Int32.ofNat c → cT_setPlace_6 (f + m + 1) (some (3 + 5 * k)) (Int32.ofNat p) a b (Int32.ofNat i) (gH u x o z) = some (gH ((gup u.1 k (((u.1 k).1, (u.1 k).2.1, gpl (u.1 k).2.2.1 i p a (-1), gpl (u.1 k).2.2.2.1 i p b 0, gup (u.1 k).2.2.2.2.1 5 (Int32.ofNat (max c (p + 1))), (u.1 k).2.2.2.2.2) : gQ), u.2.1, u.2.2.1, u.2.2.2.1, u.2.2.2.2.1, u.2.2.2.2.2.1, u.2.2.2.2.2.2.1, u.2.2.2.2.2.2.2.1, u.2.2.2.2.2.2.2.2.1, u.2.2.2.2.2.2.2.2.2.1, u.2.2.2.2.2.2.2.2.2.2.1, u.2.2.2.2.2.2.2.2.2.2.2.1, u.2.2.2.2.2.2.2.2.2.2.2.2.1, u.2.2.2.2.2.2.2.2.2.2.2.2.2.1, u.2.2.2.2.2.2.2.2.2.2.2.2.2.2) : gU) x o z) := by
  intro m
  induction m with
  | zero =>
    intro i f u h8 h h5
    rw [cT_setPlace_6, if_neg (n_nltl (by omega) (by omega) (by omega)), gpl_base (by omega), gpl_base (by omega)]
    simp only [ho_T hk, Option.bind_some, k_setValue hk hp, hiT_5 hk, gup_eq, h5, n_succ, k_max (a := c) (b := p + 1) (by omega) (by omega), hpT_5 hk, gup_gup]
  | succ m ih =>
    intro i f u h8 h h5
    have i8 : i < 8 := by omega
    rw [show f + (m + 1) + 1 = (f + m + 1) + 1 by omega, cT_setPlace_6, if_pos (n_ltl (by omega) (by omega) (by omega)), ho_T hk, Option.bind_some, k_setValue hk i8, Option.bind_some, n_succ, ih (i + 1) f ((gup u.1 k (((u.1 k).1, (u.1 k).2.1, gup (u.1 k).2.2.1 i (-1), gup (u.1 k).2.2.2.1 i 0, (u.1 k).2.2.2.2.1, (u.1 k).2.2.2.2.2) : gQ), u.2.1, u.2.2.1, u.2.2.2.1, u.2.2.2.2.1, u.2.2.2.2.2.1, u.2.2.2.2.2.2.1, u.2.2.2.2.2.2.2.1, u.2.2.2.2.2.2.2.2.1, u.2.2.2.2.2.2.2.2.2.1, u.2.2.2.2.2.2.2.2.2.2.1, u.2.2.2.2.2.2.2.2.2.2.2.1, u.2.2.2.2.2.2.2.2.2.2.2.2.1, u.2.2.2.2.2.2.2.2.2.2.2.2.2.1, u.2.2.2.2.2.2.2.2.2.2.2.2.2.2) : gU) (by omega) (by omega) (by simp only [gup_eq]; exact h5)]
    simp only [gup_eq, gup_gup]
    rw [gpl_step (by omega), gpl_step (by omega)]
theorem k_setPlace {k p c : Nat} {a b : Int32} (hk : k < 32) (hp : p < 8) (hc : c ≤ 8) (h5 : (u.1 k).2.2.2.2.1 5 = Int32.ofNat c) : cT_setPlace (some (3 + 5 * k)) (Int32.ofNat p) a b (gH u x o z) = some (gH ((gup u.1 k (((u.1 k).1, (u.1 k).2.1, gpl (u.1 k).2.2.1 c p a (-1), gpl (u.1 k).2.2.2.1 c p b 0, gup (u.1 k).2.2.2.2.1 5 (Int32.ofNat (max c (p + 1))), (u.1 k).2.2.2.2.2) : gQ), u.2.1, u.2.2.1, u.2.2.2.1, u.2.2.2.2.1, u.2.2.2.2.2.1, u.2.2.2.2.2.2.1, u.2.2.2.2.2.2.2.1, u.2.2.2.2.2.2.2.2.1, u.2.2.2.2.2.2.2.2.2.1, u.2.2.2.2.2.2.2.2.2.2.1, u.2.2.2.2.2.2.2.2.2.2.2.1, u.2.2.2.2.2.2.2.2.2.2.2.2.1, u.2.2.2.2.2.2.2.2.2.2.2.2.2.1, u.2.2.2.2.2.2.2.2.2.2.2.2.2.2) : gU) x o z) := by
  have := k_spL (x := x) (o := o) (z := z) (a := a) (b := b) hk hp hc (p - c) c (1000000000000000 - (p - c) - 1) u hc (by omega) h5
  rw [show 1000000000000000 - (p - c) - 1 + (p - c) + 1 = 1000000000000000 by omega] at this
  unfold cT_setPlace
  rw [hiT_5 hk, Option.bind_some, h5, this]
theorem gcn_m1 : gcn (-1) 0 = 0 := by decide
theorem r_putL {k p : Nat} {a b : Int32} (hk : k < 32) (hp : p < 8) : ∀ (m c f : Nat) (x : gX), c ≤ 8 → (c + m = p + 1 ∨ (m = 0 ∧ p < c)) → (x.1 k).2.2.2.2.2.1 = Int32.ofNat c → mM_put_136 (f + m + 1) (some 188) (Int32.ofNat k) (Int32.ofNat p) a b (gH u x o z) = some (gH u ((gup x.1 k (((x.1 k).1, (x.1 k).2.1, gpl (x.1 k).2.2.1 c p a (-1), gpl (x.1 k).2.2.2.1 c p (gcn a b) 0, (x.1 k).2.2.2.2.1, Int32.ofNat (max c (p + 1)), (x.1 k).2.2.2.2.2.2.1, (x.1 k).2.2.2.2.2.2.2) : gP), x.2.1, x.2.2.1, x.2.2.2.1, x.2.2.2.2.1, x.2.2.2.2.2.1, x.2.2.2.2.2.2.1, x.2.2.2.2.2.2.2.1, x.2.2.2.2.2.2.2.2.1, x.2.2.2.2.2.2.2.2.2.1, x.2.2.2.2.2.2.2.2.2.2.1, x.2.2.2.2.2.2.2.2.2.2.2.1, x.2.2.2.2.2.2.2.2.2.2.2.2.1, x.2.2.2.2.2.2.2.2.2.2.2.2.2.1, x.2.2.2.2.2.2.2.2.2.2.2.2.2.2.1, x.2.2.2.2.2.2.2.2.2.2.2.2.2.2.2) : gX) o z) := by
  intro m
  induction m with
  | zero =>
    intro c f x hc h h5
    rw [mM_put_136, hr_188_3, Option.bind_some, ha_190 hk, Option.bind_some, h5, if_pos (n_ltl (by omega) (by omega) (by omega)), gpl_base (by omega), gpl_base (by omega), n_8, ho_188, Option.bind_some, r_setSlot hk hp, Option.bind_some, Nat.max_eq_left (by omega), ← h5]
  | succ m ih =>
    intro c f x hc h h5
    have c8 : c < 8 := by omega
    rw [show f + (m + 1) + 1 = (f + m + 1) + 1 by omega, mM_put_136]
    simp only [hr_188_3, Option.bind_some, ha_190 hk, h5, if_neg (n_nltl (n := p) (m := c) (by omega) (by omega) (by omega)), ho_188, n_8, r_setSlot hk c8, gup_eq, n_succ, hb_190 hk, gup_gup, gcn_m1]
    rw [ih (c + 1) f ((gup x.1 k (((x.1 k).1, (x.1 k).2.1, gup (x.1 k).2.2.1 c (-1), gup (x.1 k).2.2.2.1 c 0, (x.1 k).2.2.2.2.1, Int32.ofNat (c + 1), (x.1 k).2.2.2.2.2.2.1, (x.1 k).2.2.2.2.2.2.2) : gP), x.2.1, x.2.2.1, x.2.2.2.1, x.2.2.2.2.1, x.2.2.2.2.2.1, x.2.2.2.2.2.2.1, x.2.2.2.2.2.2.2.1, x.2.2.2.2.2.2.2.2.1, x.2.2.2.2.2.2.2.2.2.1, x.2.2.2.2.2.2.2.2.2.2.1, x.2.2.2.2.2.2.2.2.2.2.2.1, x.2.2.2.2.2.2.2.2.2.2.2.2.1, x.2.2.2.2.2.2.2.2.2.2.2.2.2.1, x.2.2.2.2.2.2.2.2.2.2.2.2.2.2.1, x.2.2.2.2.2.2.2.2.2.2.2.2.2.2.2) : gX) (by omega) (by omega) (by simp only [gup_eq])]
    simp only [gup_eq, gup_gup]
    rw [gpl_step (by omega), gpl_step (by omega), show max (c + 1) (p + 1) = max c (p + 1) by omega]
theorem r_put136 {k p c : Nat} {a b : Int32} (hk : k < 32) (hp : p < 8) (hc : c ≤ 8) (h5 : (x.1 k).2.2.2.2.2.1 = Int32.ofNat c) : mM_put_136 1000000000000000 (some 188) (Int32.ofNat k) (Int32.ofNat p) a b (gH u x o z) = some (gH u ((gup x.1 k (((x.1 k).1, (x.1 k).2.1, gpl (x.1 k).2.2.1 c p a (-1), gpl (x.1 k).2.2.2.1 c p (gcn a b) 0, (x.1 k).2.2.2.2.1, Int32.ofNat (max c (p + 1)), (x.1 k).2.2.2.2.2.2.1, (x.1 k).2.2.2.2.2.2.2) : gP), x.2.1, x.2.2.1, x.2.2.2.1, x.2.2.2.2.1, x.2.2.2.2.2.1, x.2.2.2.2.2.2.1, x.2.2.2.2.2.2.2.1, x.2.2.2.2.2.2.2.2.1, x.2.2.2.2.2.2.2.2.2.1, x.2.2.2.2.2.2.2.2.2.2.1, x.2.2.2.2.2.2.2.2.2.2.2.1, x.2.2.2.2.2.2.2.2.2.2.2.2.1, x.2.2.2.2.2.2.2.2.2.2.2.2.2.1, x.2.2.2.2.2.2.2.2.2.2.2.2.2.2.1, x.2.2.2.2.2.2.2.2.2.2.2.2.2.2.2) : gX) o z) := by
  have := r_putL (u := u) (o := o) (z := z) (a := a) (b := b) hk hp (p + 1 - c) c (1000000000000000 - (p + 1 - c) - 1) x hc (by omega) h5
  rw [show 1000000000000000 - (p + 1 - c) - 1 + (p + 1 - c) + 1 = 1000000000000000 by omega] at this
  exact this
theorem k_gapL {k t c : Nat} (hk : k < 32) : ∀ (m f : Nat) (u : gU), t + m < 8 → (u.1 k).2.2.2.2.1 5 = Int32.ofNat c → cT_openGap_5 (f + m + 1) (some (3 + 5 * k)) (Int32.ofNat t) (Int32.ofNat (t + m)) (gH u x o z) = some (gH ((gup u.1 k ((gsh (u.1 k).1 t (t + m), gsh (u.1 k).2.1 t (t + m), gsh (u.1 k).2.2.1 t (t + m), gsh (u.1 k).2.2.2.1 t (t + m), gup (u.1 k).2.2.2.2.1 5 (Int32.ofNat (c + 1)), (u.1 k).2.2.2.2.2) : gQ), u.2.1, u.2.2.1, u.2.2.2.1, u.2.2.2.2.1, u.2.2.2.2.2.1, u.2.2.2.2.2.2.1, u.2.2.2.2.2.2.2.1, u.2.2.2.2.2.2.2.2.1, u.2.2.2.2.2.2.2.2.2.1, u.2.2.2.2.2.2.2.2.2.2.1, u.2.2.2.2.2.2.2.2.2.2.2.1, u.2.2.2.2.2.2.2.2.2.2.2.2.1, u.2.2.2.2.2.2.2.2.2.2.2.2.2.1, u.2.2.2.2.2.2.2.2.2.2.2.2.2.2) : gU) x o z) := by
  intro m
  induction m with
  | zero =>
    intro f u h h5
    rw [cT_openGap_5, if_neg (n_nltl (by omega) (by omega) (by omega)), hiT_5 hk, Option.bind_some, h5, hpT_5 hk, Option.bind_some, n_succ]
    simp only [Nat.add_zero, gsh_base]
  | succ m ih =>
    intro f u h h5
    have j8 : t + m < 8 := by omega
    have k8 : t + m + 1 < 8 := by omega
    rw [show f + (m + 1) + 1 = (f + m + 1) + 1 by omega, show t + (m + 1) = t + m + 1 by omega, cT_openGap_5, if_pos (n_ltl (by omega) (by omega) (by omega))]
    simp only [hrT_0 hk, hrT_1 hk, hrT_2 hk, hrT_3 hk, Option.bind_some, n_pred, n_m1, haT_1 hk j8, haT_2 hk j8, haT_3 hk j8, haT_4 hk j8, hbT_1 hk k8, hbT_2 hk k8, ho_T hk, k_setValue hk k8, gup_eq, gup_gup]
    rw [ih f ((gup u.1 k ((gup (u.1 k).1 (t + m + 1) ((u.1 k).1 (t + m)), gup (u.1 k).2.1 (t + m + 1) ((u.1 k).2.1 (t + m)), gup (u.1 k).2.2.1 (t + m + 1) ((u.1 k).2.2.1 (t + m)), gup (u.1 k).2.2.2.1 (t + m + 1) ((u.1 k).2.2.2.1 (t + m)), (u.1 k).2.2.2.2.1, (u.1 k).2.2.2.2.2) : gQ), u.2.1, u.2.2.1, u.2.2.2.1, u.2.2.2.2.1, u.2.2.2.2.2.1, u.2.2.2.2.2.2.1, u.2.2.2.2.2.2.2.1, u.2.2.2.2.2.2.2.2.1, u.2.2.2.2.2.2.2.2.2.1, u.2.2.2.2.2.2.2.2.2.2.1, u.2.2.2.2.2.2.2.2.2.2.2.1, u.2.2.2.2.2.2.2.2.2.2.2.2.1, u.2.2.2.2.2.2.2.2.2.2.2.2.2.1, u.2.2.2.2.2.2.2.2.2.2.2.2.2.2) : gU) (by omega) (by simp only [gup_eq]; exact h5)]
    simp only [gup_eq, gup_gup, gsh_step]
theorem k_gap {k t c : Nat} (hk : k < 32) (ht : t ≤ c) (hc : c < 8) (h5 : (u.1 k).2.2.2.2.1 5 = Int32.ofNat c) : cT_openGap (some (3 + 5 * k)) (Int32.ofNat t) (gH u x o z) = some (gH ((gup u.1 k ((gsh (u.1 k).1 t c, gsh (u.1 k).2.1 t c, gsh (u.1 k).2.2.1 t c, gsh (u.1 k).2.2.2.1 t c, gup (u.1 k).2.2.2.2.1 5 (Int32.ofNat (c + 1)), (u.1 k).2.2.2.2.2) : gQ), u.2.1, u.2.2.1, u.2.2.2.1, u.2.2.2.2.1, u.2.2.2.2.2.1, u.2.2.2.2.2.2.1, u.2.2.2.2.2.2.2.1, u.2.2.2.2.2.2.2.2.1, u.2.2.2.2.2.2.2.2.2.1, u.2.2.2.2.2.2.2.2.2.2.1, u.2.2.2.2.2.2.2.2.2.2.2.1, u.2.2.2.2.2.2.2.2.2.2.2.2.1, u.2.2.2.2.2.2.2.2.2.2.2.2.2.1, u.2.2.2.2.2.2.2.2.2.2.2.2.2.2) : gU) x o z) := by
  have := k_gapL (x := x) (o := o) (z := z) (t := t) hk (c - t) (1000000000000000 - (c - t) - 1) u (by omega) h5
  rw [show 1000000000000000 - (c - t) - 1 + (c - t) + 1 = 1000000000000000 by omega, show t + (c - t) = c by omega] at this
  unfold cT_openGap
  rw [hiT_5 hk, Option.bind_some, h5, this]
theorem k_ordL {k c : Nat} {a : Int32} (hk : k < 32) (h5 : (u.1 k).2.2.2.2.1 5 = Int32.ofNat c) (h8 : c ≤ 8) : ∀ (m i f : Nat), i + m = c → cT_orderedPlace_11 (f + m + 1) (some (3 + 5 * k)) a (Int32.ofNat i) (gH u x o z) = some (Int32.ofNat ((gfi (fun i => decide ((u.1 k).2.1 i < 0 ∨ ¬ (u.1 k).2.1 i < a)) m i).getD c)) := by
  intro m
  induction m with
  | zero =>
    intro i f h
    rw [cT_orderedPlace_11, hiT_5 hk, Option.bind_some, h5, if_neg (n_nltl (by omega) (by omega) (by omega)), gfi, show i = c by omega]
    rfl
  | succ m ih =>
    intro i f h
    have i8 : i < 8 := by omega
    rw [show f + (m + 1) + 1 = (f + m + 1) + 1 by omega, cT_orderedPlace_11, hiT_5 hk, Option.bind_some, h5, if_pos (n_ltl (by omega) (by omega) (by omega)), gfi]
    simp only [hrT_1 hk, haT_2 hk i8, Option.bind_some, n_succ, ih (i + 1) f (by omega)]
    by_cases c1 : (u.1 k).2.1 i < 0
    · simp [c1]
    · by_cases c2 : (u.1 k).2.1 i < a
      · simp [c1, c2]
      · simp [c1, c2]
/-- where a key comes -/
def gat (r : Nat → Int32) (c : Nat) (a : Int32) : Nat := if a < 0 then c else (gfi (fun i => decide (r i < 0 ∨ ¬ r i < a)) c 0).getD c
theorem gat_le {r : Nat → Int32} {c : Nat} {a : Int32} : gat r c a ≤ c := by
  unfold gat
  split
  · omega
  · cases h : gfi (fun i => decide (r i < 0 ∨ ¬ r i < a)) c 0 with
    | none => simp
    | some j =>
      have := (gfi_some _ _ _ h).2.1
      simp only [Option.getD_some]
      omega
theorem k_ord {k c : Nat} {a : Int32} (hk : k < 32) (h5 : (u.1 k).2.2.2.2.1 5 = Int32.ofNat c) (h8 : c ≤ 8) : cT_orderedPlace (some (3 + 5 * k)) a (gH u x o z) = some (Int32.ofNat (gat (u.1 k).2.1 c a)) := by
  unfold cT_orderedPlace gat
  by_cases c0 : a < 0
  · rw [if_pos c0, if_pos c0, hiT_5 hk, Option.bind_some, h5]
  · have := k_ordL (x := x) (o := o) (z := z) (a := a) hk h5 h8 c 0 (1000000000000000 - c - 1) (by omega)
    rw [show 1000000000000000 - c - 1 + c + 1 = 1000000000000000 by omega] at this
    rw [if_neg c0, if_neg c0]
    exact this
/-- a property that is new, or is set anew -/
def gq_ins (q : gQ) (c t : Nat) (a kd nm : Int32) : gQ := ((gup (gsh q.1 t c) t 4, gup (gsh q.2.1 t c) t a, gup (gsh q.2.2.1 t c) t kd, gup (gsh q.2.2.2.1 t c) t nm, gup q.2.2.2.2.1 5 (Int32.ofNat (c + 1)), q.2.2.2.2.2) : gQ)
def gp_ins (p : gP) (c t : Nat) (a kd nm : Int32) : gP := ((p.1, gup (gsh p.2.1 t c) t a, gup (gsh p.2.2.1 t c) t kd, gup (gsh p.2.2.2.1 t c) t nm, p.2.2.2.2.1, Int32.ofNat (c + 1), p.2.2.2.2.2.2.1, p.2.2.2.2.2.2.2) : gP)
theorem k_setProp {k c : Nat} {a kd nm : Int32} (hk : k < 32) (h5 : (u.1 k).2.2.2.2.1 5 = Int32.ofNat c) (h8 : c ≤ 6) : cT_setProperty (some (3 + 5 * k)) a kd nm (gH u x o z) = match gfi (fun i => decide ((u.1 k).1 i = 4 ∧ (u.1 k).2.1 i = a)) c 0 with
    | some j => some (1, gH ((gup u.1 k (((u.1 k).1, (u.1 k).2.1, gup (u.1 k).2.2.1 j kd, gup (u.1 k).2.2.2.1 j nm, (u.1 k).2.2.2.2.1, (u.1 k).2.2.2.2.2) : gQ), u.2.1, u.2.2.1, u.2.2.2.1, u.2.2.2.2.1, u.2.2.2.2.2.1, u.2.2.2.2.2.2.1, u.2.2.2.2.2.2.2.1, u.2.2.2.2.2.2.2.2.1, u.2.2.2.2.2.2.2.2.2.1, u.2.2.2.2.2.2.2.2.2.2.1, u.2.2.2.2.2.2.2.2.2.2.2.1, u.2.2.2.2.2.2.2.2.2.2.2.2.1, u.2.2.2.2.2.2.2.2.2.2.2.2.2.1, u.2.2.2.2.2.2.2.2.2.2.2.2.2.2) : gU) x o z)
    | none => if c < 6 then some (1, gH ((gup u.1 k (gq_ins (u.1 k) c (gat (u.1 k).2.1 c a) a kd nm), u.2.1, u.2.2.1, u.2.2.2.1, u.2.2.2.2.1, u.2.2.2.2.2.1, u.2.2.2.2.2.2.1, u.2.2.2.2.2.2.2.1, u.2.2.2.2.2.2.2.2.1, u.2.2.2.2.2.2.2.2.2.1, u.2.2.2.2.2.2.2.2.2.2.1, u.2.2.2.2.2.2.2.2.2.2.2.1, u.2.2.2.2.2.2.2.2.2.2.2.2.1, u.2.2.2.2.2.2.2.2.2.2.2.2.2.1, u.2.2.2.2.2.2.2.2.2.2.2.2.2.2) : gU) x o z) else some (0, gH u x o z) := by
  unfold cT_setProperty
  simp only [ho_T hk, Option.bind_some, k_index hk h5 (show c ≤ 8 by omega)]
  cases h : gfi (fun i => decide ((u.1 k).1 i = 4 ∧ (u.1 k).2.1 i = a)) c 0 with
  | some j =>
    have hj := (gfi_some _ _ _ h).2.1
    have j8 : j < 8 := by omega
    simp only [gio, if_neg (n_ne1 (n := j) (by omega)), cT_setProperty_54, ho_T hk, Option.bind_some, k_setValue hk j8]
  | none =>
    by_cases c6 : c < 6
    · have t8 : gat (u.1 k).2.1 c a < 8 := by have := gat_le (r := (u.1 k).2.1) (c := c) (a := a); omega
      simp only [gio, if_true, hiT_5 hk, Option.bind_some, h5, if_pos (show Int32.ofNat c < 6 from n_ltl (m := 6) (by omega) (by omega) c6), ho_T hk, k_ord hk h5 (show c ≤ 8 by omega), k_gap hk gat_le (show c < 8 by omega) h5, hrT_0 hk, hrT_1 hk, hbT_1 hk t8, hbT_2 hk t8, gup_eq, gup_gup, cT_setProperty_54, k_setValue hk t8, if_pos c6] <;> rfl
    · simp only [gio, if_true, hiT_5 hk, Option.bind_some, h5, if_neg (show ¬ Int32.ofNat c < 6 from n_nltl (m := 6) (by omega) (by omega) (by omega)), if_neg c6]
theorem r_insL {k t c : Nat} {a kd nm : Int32} (hk : k < 32) (ht : t ≤ c) : ∀ (m f : Nat) (x : gX), t + m < 8 → (x.1 k).2.2.2.2.2.1 = Int32.ofNat c → (a < 0 → m = 0) → (∀ j, t ≤ j → j < t + m → (x.1 k).2.1 j < 0 ∨ a < (x.1 k).2.1 j) → (¬ a < 0 → t = 0 ∨ (¬ (x.1 k).2.1 (t - 1) < 0 ∧ ¬ a < (x.1 k).2.1 (t - 1))) → mM_setProperty_21 (f + m + 1) (some 188) (Int32.ofNat k) a kd nm (Int32.ofNat (t + m)) (gH u x o z) = some (gH u ((gup x.1 k (((x.1 k).1, gup (gsh (x.1 k).2.1 t (t + m)) t a, gup (gsh (x.1 k).2.2.1 t (t + m)) t kd, gup (gsh (x.1 k).2.2.2.1 t (t + m)) t (gcn kd nm), (x.1 k).2.2.2.2.1, Int32.ofNat (c + 1), (x.1 k).2.2.2.2.2.2.1, (x.1 k).2.2.2.2.2.2.2) : gP), x.2.1, x.2.2.1, x.2.2.2.1, x.2.2.2.2.1, x.2.2.2.2.2.1, x.2.2.2.2.2.2.1, x.2.2.2.2.2.2.2.1, x.2.2.2.2.2.2.2.2.1, x.2.2.2.2.2.2.2.2.2.1, x.2.2.2.2.2.2.2.2.2.2.1, x.2.2.2.2.2.2.2.2.2.2.2.1, x.2.2.2.2.2.2.2.2.2.2.2.2.1, x.2.2.2.2.2.2.2.2.2.2.2.2.2.1, x.2.2.2.2.2.2.2.2.2.2.2.2.2.2.1, x.2.2.2.2.2.2.2.2.2.2.2.2.2.2.2) : gX) o z) := by
  intro m
  induction m with
  | zero =>
    intro f x h8 h5 h0 h1 h2
    have t8 : t < 8 := by omega
    have fin : mM_setProperty_91 (some 188) (Int32.ofNat k) a kd nm (Int32.ofNat t) (gH u x o z) = some (gH u ((gup x.1 k (((x.1 k).1, gup (x.1 k).2.1 t a, gup (x.1 k).2.2.1 t kd, gup (x.1 k).2.2.2.1 t (gcn kd nm), (x.1 k).2.2.2.2.1, Int32.ofNat (c + 1), (x.1 k).2.2.2.2.2.2.1, (x.1 k).2.2.2.2.2.2.2) : gP), x.2.1, x.2.2.1, x.2.2.2.1, x.2.2.2.2.1, x.2.2.2.2.2.1, x.2.2.2.2.2.2.1, x.2.2.2.2.2.2.2.1, x.2.2.2.2.2.2.2.2.1, x.2.2.2.2.2.2.2.2.2.1, x.2.2.2.2.2.2.2.2.2.2.1, x.2.2.2.2.2.2.2.2.2.2.2.1, x.2.2.2.2.2.2.2.2.2.2.2.2.1, x.2.2.2.2.2.2.2.2.2.2.2.2.2.1, x.2.2.2.2.2.2.2.2.2.2.2.2.2.2.1, x.2.2.2.2.2.2.2.2.2.2.2.2.2.2.2) : gX) o z) := by
      simp only [mM_setProperty_91, mM_setProperty_118, hr_188_6, hr_188_3, Option.bind_some, n_8, hb_193 hk t8, ha_190 hk, gup_eq, h5, hb_190 hk, n_succ, ho_188, r_setSlot hk t8, gup_gup]
    simp only [Nat.add_zero, gsh_base]
    rw [mM_setProperty_21]
    by_cases a0 : a < 0
    · rw [if_pos a0, fin]
    · rw [if_neg a0]
      rcases h2 a0 with t0 | ⟨e1, e2⟩
      · subst t0
        rw [if_neg (show ¬ (0 : Int32) < Int32.ofNat 0 by decide)]
        exact fin
      · by_cases t0 : t = 0
        · subst t0
          rw [if_neg (show ¬ (0 : Int32) < Int32.ofNat 0 by decide)]
          exact fin
        · obtain ⟨t, rfl⟩ : ∃ s, t = s + 1 := ⟨t - 1, by omega⟩
          have e1' : ¬ (x.1 k).2.1 t < 0 := e1
          have e2' : ¬ a < (x.1 k).2.1 t := e2
          have pz : (0 : Int32) < Int32.ofNat (t + 1) := n_ltl (n := 0) (by omega) (by omega) (by omega)
          rw [if_pos pz]
          simp only [hr_188_6, Option.bind_some, n_8, show 8 * k + (t + 1) = (8 * k + t) + 1 by omega, n_pred, ha_193 hk (show t < 8 by omega), if_neg e1', if_neg e2']
          exact fin
  | succ m ih =>
    intro f x h8 h5 h0 h1 h2
    have a0 : ¬ a < 0 := fun q => by have := h0 q; omega
    have j8 : t + m < 8 := by omega
    have k8 : t + m + 1 < 8 := by omega
    have cond := h1 (t + m) (by omega) (by omega)
    have pz : (0 : Int32) < Int32.ofNat (t + m + 1) := n_ltl (n := 0) (by omega) (by omega) (by omega)
    have step : mM_setProperty_65 (mM_setProperty_21 (f + m + 1)) (some 188) (Int32.ofNat k) a kd nm (Int32.ofNat (t + m + 1)) (gH u x o z) = some (gH u ((gup x.1 k (((x.1 k).1, gup (gsh (x.1 k).2.1 t (t + m + 1)) t a, gup (gsh (x.1 k).2.2.1 t (t + m + 1)) t kd, gup (gsh (x.1 k).2.2.2.1 t (t + m + 1)) t (gcn kd nm), (x.1 k).2.2.2.2.1, Int32.ofNat (c + 1), (x.1 k).2.2.2.2.2.2.1, (x.1 k).2.2.2.2.2.2.2) : gP), x.2.1, x.2.2.1, x.2.2.2.1, x.2.2.2.2.1, x.2.2.2.2.2.1, x.2.2.2.2.2.2.1, x.2.2.2.2.2.2.2.1, x.2.2.2.2.2.2.2.2.1, x.2.2.2.2.2.2.2.2.2.1, x.2.2.2.2.2.2.2.2.2.2.1, x.2.2.2.2.2.2.2.2.2.2.2.1, x.2.2.2.2.2.2.2.2.2.2.2.2.1, x.2.2.2.2.2.2.2.2.2.2.2.2.2.1, x.2.2.2.2.2.2.2.2.2.2.2.2.2.2.1, x.2.2.2.2.2.2.2.2.2.2.2.2.2.2.2) : gX) o z) := by
      have cs := r_copySlot (u := u) (x := x) (o := o) (z := z) (k := k) (i := t + m) (j := t + m + 1) hk j8 k8
      rw [show 8 * k + (t + m + 1) = 8 * k + (t + m) + 1 by omega] at cs
      simp only [mM_setProperty_65, ho_188, Option.bind_some, n_m1, n_8, n_succ, cs]
      rw [ih f _ (by omega) (by simp only [gup_eq]; exact h5) (fun q => absurd q a0) ?_ ?_]
      · simp only [gup_eq, gup_gup, gsh_step]
      · intro j j1 j2
        simp only [gup_eq]
        rw [gup_ne (by omega)]
        exact h1 j j1 (by omega)
      · intro _
        simp only [gup_eq]
        rw [gup_ne (by omega)]
        exact h2 a0
    rw [show f + (m + 1) + 1 = (f + m + 1) + 1 by omega, show t + (m + 1) = t + m + 1 by omega, mM_setProperty_21, if_neg a0, if_pos pz]
    simp only [hr_188_6, Option.bind_some, n_8, show 8 * k + (t + m + 1) = (8 * k + (t + m)) + 1 by omega, n_pred, ha_193 hk j8]
    by_cases c1 : (x.1 k).2.1 (t + m) < 0
    · rw [if_pos c1]; exact step
    · rw [if_neg c1, if_pos (by rcases cond with h | h; exact absurd h c1; exact h)]; exact step
end H
end
section
/-! properties, on both sides -/
theorem i_tr {a b c : Int32} (h1 : ¬ b < a) (h2 : b < c) : a < c := by
  rw [Int32.lt_iff_toInt_lt] at h1 h2 ⊢; omega
theorem i_ne {a b : Int32} (h1 : ¬ b < a) (h2 : ¬ b = a) : a < b := by
  rw [Int32.lt_iff_toInt_lt] at h1 ⊢
  rw [← Int32.toInt_inj] at h2
  omega
theorem gat_spec {r : Nat → Int32} {c : Nat} {a : Int32} (so : ∀ i j, i < j → j < c → ¬ r j < 0 → ¬ r i < 0 ∧ r i < r j) (nf : ∀ i, i < c → ¬ r i = a) (a0 : ¬ a < 0) : (∀ j, gat r c a ≤ j → j < c → r j < 0 ∨ a < r j) ∧ (∀ j, j < gat r c a → ¬ r j < 0 ∧ r j < a) := by
  unfold gat
  rw [if_neg a0]
  cases h : gfi (fun i => decide (r i < 0 ∨ ¬ r i < a)) c 0 with
  | none =>
    have hf := gfi_none _ _ h
    simp only [Option.getD_none]
    refine ⟨fun j h1 h2 => by omega, fun j h1 => ?_⟩
    have := hf j (by omega) (by omega)
    simp only [decide_eq_false_iff_not, not_or, Decidable.not_not] at this
    exact this
  | some t =>
    obtain ⟨_, h2, h3, h4⟩ := gfi_some _ _ _ h
    simp only [Option.getD_some]
    simp only [decide_eq_true_eq] at h3
    refine ⟨fun j j1 j2 => ?_, fun j j1 => ?_⟩
    · by_cases j0 : r j < 0
      · exact Or.inl j0
      · right
        by_cases e : j = t
        · subst e
          rcases h3 with q | q
          · exact absurd q j0
          · exact i_ne q (nf j j2)
        · obtain ⟨s1, s2⟩ := so t j (by omega) j2 j0
          rcases h3 with q | q
          · exact absurd q s1
          · exact i_tr q s2
    · have := h4 j (by omega) j1
      simp only [decide_eq_false_iff_not, not_or, Decidable.not_not] at this
      exact this
theorem gin_hi {r : Nat → Int32} {t c i : Nat} {v : Int32} (h : t < i) (h2 : i ≤ c) : gup (gsh r t c) t v i = r (i - 1) := by
  rw [gup_ne (by omega)]; unfold gsh; rw [if_pos ⟨h, h2⟩]
theorem gin_lo {r : Nat → Int32} {t c i : Nat} {v : Int32} (h : i < t) : gup (gsh r t c) t v i = r i := by
  rw [gup_ne (by omega)]; unfold gsh; rw [if_neg (by omega)]
theorem gO_ins {n c : Nat} {q : gQ} {p : gP} {a kd nm : Int32} (O : gO n 0 c q p) (c6 : c < 6) (nf : ∀ i, i < c → ¬ q.2.1 i = a) (hv : gV n 0 kd nm) : gO n 0 (c + 1) (gq_ins q c (gat q.2.1 c a) a kd nm) (gp_ins p c (gat q.2.1 c a) a kd nm) := by
  have ht := gat_le (r := q.2.1) (c := c) (a := a)
  have gs := gat_spec (a := a) (O.so rfl) nf
  have ha : a < 0 → gat q.2.1 c a = c := fun h => by unfold gat; rw [if_pos h]
  generalize gat q.2.1 c a = t at ht gs ha ⊢
  have cs : ∀ i, i < c + 1 → i = t ∨ (t < i ∧ i ≤ c) ∨ (i < t ∧ i < c) := fun i hi => by omega
  have f6 : q.2.2.2.2.1 6 = 0 := by rcases O.d4 with h | h; exact h; omega
  refine ⟨by omega, O.es, O.et, rfl, by show c + 1 ≤ 6; omega, O.ed, Or.inl f6, fun _ => rfl, fun h => absurd f6 h, ?_, fun h => by omega, ?_, ?_, ?_, fun h => by omega, ?_, fun h => by omega, fun h => by omega, fun h => by omega⟩
  · intro _ i hi
    show gup (gsh p.2.1 t c) t a i = gup (gsh q.2.1 t c) t a i
    rcases cs i hi with h | ⟨h1, h2⟩ | ⟨h1, h2⟩
    · subst h; rw [gup_eq, gup_eq]
    · rw [gin_hi h1 h2, gin_hi h1 h2, O.kE (Or.inl rfl) _ (by omega)]
    · rw [gin_lo h1, gin_lo h1, O.kE (Or.inl rfl) _ h2]
  · intro _ i hi
    show gup (gsh q.1 t c) t 4 i = 4
    rcases cs i hi with h | ⟨h1, h2⟩ | ⟨h1, h2⟩
    · subst h; rw [gup_eq]
    · rw [gin_hi h1 h2, O.k4 rfl _ (by omega)]
    · rw [gin_lo h1, O.k4 rfl _ h2]
  · intro _ i hi
    show gup (gsh p.2.2.1 t c) t kd i = gup (gsh q.2.2.1 t c) t kd i ∧ gup (gsh p.2.2.2.1 t c) t nm i = gup (gsh q.2.2.2.1 t c) t nm i
    rcases cs i hi with h | ⟨h1, h2⟩ | ⟨h1, h2⟩
    · subst h; simp only [gup_eq, and_self]
    · rw [gin_hi h1 h2, gin_hi h1 h2, gin_hi h1 h2, gin_hi h1 h2]; exact O.vs (by omega) _ (by omega)
    · rw [gin_lo h1, gin_lo h1, gin_lo h1, gin_lo h1]; exact O.vs (by omega) _ h2
  · intro _ i hi
    show gV n 0 (gup (gsh q.2.2.1 t c) t kd i) (gup (gsh q.2.2.2.1 t c) t nm i)
    rcases cs i hi with h | ⟨h1, h2⟩ | ⟨h1, h2⟩
    · subst h; rw [gup_eq, gup_eq]; exact hv
    · rw [gin_hi h1 h2, gin_hi h1 h2]; exact O.vv (by omega) _ (by omega)
    · rw [gin_lo h1, gin_lo h1]; exact O.vv (by omega) _ h2
  · intro _ i j hij hj
    show ¬ gup (gsh q.2.1 t c) t a j < 0 → ¬ gup (gsh q.2.1 t c) t a i < 0 ∧ gup (gsh q.2.1 t c) t a i < gup (gsh q.2.1 t c) t a j
    rcases cs j hj with h | ⟨h1, h2⟩ | ⟨h1, h2⟩
    · subst h
      rw [gup_eq, gin_lo hij]
      intro a0
      exact (gs a0).2 i hij
    · rw [gin_hi h1 h2]
      intro j0
      rcases cs i (by omega) with e | ⟨e1, e2⟩ | ⟨e1, e2⟩
      · subst e
        rw [gup_eq]
        by_cases a0 : a < 0
        · have := ha a0; omega
        · refine ⟨a0, ?_⟩
          rcases (gs a0).1 (j - 1) (by omega) (by omega) with q | q
          · exact absurd q j0
          · exact q
      · rw [gin_hi e1 e2]
        exact O.so rfl (i - 1) (j - 1) (by omega) (by omega) j0
      · rw [gin_lo e1]
        exact O.so rfl i (j - 1) (by omega) (by omega) j0
    · rw [gin_lo h1, gin_lo (by omega)]
      intro j0
      exact O.so rfl i j hij h2 j0
theorem gO_set {n s c j : Nat} {q : gQ} {p : gP} {kd nm : Int32} (O : gO n s c q p) (s3 : s ≤ 3) (hv : gV n s kd nm) : gO n s c ((q.1, q.2.1, gup q.2.2.1 j kd, gup q.2.2.2.1 j nm, q.2.2.2.2.1, q.2.2.2.2.2) : gQ) ((p.1, p.2.1, gup p.2.2.1 j kd, gup p.2.2.2.1 j nm, p.2.2.2.2.1, p.2.2.2.2.2.1, p.2.2.2.2.2.2.1, p.2.2.2.2.2.2.2) : gP) := by
  refine ⟨O.s8, O.es, O.et, O.ec, O.c8, O.ed, O.d4, O.ep, O.e0, O.kE, O.kK, O.k4, ?_, ?_, O.kv, O.so, fun h => by omega, fun h => by omega, fun h => by omega⟩
  · intro _ i hi
    show gup p.2.2.1 j kd i = gup q.2.2.1 j kd i ∧ gup p.2.2.2.1 j nm i = gup q.2.2.2.1 j nm i
    by_cases e : i = j
    · subst e; simp only [gup_eq, and_self]
    · rw [gup_ne e, gup_ne e, gup_ne e, gup_ne e]; exact O.vs s3 i hi
  · intro _ i hi
    show gV n s (gup q.2.2.1 j kd i) (gup q.2.2.2.1 j nm i)
    by_cases e : i = j
    · subst e; rw [gup_eq, gup_eq]; exact hv
    · rw [gup_ne e, gup_ne e]; exact O.vv s3 i hi
def gq_del (q : gQ) (t c : Nat) : gQ := ((q.1, gdl q.2.1 t (c + 1), gdl q.2.2.1 t (c + 1), gdl q.2.2.2.1 t (c + 1), gup q.2.2.2.2.1 5 (Int32.ofNat c), q.2.2.2.2.2) : gQ)
def gp_del (p : gP) (t c : Nat) : gP := ((p.1, gdl p.2.1 t (c + 1), gdl p.2.2.1 t (c + 1), gdl p.2.2.2.1 t (c + 1), p.2.2.2.2.1, Int32.ofNat c, p.2.2.2.2.2.2.1, p.2.2.2.2.2.2.2) : gP)
theorem gdl_hi {r : Nat → Int32} {t c i : Nat} (h : t ≤ i) (h2 : i < c) : gdl r t (c + 1) i = r (i + 1) := by
  unfold gdl; rw [if_pos (by omega)]
theorem gdl_lo {r : Nat → Int32} {t c i : Nat} (h : i < t) : gdl r t (c + 1) i = r i := by
  unfold gdl; rw [if_neg (by omega)]
theorem gO_del {n c t : Nat} {q : gQ} {p : gP} (O : gO n 0 (c + 1) q p) : gO n 0 c (gq_del q t c) (gp_del p t c) := by
  have f6 : q.2.2.2.2.1 6 = 0 := by rcases O.d4 with h | h; exact h; omega
  have c6 : c + 1 ≤ 6 := O.c8
  have cs : ∀ i, t ≤ i ∨ i < t := fun i => by omega
  refine ⟨by omega, O.es, O.et, rfl, by show c ≤ 6; omega, O.ed, Or.inl f6, fun _ => rfl, fun h => absurd f6 h, ?_, fun h => by omega, ?_, ?_, ?_, fun h => by omega, ?_, fun h => by omega, fun h => by omega, fun h => by omega⟩
  · intro _ i hi
    show gdl p.2.1 t (c + 1) i = gdl q.2.1 t (c + 1) i
    rcases cs i with h | h
    · rw [gdl_hi h hi, gdl_hi h hi, O.kE (Or.inl rfl) _ (by omega)]
    · rw [gdl_lo h, gdl_lo h, O.kE (Or.inl rfl) _ (by omega)]
  · intro _ i hi
    exact O.k4 rfl i (by omega)
  · intro _ i hi
    show gdl p.2.2.1 t (c + 1) i = gdl q.2.2.1 t (c + 1) i ∧ gdl p.2.2.2.1 t (c + 1) i = gdl q.2.2.2.1 t (c + 1) i
    rcases cs i with h | h
    · rw [gdl_hi h hi, gdl_hi h hi, gdl_hi h hi, gdl_hi h hi]; exact O.vs (by omega) _ (by omega)
    · rw [gdl_lo h, gdl_lo h, gdl_lo h, gdl_lo h]; exact O.vs (by omega) _ (by omega)
  · intro _ i hi
    show gV n 0 (gdl q.2.2.1 t (c + 1) i) (gdl q.2.2.2.1 t (c + 1) i)
    rcases cs i with h | h
    · rw [gdl_hi h hi, gdl_hi h hi]; exact O.vv (by omega) _ (by omega)
    · rw [gdl_lo h, gdl_lo h]; exact O.vv (by omega) _ (by omega)
  · intro _ i j hij hj
    show ¬ gdl q.2.1 t (c + 1) j < 0 → ¬ gdl q.2.1 t (c + 1) i < 0 ∧ gdl q.2.1 t (c + 1) i < gdl q.2.1 t (c + 1) j
    rcases cs j with h | h
    · rw [gdl_hi h hj]
      intro j0
      rcases cs i with h2 | h2
      · rw [gdl_hi h2 (by omega)]; exact O.so rfl (i + 1) (j + 1) (by omega) (by omega) j0
      · rw [gdl_lo h2]; exact O.so rfl i (j + 1) (by omega) (by omega) j0
    · rw [gdl_lo h, gdl_lo (by omega)]
      intro j0
      exact O.so rfl i j hij (by omega) j0
section H
variable {u : gU} {x : gX} {o : Nat → Int64} {z : gx_H}
/-- a record's rows agree, so both sides look a key up alike -/
theorem rec_find {n c : Nat} {q : gQ} {p : gP} {a : Int32} (O : gO n 0 c q p) : gfi (fun i => decide (q.1 i = 4 ∧ q.2.1 i = a)) c 0 = gfi (fun i => decide (p.2.1 i = a)) c 0 := by
  refine gfi_congr _ _ fun t _ ht => ?_
  have ht : t < c := by omega
  rw [O.kE (Or.inl rfl) t ht, O.k4 rfl t ht]
  simp
theorem rec_gat {n c : Nat} {q : gQ} {p : gP} {a : Int32} (O : gO n 0 c q p) : gat p.2.1 c a = gat q.2.1 c a := by
  unfold gat
  split
  · rfl
  · rw [gfi_congr (P := fun i => decide (p.2.1 i < 0 ∨ ¬ p.2.1 i < a)) (Q := fun i => decide (q.2.1 i < 0 ∨ ¬ q.2.1 i < a)) c 0 fun t _ ht => ?_]
    rw [O.kE (Or.inl rfl) t (by omega)]
theorem gis_neg {k j : Nat} (h : 8 * k + j < 2 ^ 31) : ¬ gis k (some j) < 0 := n_nn h
theorem rec_f6 {n c : Nat} {q : gQ} {p : gP} (O : gO n 0 c q p) : p.2.2.2.2.2.1 = Int32.ofNat c := O.ep (by rcases O.d4 with h | h; exact h; omega)
theorem r_setProp {n k c : Nat} {a kd nm : Int32} {q : gQ} (hk : k < 32) (O : gO n 0 c q (x.1 k)) : ∀ y o z, mM_setProperty (some 188) (Int32.ofNat k) a kd nm (gH y x o z) = match gfi (fun i => decide (q.1 i = 4 ∧ q.2.1 i = a)) c 0 with
    | some j => some (gH y ((gup x.1 k (((x.1 k).1, (x.1 k).2.1, gup (x.1 k).2.2.1 j kd, gup (x.1 k).2.2.2.1 j (gcn kd nm), (x.1 k).2.2.2.2.1, (x.1 k).2.2.2.2.2.1, (x.1 k).2.2.2.2.2.2.1, (x.1 k).2.2.2.2.2.2.2) : gP), x.2.1, x.2.2.1, x.2.2.2.1, x.2.2.2.2.1, x.2.2.2.2.2.1, x.2.2.2.2.2.2.1, x.2.2.2.2.2.2.2.1, x.2.2.2.2.2.2.2.2.1, x.2.2.2.2.2.2.2.2.2.1, x.2.2.2.2.2.2.2.2.2.2.1, x.2.2.2.2.2.2.2.2.2.2.2.1, x.2.2.2.2.2.2.2.2.2.2.2.2.1, x.2.2.2.2.2.2.2.2.2.2.2.2.2.1, x.2.2.2.2.2.2.2.2.2.2.2.2.2.2.1, x.2.2.2.2.2.2.2.2.2.2.2.2.2.2.2) : gX) o z)
    | none => some (gH y ((gup x.1 k (gp_ins (x.1 k) c (gat q.2.1 c a) a kd (gcn kd nm)), x.2.1, x.2.2.1, x.2.2.2.1, x.2.2.2.2.1, x.2.2.2.2.2.1, x.2.2.2.2.2.2.1, x.2.2.2.2.2.2.2.1, x.2.2.2.2.2.2.2.2.1, x.2.2.2.2.2.2.2.2.2.1, x.2.2.2.2.2.2.2.2.2.2.1, x.2.2.2.2.2.2.2.2.2.2.2.1, x.2.2.2.2.2.2.2.2.2.2.2.2.1, x.2.2.2.2.2.2.2.2.2.2.2.2.2.1, x.2.2.2.2.2.2.2.2.2.2.2.2.2.2.1, x.2.2.2.2.2.2.2.2.2.2.2.2.2.2.2) : gX) o z) := by
  intro y o z
  have c6 : c ≤ 6 := O.c8
  have h5 := rec_f6 O
  unfold mM_setProperty
  rw [ho_188, Option.bind_some, r_slot hk h5 (by omega), Option.bind_some, ← rec_find O]
  cases h : gfi (fun i => decide (q.1 i = 4 ∧ q.2.1 i = a)) c 0 with
  | some j =>
    have hj := (gfi_some _ _ _ h).2.1
    have j8 : j < 8 := by omega
    dsimp only
    rw [if_neg (gis_neg (by omega))]
    simp only [gis, mM_setProperty_118, ho_188, Option.bind_some, r_setSlot hk j8]
  | none =>
    have nf := gfi_none _ _ h
    have ht := gat_le (r := q.2.1) (c := c) (a := a)
    have gs := gat_spec (a := a) (O.so rfl) (fun i hi e => by
      have := nf i (by omega) (by omega)
      simp only [decide_eq_false_iff_not, not_and] at this
      exact this (O.k4 rfl i hi) e)
    have ha : a < 0 → gat q.2.1 c a = c := fun h => by unfold gat; rw [if_pos h]
    dsimp only
    rw [if_pos (show gis k none < 0 by show (-1 : Int32) < 0; decide), hr_188_3, Option.bind_some, ha_190 hk, Option.bind_some, h5]
    have := r_insL (u := y) (o := o) (z := z) (a := a) (kd := kd) (nm := nm) (c := c) hk ht (c - gat q.2.1 c a) (1000000000000000 - (c - gat q.2.1 c a) - 1) x (by omega) h5 (fun q => by have := ha q; omega) ?_ ?_
    · rw [show 1000000000000000 - (c - gat q.2.1 c a) - 1 + (c - gat q.2.1 c a) + 1 = 1000000000000000 by omega, show gat q.2.1 c a + (c - gat q.2.1 c a) = c by omega] at this
      rw [this]
      rfl
    · intro j j1 j2
      by_cases a0 : a < 0
      · have := ha a0; omega
      · rw [O.kE (Or.inl rfl) j (by omega)]
        exact (gs a0).1 j j1 (by omega)
    · intro a0
      by_cases t0 : gat q.2.1 c a = 0
      · exact Or.inl t0
      · right
        obtain ⟨e1, e2⟩ := (gs a0).2 (gat q.2.1 c a - 1) (by omega)
        rw [O.kE (Or.inl rfl) _ (by omega)]
        refine ⟨e1, fun q => ?_⟩
        rw [Int32.lt_iff_toInt_lt] at e2 q
        omega
/-- setting a property: both sides, or the class has no room -/
theorem sp_tie {n k c : Nat} {a kd nm : Int32} (hk : k < 32) (O : gO n 0 c (u.1 k) (x.1 k)) (hv : gV n 0 kd (gcn kd nm)) : (∃ q' p' c', (∀ y o z, cT_setProperty (some (3 + 5 * k)) a kd (gcn kd nm) (gH u y o z) = some (1, gH ((gup u.1 k q', u.2.1, u.2.2.1, u.2.2.2.1, u.2.2.2.2.1, u.2.2.2.2.2.1, u.2.2.2.2.2.2.1, u.2.2.2.2.2.2.2.1, u.2.2.2.2.2.2.2.2.1, u.2.2.2.2.2.2.2.2.2.1, u.2.2.2.2.2.2.2.2.2.2.1, u.2.2.2.2.2.2.2.2.2.2.2.1, u.2.2.2.2.2.2.2.2.2.2.2.2.1, u.2.2.2.2.2.2.2.2.2.2.2.2.2.1, u.2.2.2.2.2.2.2.2.2.2.2.2.2.2) : gU) y o z)) ∧ (∀ (w : gX), w.1 = x.1 → ∀ y o z, mM_setProperty (some 188) (Int32.ofNat k) a kd nm (gH y w o z) = some (gH y ((gup x.1 k p', w.2.1, w.2.2.1, w.2.2.2.1, w.2.2.2.2.1, w.2.2.2.2.2.1, w.2.2.2.2.2.2.1, w.2.2.2.2.2.2.2.1, w.2.2.2.2.2.2.2.2.1, w.2.2.2.2.2.2.2.2.2.1, w.2.2.2.2.2.2.2.2.2.2.1, w.2.2.2.2.2.2.2.2.2.2.2.1, w.2.2.2.2.2.2.2.2.2.2.2.2.1, w.2.2.2.2.2.2.2.2.2.2.2.2.2.1, w.2.2.2.2.2.2.2.2.2.2.2.2.2.2.1, w.2.2.2.2.2.2.2.2.2.2.2.2.2.2.2) : gX) o z)) ∧ gO n 0 c' q' p' ∧ (c < 6 ∨ ¬ gfi (fun i => decide ((u.1 k).1 i = 4 ∧ (u.1 k).2.1 i = a)) c 0 = none)) ∨ ((∀ y o z, cT_setProperty (some (3 + 5 * k)) a kd (gcn kd nm) (gH u y o z) = some (0, gH u y o z)) ∧ c = 6 ∧ gfi (fun i => decide ((u.1 k).1 i = 4 ∧ (u.1 k).2.1 i = a)) c 0 = none) := by
  have c6 : c ≤ 6 := O.c8
  have e1 := fun y o z => k_setProp (x := y) (o := o) (z := z) (a := a) (kd := kd) (nm := gcn kd nm) hk O.ec c6
  have e2 : ∀ (w : gX), w.1 = x.1 → ∀ y o z, _ := fun w hw y o z => r_setProp (x := w) (q := u.1 k) (a := a) (kd := kd) (nm := nm) hk (by rw [hw]; exact O) y o z
  cases h : gfi (fun i => decide ((u.1 k).1 i = 4 ∧ (u.1 k).2.1 i = a)) c 0 with
  | some j =>
    rw [h] at e1
    refine Or.inl ⟨_, _, c, e1, fun w hw y o z => ?_, gO_set O (by omega) hv, Or.inr (by simp)⟩
    have := e2 w hw y o z
    rw [h, hw] at this
    exact this
  | none =>
    rw [h] at e1
    have nf := gfi_none _ _ h
    by_cases c5 : c < 6
    · refine Or.inl ⟨_, _, c + 1, fun y o z => (e1 y o z).trans (if_pos c5), fun w hw y o z => ?_, gO_ins O c5 (fun i hi e => ?_) hv, Or.inl c5⟩
      · have := e2 w hw y o z
        rw [h, hw] at this
        exact this
      have := nf i (by omega) (by omega)
      simp only [decide_eq_false_iff_not, not_and] at this
      exact this (O.k4 rfl i hi) e
    · exact Or.inr ⟨fun y o z => (e1 y o z).trans (if_neg c5), by omega, rfl⟩
theorem k_dropL {k c : Nat} (hk : k < 32) (hc : c < 8) : ∀ (m t f : Nat) (u : gU), t + m = c → (u.1 k).2.2.2.2.1 5 = Int32.ofNat (c + 1) → cT_dropProperty_16 (f + m + 1) (some (3 + 5 * k)) (Int32.ofNat t) (gH u x o z) = some (1, gH ((gup u.1 k (gq_del (u.1 k) t c), u.2.1, u.2.2.1, u.2.2.2.1, u.2.2.2.2.1, u.2.2.2.2.2.1, u.2.2.2.2.2.2.1, u.2.2.2.2.2.2.2.1, u.2.2.2.2.2.2.2.2.1, u.2.2.2.2.2.2.2.2.2.1, u.2.2.2.2.2.2.2.2.2.2.1, u.2.2.2.2.2.2.2.2.2.2.2.1, u.2.2.2.2.2.2.2.2.2.2.2.2.1, u.2.2.2.2.2.2.2.2.2.2.2.2.2.1, u.2.2.2.2.2.2.2.2.2.2.2.2.2.2) : gU) x o z) := by
  intro m
  induction m with
  | zero =>
    intro t f u h h5
    rw [cT_dropProperty_16, hiT_5 hk, Option.bind_some, h5, n_succ, if_neg (n_nltl (by omega) (by omega) (by omega)), Option.bind_some, n_pred, hpT_5 hk, Option.bind_some]
    simp only [gq_del, gdl_base (show c + 1 ≤ t + 1 by omega)]
  | succ m ih =>
    intro t f u h h5
    have t8 : t < 8 := by omega
    have s8 : t + 1 < 8 := by omega
    rw [show f + (m + 1) + 1 = (f + m + 1) + 1 by omega, cT_dropProperty_16, hiT_5 hk, Option.bind_some, h5, n_succ, if_pos (n_ltl (by omega) (by omega) (by omega))]
    simp only [hrT_1 hk, hrT_2 hk, hrT_3 hk, Option.bind_some, haT_2 hk s8, haT_3 hk s8, haT_4 hk s8, hbT_2 hk t8, ho_T hk, k_setValue hk t8, gup_eq, gup_gup]
    rw [ih (t + 1) f ((gup u.1 k (((u.1 k).1, gup (u.1 k).2.1 t ((u.1 k).2.1 (t + 1)), gup (u.1 k).2.2.1 t ((u.1 k).2.2.1 (t + 1)), gup (u.1 k).2.2.2.1 t ((u.1 k).2.2.2.1 (t + 1)), (u.1 k).2.2.2.2.1, (u.1 k).2.2.2.2.2) : gQ), u.2.1, u.2.2.1, u.2.2.2.1, u.2.2.2.2.1, u.2.2.2.2.2.1, u.2.2.2.2.2.2.1, u.2.2.2.2.2.2.2.1, u.2.2.2.2.2.2.2.2.1, u.2.2.2.2.2.2.2.2.2.1, u.2.2.2.2.2.2.2.2.2.2.1, u.2.2.2.2.2.2.2.2.2.2.2.1, u.2.2.2.2.2.2.2.2.2.2.2.2.1, u.2.2.2.2.2.2.2.2.2.2.2.2.2.1, u.2.2.2.2.2.2.2.2.2.2.2.2.2.2) : gU) (by omega) (by simp only [gup_eq]; exact h5)]
    simp only [gq_del, gup_eq, gup_gup, gdl_step (show t + 1 < c + 1 by omega)]
theorem r_dropL {k c : Nat} (hk : k < 32) (hc : c < 8) : ∀ (m t f : Nat) (x : gX), t + m = c → (x.1 k).2.2.2.2.2.1 = Int32.ofNat c → mM_takeProperty_26 (f + m + 1) (some 188) (Int32.ofNat k) (Int32.ofNat (8 * k + t)) (gH u x o z) = some (1, gH u ((gup x.1 k (((x.1 k).1, gdl (x.1 k).2.1 t (c + 1), gdl (x.1 k).2.2.1 t (c + 1), gdl (x.1 k).2.2.2.1 t (c + 1), (x.1 k).2.2.2.2.1, Int32.ofNat c, (x.1 k).2.2.2.2.2.2.1, (x.1 k).2.2.2.2.2.2.2) : gP), x.2.1, x.2.2.1, x.2.2.2.1, x.2.2.2.2.1, x.2.2.2.2.2.1, x.2.2.2.2.2.2.1, x.2.2.2.2.2.2.2.1, x.2.2.2.2.2.2.2.2.1, x.2.2.2.2.2.2.2.2.2.1, x.2.2.2.2.2.2.2.2.2.2.1, x.2.2.2.2.2.2.2.2.2.2.2.1, x.2.2.2.2.2.2.2.2.2.2.2.2.1, x.2.2.2.2.2.2.2.2.2.2.2.2.2.1, x.2.2.2.2.2.2.2.2.2.2.2.2.2.2.1, x.2.2.2.2.2.2.2.2.2.2.2.2.2.2.2) : gX) o z) := by
  intro m
  induction m with
  | zero =>
    intro t f x h h5
    rw [mM_takeProperty_26, hr_188_3, Option.bind_some, ha_190 hk, Option.bind_some, h5, n_8, if_neg (n_nltl (by omega) (by omega) (by omega))]
    simp only [gdl_base (show c + 1 ≤ t + 1 by omega)]
    rw [← h5, show ((((x.1 k).1, (x.1 k).2.1, (x.1 k).2.2.1, (x.1 k).2.2.2.1, (x.1 k).2.2.2.2.1, (x.1 k).2.2.2.2.2.1, (x.1 k).2.2.2.2.2.2.1, (x.1 k).2.2.2.2.2.2.2) : gP) : gP) = x.1 k from rfl, gup_self]
  | succ m ih =>
    intro t f x h h5
    have t8 : t < 8 := by omega
    have s8 : t + 1 < 8 := by omega
    have cs := r_copySlot (u := u) (x := x) (o := o) (z := z) (k := k) (i := t + 1) (j := t) hk s8 t8
    rw [show 8 * k + (t + 1) = 8 * k + t + 1 by omega] at cs
    rw [show f + (m + 1) + 1 = (f + m + 1) + 1 by omega, mM_takeProperty_26, hr_188_3, Option.bind_some, ha_190 hk, Option.bind_some, h5, n_8, if_pos (n_ltl (by omega) (by omega) (by omega)), ho_188, Option.bind_some, n_succ, cs, Option.bind_some, show 8 * k + t + 1 = 8 * k + (t + 1) by omega]
    rw [ih (t + 1) f ((gup x.1 k (((x.1 k).1, gup (x.1 k).2.1 t ((x.1 k).2.1 (t + 1)), gup (x.1 k).2.2.1 t ((x.1 k).2.2.1 (t + 1)), gup (x.1 k).2.2.2.1 t ((x.1 k).2.2.2.1 (t + 1)), (x.1 k).2.2.2.2.1, (x.1 k).2.2.2.2.2.1, (x.1 k).2.2.2.2.2.2.1, (x.1 k).2.2.2.2.2.2.2) : gP), x.2.1, x.2.2.1, x.2.2.2.1, x.2.2.2.2.1, x.2.2.2.2.2.1, x.2.2.2.2.2.2.1, x.2.2.2.2.2.2.2.1, x.2.2.2.2.2.2.2.2.1, x.2.2.2.2.2.2.2.2.2.1, x.2.2.2.2.2.2.2.2.2.2.1, x.2.2.2.2.2.2.2.2.2.2.2.1, x.2.2.2.2.2.2.2.2.2.2.2.2.1, x.2.2.2.2.2.2.2.2.2.2.2.2.2.1, x.2.2.2.2.2.2.2.2.2.2.2.2.2.2.1, x.2.2.2.2.2.2.2.2.2.2.2.2.2.2.2) : gX) (by omega) (by simp only [gup_eq]; exact h5)]
    simp only [gup_eq, gup_gup, gdl_step (show t + 1 < c + 1 by omega)]
/-- taking a property away, on both sides -/
theorem dp_tie {n k c : Nat} {a : Int32} (hk : k < 32) (O : gO n 0 c (u.1 k) (x.1 k)) : ∃ r q' p' c', (r = 0 ∨ r = 1) ∧ (∀ y o z, cT_dropProperty (some (3 + 5 * k)) a (gH u y o z) = some (r, gH ((gup u.1 k q', u.2.1, u.2.2.1, u.2.2.2.1, u.2.2.2.2.1, u.2.2.2.2.2.1, u.2.2.2.2.2.2.1, u.2.2.2.2.2.2.2.1, u.2.2.2.2.2.2.2.2.1, u.2.2.2.2.2.2.2.2.2.1, u.2.2.2.2.2.2.2.2.2.2.1, u.2.2.2.2.2.2.2.2.2.2.2.1, u.2.2.2.2.2.2.2.2.2.2.2.2.1, u.2.2.2.2.2.2.2.2.2.2.2.2.2.1, u.2.2.2.2.2.2.2.2.2.2.2.2.2.2) : gU) y o z)) ∧ (∀ (w : gX), w.1 = x.1 → ∀ y o z, mM_takeProperty (some 188) (Int32.ofNat k) a (gH y w o z) = some (r, gH y ((gup x.1 k p', w.2.1, w.2.2.1, w.2.2.2.1, w.2.2.2.2.1, w.2.2.2.2.2.1, w.2.2.2.2.2.2.1, w.2.2.2.2.2.2.2.1, w.2.2.2.2.2.2.2.2.1, w.2.2.2.2.2.2.2.2.2.1, w.2.2.2.2.2.2.2.2.2.2.1, w.2.2.2.2.2.2.2.2.2.2.2.1, w.2.2.2.2.2.2.2.2.2.2.2.2.1, w.2.2.2.2.2.2.2.2.2.2.2.2.2.1, w.2.2.2.2.2.2.2.2.2.2.2.2.2.2.1, w.2.2.2.2.2.2.2.2.2.2.2.2.2.2.2) : gX) o z)) ∧ gO n 0 c' q' p' := by
  have c6 : c ≤ 6 := O.c8
  have h5 := rec_f6 O
  have e1 := fun y o z => k_index (x := y) (o := o) (z := z) (a := 4) (b := a) hk O.ec (show c ≤ 8 by omega)
  have e2 : ∀ (w : gX), w.1 = x.1 → ∀ y o z, mM_slotOf (some 188) (Int32.ofNat k) a (gH y w o z) = some (gis k (gfi (fun i => decide ((u.1 k).1 i = 4 ∧ (u.1 k).2.1 i = a)) c 0)) := fun w hw y o z => by
    rw [r_slot (u := y) (x := w) (o := o) (z := z) (b := a) hk (by rw [hw]; exact h5) (show c ≤ 8 by omega), hw, rec_find O]
  cases h : gfi (fun i => decide ((u.1 k).1 i = 4 ∧ (u.1 k).2.1 i = a)) c 0 with
  | none =>
    rw [h] at e1 e2
    refine ⟨0, u.1 k, x.1 k, c, Or.inl rfl, fun y o z => ?_, fun w hw y o z => ?_, O⟩
    · simp only [cT_dropProperty, ho_T hk, Option.bind_some, e1, gio, if_true, gup_self]
    · simp only [mM_takeProperty, ho_188, Option.bind_some, e2 w hw, gis, if_pos (show (-1 : Int32) < 0 by decide), gup_self, ← hw]
  | some t =>
    rw [h] at e1 e2
    have ht := (gfi_some _ _ _ h).2.1
    obtain ⟨c, rfl⟩ : ∃ d, c = d + 1 := ⟨c - 1, by omega⟩
    refine ⟨1, gq_del (u.1 k) t c, gp_del (x.1 k) t c, c, Or.inr rfl, fun y o z => ?_, fun w hw y o z => ?_, gO_del O⟩
    · have := k_dropL (x := y) (o := o) (z := z) hk (show c < 8 by omega) (c - t) t (1000000000000000 - (c - t) - 1) u (by omega) O.ec
      rw [show 1000000000000000 - (c - t) - 1 + (c - t) + 1 = 1000000000000000 by omega] at this
      simp only [cT_dropProperty, ho_T hk, Option.bind_some, e1, gio, if_neg (n_ne1 (n := t) (by omega)), this]
    · have := r_dropL (u := y) (o := o) (z := z) hk (show c < 8 by omega) (c - t) t (1000000000000000 - (c - t) - 1) ((gup w.1 k (((w.1 k).1, (w.1 k).2.1, (w.1 k).2.2.1, (w.1 k).2.2.2.1, (w.1 k).2.2.2.2.1, Int32.ofNat c, (w.1 k).2.2.2.2.2.2.1, (w.1 k).2.2.2.2.2.2.2) : gP), w.2.1, w.2.2.1, w.2.2.2.1, w.2.2.2.2.1, w.2.2.2.2.2.1, w.2.2.2.2.2.2.1, w.2.2.2.2.2.2.2.1, w.2.2.2.2.2.2.2.2.1, w.2.2.2.2.2.2.2.2.2.1, w.2.2.2.2.2.2.2.2.2.2.1, w.2.2.2.2.2.2.2.2.2.2.2.1, w.2.2.2.2.2.2.2.2.2.2.2.2.1, w.2.2.2.2.2.2.2.2.2.2.2.2.2.1, w.2.2.2.2.2.2.2.2.2.2.2.2.2.2.1, w.2.2.2.2.2.2.2.2.2.2.2.2.2.2.2) : gX) (by omega) (by simp only [gup_eq])
      rw [show 1000000000000000 - (c - t) - 1 + (c - t) + 1 = 1000000000000000 by omega] at this
      simp only [hw, gup_eq, gup_gup] at this
      simp only [mM_takeProperty, ho_188, Option.bind_some, e2 w hw, gis, if_neg (n_nn (n := 8 * k + t) (by omega)), hr_188_3, ha_190 hk, h5, n_pred, hb_190 hk, this, gup_eq, gup_gup, hw, gp_del]
end H
end
section
/-! put, take, entry, add -/
section H
variable {u : gU} {x : gX} {o : Nat → Int64} {z : gx_H}
def gAnsV (u : gU) (x : gX) (o : Nat → Int64) (z : gx_H) (L : gx_H → Option (Int32 × gx_H)) (M : gx_H → Option gx_H) : Prop := ∃ e u' z' x', L (gH u x o z) = some (e, gH u' x o z') ∧ M (gH u' x o z') = some (gH u' x' o z') ∧ x'.2.1 0 = e ∧ gTT u' x' ∧ z'.length ≤ z.length + 1
/-- as gAns, but nothing of what both answer -/
def gAnsT (u : gU) (x : gX) (o : Nat → Int64) (z : gx_H) (L : gx_H → Option (Int32 × gx_H)) (M : gx_H → Option (Int32 × gx_H)) : Prop := ∃ e u' o' z' r x', L (gH u x o z) = some (e, gH u' x o' z') ∧ M (gH u' x o' z') = some (r, gH u' x' o' z') ∧ x'.2.1 0 = e ∧ gTT u' x' ∧ z'.length ≤ z.length + 1
theorem gT_0 {n m p q : Nat} {v : Int32} (T : gTi n m p q u x) : gTi n m p q u ((x.1, gup x.2.1 0 v, x.2.2.1, x.2.2.2.1, x.2.2.2.2.1, x.2.2.2.2.2.1, x.2.2.2.2.2.2.1, x.2.2.2.2.2.2.2.1, x.2.2.2.2.2.2.2.2.1, x.2.2.2.2.2.2.2.2.2.1, x.2.2.2.2.2.2.2.2.2.2.1, x.2.2.2.2.2.2.2.2.2.2.2.1, x.2.2.2.2.2.2.2.2.2.2.2.2.1, x.2.2.2.2.2.2.2.2.2.2.2.2.2.1, x.2.2.2.2.2.2.2.2.2.2.2.2.2.2.1, x.2.2.2.2.2.2.2.2.2.2.2.2.2.2.2) : gX) :=
  ⟨T.hn, T.un, T.xn, T.ob, T.hm, T.um, T.xm, T.bs, T.b8, T.hp, T.up, T.xp, T.pa, T.pb, T.hq, T.uq, T.xq, T.ho, T.fo⟩
theorem r_put0 {a b c d : Int32} : mM_put_79 (some 188) a b c d 0 1 (gH u x o z) = some (gH u ((x.1, gup x.2.1 0 1, x.2.2.1, x.2.2.2.1, x.2.2.2.2.1, x.2.2.2.2.2.1, x.2.2.2.2.2.2.1, x.2.2.2.2.2.2.2.1, x.2.2.2.2.2.2.2.2.1, x.2.2.2.2.2.2.2.2.2.1, x.2.2.2.2.2.2.2.2.2.2.1, x.2.2.2.2.2.2.2.2.2.2.2.1, x.2.2.2.2.2.2.2.2.2.2.2.2.1, x.2.2.2.2.2.2.2.2.2.2.2.2.2.1, x.2.2.2.2.2.2.2.2.2.2.2.2.2.2.1, x.2.2.2.2.2.2.2.2.2.2.2.2.2.2.2) : gX) o z) := by
  simp only [mM_put_79, if_true, mM_put_113, mM_put_114, ho_188, Option.bind_some, r_ref] <;> rfl
theorem r_putS {n k c : Nat} {a kd nm s : Int32} {q : gQ} (hk : k < 32) (O : gO n 0 c q (x.1 k)) : mM_put_79 (some 188) (Int32.ofNat k) a kd nm 1 s (gH u x o z) = mM_put_114 (some 188) (Int32.ofNat k) a kd nm 1 (some 188) s (if gfi (fun i => decide (q.1 i = 4 ∧ q.2.1 i = a)) c 0 = none ∧ c = 6 then 1 else 0) (gH u x o z) := by
  have c6 : c ≤ 6 := O.c8
  have h5 := rec_f6 O
  have d10 : ¬ (1 : Int32) = 0 := by decide
  simp only [mM_put_79, if_neg d10, ho_188, Option.bind_some, r_slot hk h5 (show c ≤ 8 by omega), ← rec_find O]
  cases h : gfi (fun i => decide (q.1 i = 4 ∧ q.2.1 i = a)) c 0 with
  | some j =>
    have hj := (gfi_some _ _ _ h).2.1
    rw [if_neg (gis_neg (k := k) (j := j) (by omega))]
    simp only [mM_put_113, reduceCtorEq, false_and, if_false]
  | none =>
    simp only [gis, if_pos (show (-1 : Int32) < 0 by decide), hr_188_3, Option.bind_some, ha_190 hk, h5, true_and]
    by_cases e : c = 6
    · subst e; rfl
    · rw [if_neg (show ¬ Int32.ofNat c = 6 from fun q => e ((n_eq (m := 6) (by omega) (by omega)).mp q)), if_neg e]; rfl
theorem t_put {b key kd nm : Int32} (h : gTT u x) : gAnsV u x o z (lw_put (some 0) b key kd nm) (mM_put (some 188) b key kd nm) := by
  obtain ⟨n, m, p, q, T⟩ := h
  have hn := T.hn
  have d10 : ¬ (1 : Int32) = 0 := by decide
  obtain ⟨r, r1, r2, r3, r4⟩ := v_eq (k := kd) (v := nm) T.un T.xn hn
  have no : (∀ h : gx_H, h = gH u x o z → cG_put (some 0) b key kd nm h = cG_put_28 h) → (∀ z, mM_put (some 188) b key kd nm (gH u x o z) = some (gH u ((x.1, gup x.2.1 0 1, x.2.2.1, x.2.2.2.1, x.2.2.2.2.1, x.2.2.2.2.2.1, x.2.2.2.2.2.2.1, x.2.2.2.2.2.2.2.1, x.2.2.2.2.2.2.2.2.1, x.2.2.2.2.2.2.2.2.2.1, x.2.2.2.2.2.2.2.2.2.2.1, x.2.2.2.2.2.2.2.2.2.2.2.1, x.2.2.2.2.2.2.2.2.2.2.2.2.1, x.2.2.2.2.2.2.2.2.2.2.2.2.2.1, x.2.2.2.2.2.2.2.2.2.2.2.2.2.2.1, x.2.2.2.2.2.2.2.2.2.2.2.2.2.2.2) : gX) o z)) → gAnsV u x o z (lw_put (some 0) b key kd nm) (mM_put (some 188) b key kd nm) := by
    intro h1 h2
    refine ⟨1, u, z ++ [(8, [])], ((x.1, gup x.2.1 0 1, x.2.2.1, x.2.2.2.1, x.2.2.2.2.1, x.2.2.2.2.2.1, x.2.2.2.2.2.2.1, x.2.2.2.2.2.2.2.1, x.2.2.2.2.2.2.2.2.1, x.2.2.2.2.2.2.2.2.2.1, x.2.2.2.2.2.2.2.2.2.2.1, x.2.2.2.2.2.2.2.2.2.2.2.1, x.2.2.2.2.2.2.2.2.2.2.2.2.1, x.2.2.2.2.2.2.2.2.2.2.2.2.2.1, x.2.2.2.2.2.2.2.2.2.2.2.2.2.2.1, x.2.2.2.2.2.2.2.2.2.2.2.2.2.2.2) : gX), ?_, h2 _, rfl, gTT_0 ⟨n, m, p, q, T⟩, by simp⟩
    simp only [lw_put, ho_0, Option.bind_some, h1 _ rfl, cG_put_28, hl, hthr, hexc] <;> rfl
  have both : ∀ z, mM_is (some 188) b 0 (gH u x o z) = some 0 → mM_is (some 188) b 1 (gH u x o z) = some 0 → mM_put (some 188) b key kd nm (gH u x o z) = some (gH u ((x.1, gup x.2.1 0 1, x.2.2.1, x.2.2.2.1, x.2.2.2.2.1, x.2.2.2.2.2.1, x.2.2.2.2.2.2.1, x.2.2.2.2.2.2.2.1, x.2.2.2.2.2.2.2.2.1, x.2.2.2.2.2.2.2.2.2.1, x.2.2.2.2.2.2.2.2.2.2.1, x.2.2.2.2.2.2.2.2.2.2.2.1, x.2.2.2.2.2.2.2.2.2.2.2.2.1, x.2.2.2.2.2.2.2.2.2.2.2.2.2.1, x.2.2.2.2.2.2.2.2.2.2.2.2.2.2.1, x.2.2.2.2.2.2.2.2.2.2.2.2.2.2.2) : gX) o z) := by
    intro z h1 h2
    simp only [mM_put, ho_188, Option.bind_some, h1, h2, r3]
    rcases r1 with rfl | rfl
    · simp only [if_true, mM_put_41, mM_put_42, mM_put_74, r_put0]
    · simp only [if_neg d10, mM_put_37, mM_put_42, if_true, mM_put_74, r_put0]
  rcases g_ob b n (by omega) with c | ⟨k, hk, rfl⟩
  · refine no (fun h e => ?_) (fun z => both z (r_isout T.xn c) (r_isout T.xn c))
    subst e
    simp only [cG_put, hr_0_0, Option.bind_some, ho_1, k_tout T.un c, if_true]
  · obtain ⟨s, c, O⟩ := T.ob k hk
    have hk2 : k < 32 := by omega
    obtain ⟨_, _, _, e0, e1, _⟩ := n_s6 s O.s8
    by_cases s0 : s = 0
    · subst s0
      have c6 : c ≤ 6 := O.c8
      have i0 : ∀ y z, mM_is (some 188) (Int32.ofNat k) 0 (gH y x o z) = some 1 := fun y z => by rw [r_isin T.xn hn hk, O.et]; rfl
      have i1 : ∀ y z, mM_is (some 188) (Int32.ofNat k) 1 (gH y x o z) = some 0 := fun y z => by rw [r_isin T.xn hn hk, O.et]; rfl
      by_cases g : kd = 8 ∨ r = 1
      · have hv : gV n 0 kd (gcn kd nm) := by
          rcases g with g | g
          · exact Or.inr (Or.inl ⟨g, rfl⟩)
          · obtain ⟨j, j1, j2, j3⟩ := r4 g
            refine Or.inr (Or.inr ⟨j, j1, j2, fun e => ?_⟩)
            obtain ⟨b, b1, b2⟩ := j3 e
            refine ⟨b, b1, ?_⟩
            subst e
            rw [j2]
            exact b2
        have can : ∀ o z, cG_canBePut (some 0) (some (3 + 5 * k)) key kd nm (gH u x o z) = some 1 := by
          intro o z
          simp only [cG_canBePut, hiT_4 hk2, Option.bind_some, O.es, e0, if_true]
          by_cases k8 : kd = 8
          · rw [if_pos k8]
          · rw [if_neg k8]
            have : r = 1 := by rcases g with g | g; exact absurd g k8; exact g
            simp only [hr_0_0, Option.bind_some, ho_1, r2, this, if_neg d10]
        have ref : ∀ y z, mM_put (some 188) (Int32.ofNat k) key kd nm (gH y x o z) = mM_put_79 (some 188) (Int32.ofNat k) key kd nm 1 0 (gH y x o z) := by
          intro y z
          simp only [mM_put, ho_188, Option.bind_some, i0, i1, r3]
          rcases r1 with rfl | rfl
          · have k8 : kd = 8 := by rcases g with g | g; exact g; exact absurd g (by decide)
            simp only [if_true, if_neg d10, if_pos k8, mM_put_37, mM_put_42, mM_put_54, mM_put_78]
          · simp only [if_neg d10, mM_put_37, mM_put_42, mM_put_54, if_true, mM_put_78]
        have cl : ∀ h : gx_H, h = gH u x o z → cG_put (some 0) (Int32.ofNat k) key kd nm h = (cT_setProperty (some (3 + 5 * k)) key kd (gcn kd nm) h).bind fun r18 => if r18.1 = 0 then some (.threw r18.2.length, r18.2 ++ [(9, [])]) else some (.returned none, r18.2) := by
          intro h e
          subst e
          simp only [cG_put, hr_0_0, Option.bind_some, ho_1, ho_0, k_tin T.un hn hk, reduceCtorEq, if_false, can, if_neg d10, hiT_4 hk2, O.es, show ¬ Int32.ofNat 0 = (1 : Int32) by decide, if_false, k_cn, ho_T hk2] <;> rfl
        rcases sp_tie (a := key) hk2 O hv with ⟨q', p', c', a1, a2, a3, a4⟩ | ⟨a1, a2, a3⟩
        · refine ⟨0, ((gup u.1 k q', u.2.1, u.2.2.1, u.2.2.2.1, u.2.2.2.2.1, u.2.2.2.2.2.1, u.2.2.2.2.2.2.1, u.2.2.2.2.2.2.2.1, u.2.2.2.2.2.2.2.2.1, u.2.2.2.2.2.2.2.2.2.1, u.2.2.2.2.2.2.2.2.2.2.1, u.2.2.2.2.2.2.2.2.2.2.2.1, u.2.2.2.2.2.2.2.2.2.2.2.2.1, u.2.2.2.2.2.2.2.2.2.2.2.2.2.1, u.2.2.2.2.2.2.2.2.2.2.2.2.2.2) : gU), z, ((gup x.1 k p', gup x.2.1 0 0, x.2.2.1, x.2.2.2.1, x.2.2.2.2.1, x.2.2.2.2.2.1, x.2.2.2.2.2.2.1, x.2.2.2.2.2.2.2.1, x.2.2.2.2.2.2.2.2.1, x.2.2.2.2.2.2.2.2.2.1, x.2.2.2.2.2.2.2.2.2.2.1, x.2.2.2.2.2.2.2.2.2.2.2.1, x.2.2.2.2.2.2.2.2.2.2.2.2.1, x.2.2.2.2.2.2.2.2.2.2.2.2.2.1, x.2.2.2.2.2.2.2.2.2.2.2.2.2.2.1, x.2.2.2.2.2.2.2.2.2.2.2.2.2.2.2) : gX), ?_, ?_, rfl, ⟨n, m, p, q, gT_0 (x := ((gup x.1 k p', x.2.1, x.2.2.1, x.2.2.2.1, x.2.2.2.2.1, x.2.2.2.2.2.1, x.2.2.2.2.2.2.1, x.2.2.2.2.2.2.2.1, x.2.2.2.2.2.2.2.2.1, x.2.2.2.2.2.2.2.2.2.1, x.2.2.2.2.2.2.2.2.2.2.1, x.2.2.2.2.2.2.2.2.2.2.2.1, x.2.2.2.2.2.2.2.2.2.2.2.2.1, x.2.2.2.2.2.2.2.2.2.2.2.2.2.1, x.2.2.2.2.2.2.2.2.2.2.2.2.2.2.1, x.2.2.2.2.2.2.2.2.2.2.2.2.2.2.2) : gX)) (gT_ob T ⟨0, c', a3⟩)⟩, by omega⟩
          · simp only [lw_put, ho_0, Option.bind_some, cl _ rfl, a1, if_neg d10]
          · have nn : ¬ (gfi (fun i => decide ((u.1 k).1 i = 4 ∧ (u.1 k).2.1 i = key)) c 0 = none ∧ c = 6) := by
              rcases a4 with a4 | a4
              · exact fun q => by omega
              · exact fun q => a4 q.1
            rw [ref, r_putS hk2 O, if_neg nn]
            simp only [mM_put_114, ho_188, Option.bind_some, r_ref, and_self, if_true, if_neg d10, a2 ((x.1, gup x.2.1 0 0, x.2.2.1, x.2.2.2.1, x.2.2.2.2.1, x.2.2.2.2.2.1, x.2.2.2.2.2.2.1, x.2.2.2.2.2.2.2.1, x.2.2.2.2.2.2.2.2.1, x.2.2.2.2.2.2.2.2.2.1, x.2.2.2.2.2.2.2.2.2.2.1, x.2.2.2.2.2.2.2.2.2.2.2.1, x.2.2.2.2.2.2.2.2.2.2.2.2.1, x.2.2.2.2.2.2.2.2.2.2.2.2.2.1, x.2.2.2.2.2.2.2.2.2.2.2.2.2.2.1, x.2.2.2.2.2.2.2.2.2.2.2.2.2.2.2) : gX) rfl]
        · refine ⟨2, u, z ++ [(9, [])], ((x.1, gup x.2.1 0 2, x.2.2.1, x.2.2.2.1, x.2.2.2.2.1, x.2.2.2.2.2.1, x.2.2.2.2.2.2.1, x.2.2.2.2.2.2.2.1, x.2.2.2.2.2.2.2.2.1, x.2.2.2.2.2.2.2.2.2.1, x.2.2.2.2.2.2.2.2.2.2.1, x.2.2.2.2.2.2.2.2.2.2.2.1, x.2.2.2.2.2.2.2.2.2.2.2.2.1, x.2.2.2.2.2.2.2.2.2.2.2.2.2.1, x.2.2.2.2.2.2.2.2.2.2.2.2.2.2.1, x.2.2.2.2.2.2.2.2.2.2.2.2.2.2.2) : gX), ?_, ?_, rfl, gTT_0 ⟨n, m, p, q, T⟩, by simp⟩
          · simp only [lw_put, ho_0, Option.bind_some, cl _ rfl, a1, if_true, hl, hthr, hexc] <;> rfl
          · rw [ref, r_putS hk2 O, if_pos ⟨a3, a2⟩]
            simp only [mM_put_114, ho_188, Option.bind_some, r_ref] <;> rfl
      · have k8 : ¬ kd = 8 := fun q => g (Or.inl q)
        have r0 : r = 0 := by rcases r1 with h | h; exact h; exact absurd (Or.inr h) g
        subst r0
        refine no (fun h e => ?_) (fun z => ?_)
        · subst e
          simp only [cG_put, hr_0_0, Option.bind_some, ho_1, ho_0, k_tin T.un hn hk, reduceCtorEq, if_false, cG_canBePut, hiT_4 hk2, O.es, e0, if_true, if_neg k8, r2] <;> rfl
        · simp only [mM_put, ho_188, Option.bind_some, i0, i1, r3, if_true, if_neg d10, if_neg k8, mM_put_41, mM_put_42, mM_put_54, mM_put_74, r_putS hk2 O, mM_put_114, r_ref] <;> rfl
    · by_cases s1 : s = 1
      · subst s1
        have c8 : c ≤ 8 := O.c8
        have f6 : (u.1 k).2.2.2.2.1 6 = 0 := by rcases O.d4 with h | h; exact h; omega
        have h5 := O.ep f6
        have i0 : ∀ y z, mM_is (some 188) (Int32.ofNat k) 0 (gH y x o z) = some 0 := fun y z => by rw [r_isin T.xn hn hk, O.et]; rfl
        have i1 : ∀ y z, mM_is (some 188) (Int32.ofNat k) 1 (gH y x o z) = some 1 := fun y z => by rw [r_isin T.xn hn hk, O.et]; rfl
        by_cases g : (¬ key < 0 ∧ key < 8) ∧ r = 1
        · obtain ⟨⟨k0, k8⟩, rr⟩ := g
          subst rr
          obtain ⟨t, ht, rfl⟩ := n_of (m := 8) k0 k8 (by omega)
          have k7 : ¬ 7 < Int32.ofNat t := fun q => n_78.mp q k8
          obtain ⟨j, j1, j2, j3⟩ := r4 rfl
          have hv : gV n 1 kd (gcn kd nm) := by
            refine Or.inr (Or.inr ⟨j, j1, j2, fun e => ?_⟩)
            obtain ⟨b, b1, b2⟩ := j3 e
            refine ⟨b, b1, ?_⟩
            subst e
            rw [j2]
            exact b2
          have O2 : gO n 1 (max c (t + 1)) (((u.1 k).1, (u.1 k).2.1, gpl (u.1 k).2.2.1 c t kd (-1), gpl (u.1 k).2.2.2.1 c t (gcn kd nm) 0, gup (u.1 k).2.2.2.2.1 5 (Int32.ofNat (max c (t + 1))), (u.1 k).2.2.2.2.2) : gQ) (((x.1 k).1, (x.1 k).2.1, gpl (x.1 k).2.2.1 c t kd (-1), gpl (x.1 k).2.2.2.1 c t (gcn kd nm) 0, (x.1 k).2.2.2.2.1, Int32.ofNat (max c (t + 1)), (x.1 k).2.2.2.2.2.2.1, (x.1 k).2.2.2.2.2.2.2) : gP) := by
            refine ⟨by omega, O.es, O.et, rfl, by show max c (t + 1) ≤ 8; omega, O.ed, Or.inl f6, fun _ => rfl, fun h => absurd f6 h, fun h => by omega, fun h => by omega, fun h => by omega, ?_, ?_, fun h => by omega, fun h => by omega, fun h => by omega, fun h => by omega, fun h => by omega⟩
            · intro _ i hi
              show gpl (x.1 k).2.2.1 c t kd (-1) i = gpl (u.1 k).2.2.1 c t kd (-1) i ∧ gpl (x.1 k).2.2.2.1 c t (gcn kd nm) 0 i = gpl (u.1 k).2.2.2.1 c t (gcn kd nm) 0 i
              unfold gpl
              by_cases e : i = t
              · rw [if_pos e, if_pos e, if_pos e, if_pos e]; exact ⟨rfl, rfl⟩
              · rw [if_neg e, if_neg e, if_neg e, if_neg e]
                by_cases e2 : c ≤ i ∧ i < t
                · rw [if_pos e2, if_pos e2, if_pos e2, if_pos e2]; exact ⟨rfl, rfl⟩
                · rw [if_neg e2, if_neg e2, if_neg e2, if_neg e2]; exact O.vs (by omega) i (by omega)
            · intro _ i hi
              show gV n 1 (gpl (u.1 k).2.2.1 c t kd (-1) i) (gpl (u.1 k).2.2.2.1 c t (gcn kd nm) 0 i)
              unfold gpl
              by_cases e : i = t
              · rw [if_pos e, if_pos e]; exact hv
              · rw [if_neg e, if_neg e]
                by_cases e2 : c ≤ i ∧ i < t
                · rw [if_pos e2, if_pos e2]; exact Or.inl ⟨rfl, rfl, rfl⟩
                · rw [if_neg e2, if_neg e2]; exact O.vv (by omega) i (by omega)
          refine ⟨0, _, z, _, ?_, ?_, rfl, ⟨n, m, p, q, gT_0 (x := ((gup x.1 k _, x.2.1, x.2.2.1, x.2.2.2.1, x.2.2.2.2.1, x.2.2.2.2.2.1, x.2.2.2.2.2.2.1, x.2.2.2.2.2.2.2.1, x.2.2.2.2.2.2.2.2.1, x.2.2.2.2.2.2.2.2.2.1, x.2.2.2.2.2.2.2.2.2.2.1, x.2.2.2.2.2.2.2.2.2.2.2.1, x.2.2.2.2.2.2.2.2.2.2.2.2.1, x.2.2.2.2.2.2.2.2.2.2.2.2.2.1, x.2.2.2.2.2.2.2.2.2.2.2.2.2.2.1, x.2.2.2.2.2.2.2.2.2.2.2.2.2.2.2) : gX)) (gT_ob T ⟨1, _, O2⟩)⟩, by omega⟩
          · simp only [lw_put, ho_0, Option.bind_some, cG_put, hr_0_0, ho_1, k_tin T.un hn hk, reduceCtorEq, if_false, cG_canBePut, hiT_4 hk2, O.es, show ¬ Int32.ofNat 1 = (0 : Int32) by decide, show Int32.ofNat 1 = (1 : Int32) from rfl, if_false, if_true, if_neg k0, if_pos k8, r2, if_neg d10, k_cn, ho_T hk2, k_setPlace hk2 ht c8 O.ec] <;> rfl
          · simp only [mM_put, ho_188, Option.bind_some, i0, i1, r3, if_neg d10, if_true, mM_put_37, mM_put_42, mM_put_54, if_neg k0, if_neg k7, mM_put_78, mM_put_79, mM_put_113, mM_put_114, r_ref, and_self, r_put136 (x := ((x.1, gup x.2.1 0 0, x.2.2.1, x.2.2.2.1, x.2.2.2.2.1, x.2.2.2.2.2.1, x.2.2.2.2.2.2.1, x.2.2.2.2.2.2.2.1, x.2.2.2.2.2.2.2.2.1, x.2.2.2.2.2.2.2.2.2.1, x.2.2.2.2.2.2.2.2.2.2.1, x.2.2.2.2.2.2.2.2.2.2.2.1, x.2.2.2.2.2.2.2.2.2.2.2.2.1, x.2.2.2.2.2.2.2.2.2.2.2.2.2.1, x.2.2.2.2.2.2.2.2.2.2.2.2.2.2.1, x.2.2.2.2.2.2.2.2.2.2.2.2.2.2.2) : gX)) hk2 ht c8 h5]
        · refine no (fun h e => ?_) (fun z => ?_)
          · subst e
            simp only [cG_put, hr_0_0, Option.bind_some, ho_1, ho_0, k_tin T.un hn hk, reduceCtorEq, if_false, cG_canBePut, hiT_4 hk2, O.es, show ¬ Int32.ofNat 1 = (0 : Int32) by decide, show Int32.ofNat 1 = (1 : Int32) from rfl, if_false, if_true]
            by_cases k0 : key < 0
            · simp only [if_pos k0, if_true] <;> rfl
            · by_cases k8 : key < 8
              · have r0 : r = 0 := by rcases r1 with h | h; exact h; exact absurd ⟨⟨k0, k8⟩, h⟩ g
                simp only [if_neg k0, if_pos k8, r2, Option.bind_some, r0, if_true] <;> rfl
              · simp only [if_neg k0, if_neg k8, if_true] <;> rfl
          · simp only [mM_put, ho_188, Option.bind_some, i0, i1, r3]
            rcases r1 with rfl | rfl
            · simp only [if_true, mM_put_41, mM_put_42, if_neg d10, mM_put_54, mM_put_74, r_put0]
            · simp only [if_neg d10, mM_put_37, mM_put_42, if_true, mM_put_54, mM_put_74, r_put0]
              by_cases k0 : key < 0
              · rw [if_pos k0]
              · rw [if_neg k0, if_pos (n_78.mpr (fun k8 => g ⟨⟨k0, k8⟩, rfl⟩))]
      · refine no (fun h e => ?_) (fun z => both z ?_ ?_)
        · subst e
          simp only [cG_put, hr_0_0, Option.bind_some, ho_1, ho_0, k_tin T.un hn hk, reduceCtorEq, if_false, cG_canBePut, hiT_4 hk2, O.es, e0, e1, if_neg s0, if_neg s1, if_true] <;> rfl
        · rw [r_isin T.xn hn hk, O.et, if_neg (fun q => s0 (e0.mp q))]
        · rw [r_isin T.xn hn hk, O.et, if_neg (fun q => s1 (e1.mp q))]
end H
end
section
section H
variable {u : gU} {x : gX} {o : Nat → Int64} {z : gx_H}
theorem gV_m1 {n s : Nat} {v : Int32} (h : gV n s (-1) v) : v = 0 := by
  rcases h with h | h | ⟨j, h1, h2, _⟩
  · exact h.2.2
  · exact absurd h.1 (by decide)
  · exact absurd h2.symm (n_ne1 (by omega))
theorem t_take {b key : Int32} (h : gTT u x) : gAnsT u x o z (lw_take (some 0) b key (some 211)) (mM_take (some 188) b key) := by
  obtain ⟨n, m, p, q, T⟩ := h
  have hn := T.hn
  have d10 : ¬ (1 : Int32) = 0 := by decide
  have no : (∀ h : gx_H, h = gH u x o z → cG_take (some 0) b key h = cG_take_28 h) → (∀ z, mM_take (some 188) b key (gH u x o z) = some (0, gH u ((x.1, gup x.2.1 0 1, x.2.2.1, x.2.2.2.1, x.2.2.2.2.1, x.2.2.2.2.2.1, x.2.2.2.2.2.2.1, x.2.2.2.2.2.2.2.1, x.2.2.2.2.2.2.2.2.1, x.2.2.2.2.2.2.2.2.2.1, x.2.2.2.2.2.2.2.2.2.2.1, x.2.2.2.2.2.2.2.2.2.2.2.1, x.2.2.2.2.2.2.2.2.2.2.2.2.1, x.2.2.2.2.2.2.2.2.2.2.2.2.2.1, x.2.2.2.2.2.2.2.2.2.2.2.2.2.2.1, x.2.2.2.2.2.2.2.2.2.2.2.2.2.2.2) : gX) o z)) → gAnsT u x o z (lw_take (some 0) b key (some 211)) (mM_take (some 188) b key) := by
    intro h1 h2
    refine ⟨1, u, o, z ++ [(8, [])], 0, ((x.1, gup x.2.1 0 1, x.2.2.1, x.2.2.2.1, x.2.2.2.2.1, x.2.2.2.2.2.1, x.2.2.2.2.2.2.1, x.2.2.2.2.2.2.2.1, x.2.2.2.2.2.2.2.2.1, x.2.2.2.2.2.2.2.2.2.1, x.2.2.2.2.2.2.2.2.2.2.1, x.2.2.2.2.2.2.2.2.2.2.2.1, x.2.2.2.2.2.2.2.2.2.2.2.2.1, x.2.2.2.2.2.2.2.2.2.2.2.2.2.1, x.2.2.2.2.2.2.2.2.2.2.2.2.2.2.1, x.2.2.2.2.2.2.2.2.2.2.2.2.2.2.2) : gX), ?_, h2 _, rfl, gTT_0 ⟨n, m, p, q, T⟩, by simp⟩
    simp only [lw_take, ho_0, Option.bind_some, h1 _ rfl, cG_take_28, hl, hthr, hexc] <;> rfl
  have both : ∀ z, mM_is (some 188) b 0 (gH u x o z) = some 0 → mM_is (some 188) b 1 (gH u x o z) = some 0 → mM_take (some 188) b key (gH u x o z) = some (0, gH u ((x.1, gup x.2.1 0 1, x.2.2.1, x.2.2.2.1, x.2.2.2.2.1, x.2.2.2.2.2.1, x.2.2.2.2.2.2.1, x.2.2.2.2.2.2.2.1, x.2.2.2.2.2.2.2.2.1, x.2.2.2.2.2.2.2.2.2.1, x.2.2.2.2.2.2.2.2.2.2.1, x.2.2.2.2.2.2.2.2.2.2.2.1, x.2.2.2.2.2.2.2.2.2.2.2.2.1, x.2.2.2.2.2.2.2.2.2.2.2.2.2.1, x.2.2.2.2.2.2.2.2.2.2.2.2.2.2.1, x.2.2.2.2.2.2.2.2.2.2.2.2.2.2.2) : gX) o z) := by
    intro z h1 h2
    simp only [mM_take, ho_188, Option.bind_some, h1, h2, if_true, mM_take_26, r_ref] <;> rfl
  have law : ∀ (r : Int32) (u' : gU), (r = 0 ∨ r = 1) → cG_take (some 0) b key (gH u x o z) = some (.returned (some (.int r)), gH u' x o z) → ∃ o', lw_take (some 0) b key (some 211) (gH u x o z) = some (0, gH u' x o' z) := by
    intro r u' hr h
    rcases hr with rfl | rfl
    · refine ⟨gup o 0 0, ?_⟩
      simp only [lw_take, ho_0, Option.bind_some, h, if_true, hb0]
    · refine ⟨gup o 0 1, ?_⟩
      simp only [lw_take, ho_0, Option.bind_some, h, if_neg d10, hb0]
  rcases g_ob b n (by omega) with c | ⟨k, hk, rfl⟩
  · refine no (fun h e => ?_) (fun z => both z (r_isout T.xn c) (r_isout T.xn c))
    subst e
    simp only [cG_take, hr_0_0, Option.bind_some, ho_1, k_tout T.un c, if_true]
  · obtain ⟨s, c, O⟩ := T.ob k hk
    have hk2 : k < 32 := by omega
    obtain ⟨_, _, _, e0, e1, _⟩ := n_s6 s O.s8
    by_cases s0 : s = 0
    · subst s0
      have i0 : ∀ y o z, mM_is (some 188) (Int32.ofNat k) 0 (gH y x o z) = some 1 := fun y o z => by rw [r_isin T.xn hn hk, O.et]; rfl
      obtain ⟨r, q', p', c', a1, a2, a3, a4⟩ := dp_tie (a := key) hk2 O
      obtain ⟨o', ho'⟩ := law r ((gup u.1 k q', u.2.1, u.2.2.1, u.2.2.2.1, u.2.2.2.2.1, u.2.2.2.2.2.1, u.2.2.2.2.2.2.1, u.2.2.2.2.2.2.2.1, u.2.2.2.2.2.2.2.2.1, u.2.2.2.2.2.2.2.2.2.1, u.2.2.2.2.2.2.2.2.2.2.1, u.2.2.2.2.2.2.2.2.2.2.2.1, u.2.2.2.2.2.2.2.2.2.2.2.2.1, u.2.2.2.2.2.2.2.2.2.2.2.2.2.1, u.2.2.2.2.2.2.2.2.2.2.2.2.2.2) : gU) a1 (by
        simp only [cG_take, hr_0_0, Option.bind_some, ho_1, k_tin T.un hn hk, reduceCtorEq, if_false, hiT_4 hk2, O.es, show Int32.ofNat 0 = (0 : Int32) from rfl, if_true, cG_take_38, ho_T hk2, a2, a1, not_true, if_false])
      refine ⟨0, ((gup u.1 k q', u.2.1, u.2.2.1, u.2.2.2.1, u.2.2.2.2.1, u.2.2.2.2.2.1, u.2.2.2.2.2.2.1, u.2.2.2.2.2.2.2.1, u.2.2.2.2.2.2.2.2.1, u.2.2.2.2.2.2.2.2.2.1, u.2.2.2.2.2.2.2.2.2.2.1, u.2.2.2.2.2.2.2.2.2.2.2.1, u.2.2.2.2.2.2.2.2.2.2.2.2.1, u.2.2.2.2.2.2.2.2.2.2.2.2.2.1, u.2.2.2.2.2.2.2.2.2.2.2.2.2.2) : gU), o', z, r, ((gup x.1 k p', gup x.2.1 0 0, x.2.2.1, x.2.2.2.1, x.2.2.2.2.1, x.2.2.2.2.2.1, x.2.2.2.2.2.2.1, x.2.2.2.2.2.2.2.1, x.2.2.2.2.2.2.2.2.1, x.2.2.2.2.2.2.2.2.2.1, x.2.2.2.2.2.2.2.2.2.2.1, x.2.2.2.2.2.2.2.2.2.2.2.1, x.2.2.2.2.2.2.2.2.2.2.2.2.1, x.2.2.2.2.2.2.2.2.2.2.2.2.2.1, x.2.2.2.2.2.2.2.2.2.2.2.2.2.2.1, x.2.2.2.2.2.2.2.2.2.2.2.2.2.2.2) : gX), ho', ?_, rfl, ⟨n, m, p, q, gT_0 (x := ((gup x.1 k p', x.2.1, x.2.2.1, x.2.2.2.1, x.2.2.2.2.1, x.2.2.2.2.2.1, x.2.2.2.2.2.2.1, x.2.2.2.2.2.2.2.1, x.2.2.2.2.2.2.2.2.1, x.2.2.2.2.2.2.2.2.2.1, x.2.2.2.2.2.2.2.2.2.2.1, x.2.2.2.2.2.2.2.2.2.2.2.1, x.2.2.2.2.2.2.2.2.2.2.2.2.1, x.2.2.2.2.2.2.2.2.2.2.2.2.2.1, x.2.2.2.2.2.2.2.2.2.2.2.2.2.2.1, x.2.2.2.2.2.2.2.2.2.2.2.2.2.2.2) : gX)) (gT_ob T ⟨0, c', a4⟩)⟩, by omega⟩
      simp only [mM_take, ho_188, Option.bind_some, i0, if_neg d10, mM_take_25, mM_take_26, r_ref, and_self, if_true, a3 ((x.1, gup x.2.1 0 0, x.2.2.1, x.2.2.2.1, x.2.2.2.2.1, x.2.2.2.2.2.1, x.2.2.2.2.2.2.1, x.2.2.2.2.2.2.2.1, x.2.2.2.2.2.2.2.2.1, x.2.2.2.2.2.2.2.2.2.1, x.2.2.2.2.2.2.2.2.2.2.1, x.2.2.2.2.2.2.2.2.2.2.2.1, x.2.2.2.2.2.2.2.2.2.2.2.2.1, x.2.2.2.2.2.2.2.2.2.2.2.2.2.1, x.2.2.2.2.2.2.2.2.2.2.2.2.2.2.1, x.2.2.2.2.2.2.2.2.2.2.2.2.2.2.2) : gX) rfl, a1, not_true, if_false]
    · by_cases s1 : s = 1
      · subst s1
        have c8 : c ≤ 8 := O.c8
        have f6 : (u.1 k).2.2.2.2.1 6 = 0 := by rcases O.d4 with h | h; exact h; omega
        have h5 := O.ep f6
        have i0 : ∀ y o z, mM_is (some 188) (Int32.ofNat k) 0 (gH y x o z) = some 0 := fun y o z => by rw [r_isin T.xn hn hk, O.et]; rfl
        have i1 : ∀ y o z, mM_is (some 188) (Int32.ofNat k) 1 (gH y x o z) = some 1 := fun y o z => by rw [r_isin T.xn hn hk, O.et]; rfl
        by_cases g : ¬ key < 0 ∧ key < Int32.ofNat c
        · obtain ⟨k0, kc⟩ := g
          obtain ⟨t, ht, rfl⟩ := n_of (m := c) k0 kc (by omega)
          have t8 : t < 8 := by omega
          obtain ⟨o', ho'⟩ := law 1 ((gup u.1 k (((u.1 k).1, (u.1 k).2.1, gup (u.1 k).2.2.1 t (-1), gup (u.1 k).2.2.2.1 t 0, (u.1 k).2.2.2.2.1, (u.1 k).2.2.2.2.2) : gQ), u.2.1, u.2.2.1, u.2.2.2.1, u.2.2.2.2.1, u.2.2.2.2.2.1, u.2.2.2.2.2.2.1, u.2.2.2.2.2.2.2.1, u.2.2.2.2.2.2.2.2.1, u.2.2.2.2.2.2.2.2.2.1, u.2.2.2.2.2.2.2.2.2.2.1, u.2.2.2.2.2.2.2.2.2.2.2.1, u.2.2.2.2.2.2.2.2.2.2.2.2.1, u.2.2.2.2.2.2.2.2.2.2.2.2.2.1, u.2.2.2.2.2.2.2.2.2.2.2.2.2.2) : gU) (Or.inr rfl) (by
            simp only [cG_take, hr_0_0, Option.bind_some, ho_1, k_tin T.un hn hk, reduceCtorEq, if_false, hiT_4 hk2, O.es, show ¬ Int32.ofNat 1 = (0 : Int32) by decide, show Int32.ofNat 1 = (1 : Int32) from rfl, if_true, if_false, cG_take_38, if_neg d10, ho_T hk2, cT_makeHole, if_neg k0, hiT_5 hk2, O.ec, if_pos kc, k_setValue hk2 t8, or_true, not_true])
          obtain ⟨v1, v2⟩ := O.vs (by omega) t ht
          by_cases hole : (u.1 k).2.2.1 t = -1
          · have nz : (u.1 k).2.2.2.1 t = 0 := gV_m1 (by have := O.vv (by omega) t ht; rw [hole] at this; exact this)
            have eu : (((gup u.1 k (((u.1 k).1, (u.1 k).2.1, gup (u.1 k).2.2.1 t (-1), gup (u.1 k).2.2.2.1 t 0, (u.1 k).2.2.2.2.1, (u.1 k).2.2.2.2.2) : gQ), u.2.1, u.2.2.1, u.2.2.2.1, u.2.2.2.2.1, u.2.2.2.2.2.1, u.2.2.2.2.2.2.1, u.2.2.2.2.2.2.2.1, u.2.2.2.2.2.2.2.2.1, u.2.2.2.2.2.2.2.2.2.1, u.2.2.2.2.2.2.2.2.2.2.1, u.2.2.2.2.2.2.2.2.2.2.2.1, u.2.2.2.2.2.2.2.2.2.2.2.2.1, u.2.2.2.2.2.2.2.2.2.2.2.2.2.1, u.2.2.2.2.2.2.2.2.2.2.2.2.2.2) : gU) : gU) = u := by
              rw [gup_same hole, gup_same nz, show ((((u.1 k).1, (u.1 k).2.1, (u.1 k).2.2.1, (u.1 k).2.2.2.1, (u.1 k).2.2.2.2.1, (u.1 k).2.2.2.2.2) : gQ) : gQ) = u.1 k from rfl, gup_self]
            rw [eu] at ho'
            refine ⟨0, u, o', z, 0, ((x.1, gup x.2.1 0 0, x.2.2.1, x.2.2.2.1, x.2.2.2.2.1, x.2.2.2.2.2.1, x.2.2.2.2.2.2.1, x.2.2.2.2.2.2.2.1, x.2.2.2.2.2.2.2.2.1, x.2.2.2.2.2.2.2.2.2.1, x.2.2.2.2.2.2.2.2.2.2.1, x.2.2.2.2.2.2.2.2.2.2.2.1, x.2.2.2.2.2.2.2.2.2.2.2.2.1, x.2.2.2.2.2.2.2.2.2.2.2.2.2.1, x.2.2.2.2.2.2.2.2.2.2.2.2.2.2.1, x.2.2.2.2.2.2.2.2.2.2.2.2.2.2.2) : gX), ho', ?_, rfl, gTT_0 ⟨n, m, p, q, T⟩, by omega⟩
            simp only [mM_take, ho_188, Option.bind_some, i0, i1, if_true, if_neg d10, mM_take_25, mM_take_26, r_ref, and_self, if_neg k0, hr_188_3, ha_190 hk2, h5, if_pos kc, hr_188_8, n_8, ha_195 hk2 t8, v1, hole, mM_take_79, mM_take_80, true_or, not_true, if_false]
          · refine ⟨0, _, o', z, 1, ((gup x.1 k (((x.1 k).1, (x.1 k).2.1, gup (x.1 k).2.2.1 t (-1), gup (x.1 k).2.2.2.1 t 0, (x.1 k).2.2.2.2.1, (x.1 k).2.2.2.2.2.1, (x.1 k).2.2.2.2.2.2.1, (x.1 k).2.2.2.2.2.2.2) : gP), gup x.2.1 0 0, x.2.2.1, x.2.2.2.1, x.2.2.2.2.1, x.2.2.2.2.2.1, x.2.2.2.2.2.2.1, x.2.2.2.2.2.2.2.1, x.2.2.2.2.2.2.2.2.1, x.2.2.2.2.2.2.2.2.2.1, x.2.2.2.2.2.2.2.2.2.2.1, x.2.2.2.2.2.2.2.2.2.2.2.1, x.2.2.2.2.2.2.2.2.2.2.2.2.1, x.2.2.2.2.2.2.2.2.2.2.2.2.2.1, x.2.2.2.2.2.2.2.2.2.2.2.2.2.2.1, x.2.2.2.2.2.2.2.2.2.2.2.2.2.2.2) : gX), ho', ?_, rfl, ⟨n, m, p, q, gT_0 (x := ((gup x.1 k _, x.2.1, x.2.2.1, x.2.2.2.1, x.2.2.2.2.1, x.2.2.2.2.2.1, x.2.2.2.2.2.2.1, x.2.2.2.2.2.2.2.1, x.2.2.2.2.2.2.2.2.1, x.2.2.2.2.2.2.2.2.2.1, x.2.2.2.2.2.2.2.2.2.2.1, x.2.2.2.2.2.2.2.2.2.2.2.1, x.2.2.2.2.2.2.2.2.2.2.2.2.1, x.2.2.2.2.2.2.2.2.2.2.2.2.2.1, x.2.2.2.2.2.2.2.2.2.2.2.2.2.2.1, x.2.2.2.2.2.2.2.2.2.2.2.2.2.2.2) : gX)) (gT_ob T ⟨1, c, gO_set O (by omega) (Or.inl ⟨rfl, rfl, rfl⟩)⟩)⟩, by omega⟩
            have hole' : ¬ (x.1 k).2.2.1 t = -1 := by rw [v1]; exact hole
            simp only [mM_take, ho_188, Option.bind_some, i0, i1, if_true, if_neg d10, mM_take_25, mM_take_26, r_ref, and_self, if_neg k0, hr_188_3, ha_190 hk2, h5, if_pos kc, hr_188_8, n_8, ha_195 hk2 t8, if_neg hole', mM_take_80, r_setSlot hk2 t8, gcn_m1, or_true, not_true, if_false]
        · obtain ⟨o', ho'⟩ := law 0 u (Or.inl rfl) (by
            simp only [cG_take, hr_0_0, Option.bind_some, ho_1, k_tin T.un hn hk, reduceCtorEq, if_false, hiT_4 hk2, O.es, show ¬ Int32.ofNat 1 = (0 : Int32) by decide, show Int32.ofNat 1 = (1 : Int32) from rfl, if_true, if_false, cG_take_38, if_neg d10, ho_T hk2, cT_makeHole, hiT_5 hk2, O.ec]
            by_cases k0 : key < 0
            · simp [k0]
            · have kc : ¬ key < Int32.ofNat c := fun q => g ⟨k0, q⟩
              simp [k0, kc])
          refine ⟨0, u, o', z, 0, ((x.1, gup x.2.1 0 0, x.2.2.1, x.2.2.2.1, x.2.2.2.2.1, x.2.2.2.2.2.1, x.2.2.2.2.2.2.1, x.2.2.2.2.2.2.2.1, x.2.2.2.2.2.2.2.2.1, x.2.2.2.2.2.2.2.2.2.1, x.2.2.2.2.2.2.2.2.2.2.1, x.2.2.2.2.2.2.2.2.2.2.2.1, x.2.2.2.2.2.2.2.2.2.2.2.2.1, x.2.2.2.2.2.2.2.2.2.2.2.2.2.1, x.2.2.2.2.2.2.2.2.2.2.2.2.2.2.1, x.2.2.2.2.2.2.2.2.2.2.2.2.2.2.2) : gX), ho', ?_, rfl, gTT_0 ⟨n, m, p, q, T⟩, by omega⟩
          simp only [mM_take, ho_188, Option.bind_some, i0, i1, if_true, if_neg d10, mM_take_25, mM_take_26, r_ref, and_self, hr_188_3, ha_190 hk2, h5, mM_take_79, mM_take_80, true_or, not_true, if_false]
          by_cases k0 : key < 0
          · rw [if_pos k0]
          · rw [if_neg k0, if_neg (fun q => g ⟨k0, q⟩)]
      · refine no (fun h e => ?_) (fun z => both z ?_ ?_)
        · subst e
          simp only [cG_take, hr_0_0, Option.bind_some, ho_1, k_tin T.un hn hk, reduceCtorEq, if_false, hiT_4 hk2, O.es, e0, e1, if_neg s0, if_neg s1] <;> rfl
        · rw [r_isin T.xn hn hk, O.et, if_neg (fun q => s0 (e0.mp q))]
        · rw [r_isin T.xn hn hk, O.et, if_neg (fun q => s1 (e1.mp q))]
/-- a value that may stand in a map or a set -/
theorem v_gV {n s : Nat} {k v : Int32} (h : ∃ j, j < 8 ∧ k = Int32.ofNat j ∧ (j = 6 → ∃ b, b < n ∧ v = Int32.ofNat b)) : gV n s k (gcn k v) := by
  obtain ⟨j, j1, j2, j3⟩ := h
  refine Or.inr (Or.inr ⟨j, j1, j2, fun e => ?_⟩)
  obtain ⟨b, b1, b2⟩ := j3 e
  refine ⟨b, b1, ?_⟩
  subst e
  rw [j2]
  exact b2
/-- an entry's key that is new -/
def gq_ent (q : gQ) (c : Nat) (a b kd nm : Int32) : gQ := ((gup q.1 c a, gup q.2.1 c b, gup q.2.2.1 c kd, gup q.2.2.2.1 c nm, gup q.2.2.2.2.1 5 (Int32.ofNat (c + 1)), q.2.2.2.2.2) : gQ)
def gp_ent (p : gP) (c : Nat) (a b kd nm : Int32) : gP := ((gup p.1 c a, gup p.2.1 c b, gup p.2.2.1 c kd, gup p.2.2.2.1 c nm, p.2.2.2.2.1, Int32.ofNat (c + 1), p.2.2.2.2.2.2.1, p.2.2.2.2.2.2.2) : gP)
theorem gup_c {α : Type} {f g : Nat → α} {c i : Nat} {v : α} (hi : i < c + 1) (h : i < c → f i = g i) : gup f c v i = gup g c v i := by
  by_cases e : i = c
  · subst e; rw [gup_eq, gup_eq]
  · rw [gup_ne e, gup_ne e]; exact h (by omega)
theorem gO_ent {n c : Nat} {q : gQ} {p : gP} {a b kd nm : Int32} (O : gO n 2 c q p) (c4 : c < 4) (hk : gV n 2 a b) (hv : gV n 2 kd nm) : gO n 2 (c + 1) (gq_ent q c a b kd nm) (gp_ent p c a b kd nm) := by
  have f6 : q.2.2.2.2.1 6 = 0 := by rcases O.d4 with h | h; exact h; omega
  refine ⟨by omega, O.es, O.et, rfl, by show c + 1 ≤ 4; omega, O.ed, Or.inl f6, fun _ => rfl, fun h => absurd f6 h, ?_, ?_, fun h => by omega, ?_, ?_, ?_, fun h => by omega, fun h => by omega, fun h => by omega, fun h => by omega⟩
  · intro h i hi
    exact gup_c hi (O.kE h i)
  · intro h i hi
    exact gup_c hi (O.kK h i)
  · intro h i hi
    exact ⟨gup_c hi (fun q => (O.vs h i q).1), gup_c hi (fun q => (O.vs h i q).2)⟩
  · intro h i hi
    show gV n 2 (gup q.2.2.1 c kd i) (gup q.2.2.2.1 c nm i)
    by_cases e : i = c
    · subst e; rw [gup_eq, gup_eq]; exact hv
    · rw [gup_ne e, gup_ne e]; exact O.vv h i (by omega)
  · intro h i hi
    show gV n 2 (gup q.1 c a i) (gup q.2.1 c b i)
    by_cases e : i = c
    · subst e; rw [gup_eq, gup_eq]; exact hk
    · rw [gup_ne e, gup_ne e]; exact O.kv h i (by omega)
theorem map_find {n c : Nat} {q : gQ} {p : gP} {a b : Int32} (O : gO n 2 c q p) : gfi (fun i => decide (q.1 i = a ∧ q.2.1 i = b)) c 0 = gfi (fun i => decide (p.1 i = a ∧ p.2.1 i = b)) c 0 := by
  refine gfi_congr _ _ fun t _ ht => ?_
  rw [O.kE (Or.inr rfl) t (by omega), O.kK rfl t (by omega)]
theorem k_setEntry {k c : Nat} {a b kd nm : Int32} (hk : k < 32) (h5 : (u.1 k).2.2.2.2.1 5 = Int32.ofNat c) (h8 : c ≤ 4) : cT_setEntry (some (3 + 5 * k)) a b kd nm (gH u x o z) = match gfi (fun i => decide ((u.1 k).1 i = a ∧ (u.1 k).2.1 i = b)) c 0 with
    | some j => some (1, gH ((gup u.1 k (((u.1 k).1, (u.1 k).2.1, gup (u.1 k).2.2.1 j kd, gup (u.1 k).2.2.2.1 j nm, (u.1 k).2.2.2.2.1, (u.1 k).2.2.2.2.2) : gQ), u.2.1, u.2.2.1, u.2.2.2.1, u.2.2.2.2.1, u.2.2.2.2.2.1, u.2.2.2.2.2.2.1, u.2.2.2.2.2.2.2.1, u.2.2.2.2.2.2.2.2.1, u.2.2.2.2.2.2.2.2.2.1, u.2.2.2.2.2.2.2.2.2.2.1, u.2.2.2.2.2.2.2.2.2.2.2.1, u.2.2.2.2.2.2.2.2.2.2.2.2.1, u.2.2.2.2.2.2.2.2.2.2.2.2.2.1, u.2.2.2.2.2.2.2.2.2.2.2.2.2.2) : gU) x o z)
    | none => if c < 4 then some (1, gH ((gup u.1 k (gq_ent (u.1 k) c a b kd nm), u.2.1, u.2.2.1, u.2.2.2.1, u.2.2.2.2.1, u.2.2.2.2.2.1, u.2.2.2.2.2.2.1, u.2.2.2.2.2.2.2.1, u.2.2.2.2.2.2.2.2.1, u.2.2.2.2.2.2.2.2.2.1, u.2.2.2.2.2.2.2.2.2.2.1, u.2.2.2.2.2.2.2.2.2.2.2.1, u.2.2.2.2.2.2.2.2.2.2.2.2.1, u.2.2.2.2.2.2.2.2.2.2.2.2.2.1, u.2.2.2.2.2.2.2.2.2.2.2.2.2.2) : gU) x o z) else some (0, gH u x o z) := by
  unfold cT_setEntry
  simp only [ho_T hk, Option.bind_some, k_index hk h5 (show c ≤ 8 by omega)]
  cases h : gfi (fun i => decide ((u.1 k).1 i = a ∧ (u.1 k).2.1 i = b)) c 0 with
  | some j =>
    have hj := (gfi_some _ _ _ h).2.1
    have j8 : j < 8 := by omega
    simp only [gio, if_neg (n_ne1 (n := j) (by omega)), cT_setEntry_56, ho_T hk, Option.bind_some, k_setValue hk j8]
  | none =>
    by_cases c4 : c < 4
    · have c8 : c < 8 := by omega
      simp only [gio, if_true, hiT_5 hk, Option.bind_some, h5, if_pos (show Int32.ofNat c < 4 from n_ltl (m := 4) (by omega) (by omega) c4), hrT_0 hk, hrT_1 hk, hbT_1 hk c8, hbT_2 hk c8, gup_eq, gup_gup, n_succ, hpT_5 hk, cT_setEntry_56, ho_T hk, k_setValue hk c8, if_pos c4] <;> rfl
    · simp only [gio, if_true, hiT_5 hk, Option.bind_some, h5, if_neg (show ¬ Int32.ofNat c < 4 from n_nltl (m := 4) (by omega) (by omega) (by omega)), if_neg c4]
theorem t_entry {b a v kd nm : Int32} (h : gTT u x) : gAnsV u x o z (lw_entry (some 0) b a v kd nm) (mM_entry (some 188) b a v kd nm) := by
  obtain ⟨n, m, p, q, T⟩ := h
  have hn := T.hn
  have d10 : ¬ (1 : Int32) = 0 := by decide
  obtain ⟨r, r1, r2, r3, r4⟩ := v_eq (k := a) (v := v) T.un T.xn hn
  obtain ⟨s', s1, s2, s3, s4⟩ := v_eq (k := kd) (v := nm) T.un T.xn hn
  have no : (∀ h : gx_H, h = gH u x o z → cG_entry (some 0) b a v kd nm h = cG_entry_50 h) → (∀ z, mM_entry (some 188) b a v kd nm (gH u x o z) = mM_entry_33 (some 188) b a v kd nm (gH u x o z)) → gAnsV u x o z (lw_entry (some 0) b a v kd nm) (mM_entry (some 188) b a v kd nm) := by
    intro h1 h2
    refine ⟨1, u, z ++ [(8, [])], ((x.1, gup x.2.1 0 1, x.2.2.1, x.2.2.2.1, x.2.2.2.2.1, x.2.2.2.2.2.1, x.2.2.2.2.2.2.1, x.2.2.2.2.2.2.2.1, x.2.2.2.2.2.2.2.2.1, x.2.2.2.2.2.2.2.2.2.1, x.2.2.2.2.2.2.2.2.2.2.1, x.2.2.2.2.2.2.2.2.2.2.2.1, x.2.2.2.2.2.2.2.2.2.2.2.2.1, x.2.2.2.2.2.2.2.2.2.2.2.2.2.1, x.2.2.2.2.2.2.2.2.2.2.2.2.2.2.1, x.2.2.2.2.2.2.2.2.2.2.2.2.2.2.2) : gX), ?_, (h2 _).trans ?_, rfl, gTT_0 ⟨n, m, p, q, T⟩, by simp⟩
    · simp only [lw_entry, ho_0, Option.bind_some, h1 _ rfl, cG_entry_50, hl, hthr, hexc] <;> rfl
    · simp only [mM_entry_33, mM_entry_34, if_true, mM_entry_52, mM_entry_65, mM_entry_89, mM_entry_90, ho_188, Option.bind_some, r_ref] <;> rfl
  rcases g_ob b n (by omega) with c | ⟨k, hk, rfl⟩
  · refine no (fun h e => ?_) (fun z => ?_)
    · subst e
      simp only [cG_entry, hr_0_0, Option.bind_some, ho_1, k_tout T.un c, if_true]
    · simp only [mM_entry, ho_188, Option.bind_some, r_isout T.xn c, if_true]
  · obtain ⟨s, c, O⟩ := T.ob k hk
    have hk2 : k < 32 := by omega
    obtain ⟨_, _, _, _, _, e2, _⟩ := n_s6 s O.s8
    by_cases sm : s = 2
    · subst sm
      have c4 : c ≤ 4 := O.c8
      have f6 : (u.1 k).2.2.2.2.1 6 = 0 := by rcases O.d4 with h | h; exact h; omega
      have h5 := O.ep f6
      have i2 : ∀ y o z, mM_is (some 188) (Int32.ofNat k) 2 (gH y x o z) = some 1 := fun y o z => by rw [r_isin T.xn hn hk, O.et]; rfl
      by_cases g : r = 1 ∧ s' = 1
      · obtain ⟨rfl, rfl⟩ := g
        have hkv := v_gV (s := 2) (r4 rfl)
        have hvv := v_gV (s := 2) (s4 rfl)
        have cl : ∀ h : gx_H, h = gH u x o z → cG_entry (some 0) (Int32.ofNat k) a v kd nm h = (cT_setEntry (some (3 + 5 * k)) a (gcn a v) kd (gcn kd nm) h).bind fun r20 => if r20.1 = 0 then some (.threw r20.2.length, r20.2 ++ [(9, [])]) else some (.returned none, r20.2) := by
          intro h e
          subst e
          simp only [cG_entry, hr_0_0, Option.bind_some, ho_1, k_tin T.un hn hk, reduceCtorEq, if_false, hiT_4 hk2, O.es, show Int32.ofNat 2 = (2 : Int32) from rfl, if_true, r2, s2, if_neg d10, k_cn, ho_T hk2] <;> rfl
        have ent := fun y o z => r_ent (u := y) (o := o) (z := z) (a := a) (b := v) hk2 h5 (show c ≤ 8 by omega)
        simp only [← map_find O] at ent
        have ref : ∀ y z, mM_entry (some 188) (Int32.ofNat k) a v kd nm (gH y x o z) = mM_entry_65 (some 188) (Int32.ofNat k) a v kd nm 1 (gio (gfi (fun i => decide ((u.1 k).1 i = a ∧ (u.1 k).2.1 i = gcn a v)) c 0)) (some 188) 0 (gH y x o z) := by
          intro y z
          simp only [mM_entry, ho_188, Option.bind_some, i2, if_neg d10, r3, s3, mM_entry_34, ent, mM_entry_52]
        have e1 := fun y o z => k_setEntry (x := y) (o := o) (z := z) (a := a) (b := gcn a v) (kd := kd) (nm := gcn kd nm) hk2 O.ec c4
        cases hf : gfi (fun i => decide ((u.1 k).1 i = a ∧ (u.1 k).2.1 i = gcn a v)) c 0 with
        | some j =>
          rw [hf] at e1 ref
          have hj := (gfi_some _ _ _ hf).2.1
          have j8 : j < 8 := by omega
          refine ⟨0, _, z, _, ?_, ?_, rfl, ⟨n, m, p, q, gT_0 (x := ((gup x.1 k _, x.2.1, x.2.2.1, x.2.2.2.1, x.2.2.2.2.1, x.2.2.2.2.2.1, x.2.2.2.2.2.2.1, x.2.2.2.2.2.2.2.1, x.2.2.2.2.2.2.2.2.1, x.2.2.2.2.2.2.2.2.2.1, x.2.2.2.2.2.2.2.2.2.2.1, x.2.2.2.2.2.2.2.2.2.2.2.1, x.2.2.2.2.2.2.2.2.2.2.2.2.1, x.2.2.2.2.2.2.2.2.2.2.2.2.2.1, x.2.2.2.2.2.2.2.2.2.2.2.2.2.2.1, x.2.2.2.2.2.2.2.2.2.2.2.2.2.2.2) : gX)) (gT_ob T ⟨2, c, gO_set (j := j) O (by omega) hvv⟩)⟩, by omega⟩
          · simp only [lw_entry, ho_0, Option.bind_some, cl _ rfl, e1, if_neg d10]
          · simp only [ref, gio, mM_entry_65, if_neg d10, if_neg (n_nn (n := j) (by omega)), mM_entry_89, mM_entry_90, ho_188, Option.bind_some, r_ref, and_self, if_true, mM_entry_150, n_8, r_setSlot hk2 j8]
        | none =>
          rw [hf] at e1 ref
          by_cases c3 : c < 4
          · have c8 : c < 8 := by omega
            have ne4 : ¬ Int32.ofNat c = 4 := fun q => by have := (n_eq (m := 4) (by omega) (by omega)).mp q; omega
            refine ⟨0, _, z, _, ?_, ?_, rfl, ⟨n, m, p, q, gT_0 (x := ((gup x.1 k _, x.2.1, x.2.2.1, x.2.2.2.1, x.2.2.2.2.1, x.2.2.2.2.2.1, x.2.2.2.2.2.2.1, x.2.2.2.2.2.2.2.1, x.2.2.2.2.2.2.2.2.1, x.2.2.2.2.2.2.2.2.2.1, x.2.2.2.2.2.2.2.2.2.2.1, x.2.2.2.2.2.2.2.2.2.2.2.1, x.2.2.2.2.2.2.2.2.2.2.2.2.1, x.2.2.2.2.2.2.2.2.2.2.2.2.2.1, x.2.2.2.2.2.2.2.2.2.2.2.2.2.2.1, x.2.2.2.2.2.2.2.2.2.2.2.2.2.2.2) : gX)) (gT_ob T ⟨2, c + 1, gO_ent O c3 hkv hvv⟩)⟩, by omega⟩
            · simp only [lw_entry, ho_0, Option.bind_some, cl _ rfl, e1, if_pos c3, if_neg d10]
            · simp only [ref, gio, mM_entry_65, if_neg d10, if_pos (show (-1 : Int32) < 0 by decide), hr_188_3, ha_190 hk2, Option.bind_some, h5, if_neg ne4, mM_entry_89, mM_entry_90, ho_188, r_ref, and_self, if_true, n_succ, hb_190 hk2, hr_188_7, hr_188_6, n_8, hb_194 hk2 c8, hb_193 hk2 c8, r_no, gup_eq, gup_gup, mM_entry_150, r_setSlot hk2 c8] <;> rfl
          · obtain rfl : c = 4 := by omega
            refine ⟨2, u, z ++ [(9, [])], ((x.1, gup x.2.1 0 2, x.2.2.1, x.2.2.2.1, x.2.2.2.2.1, x.2.2.2.2.2.1, x.2.2.2.2.2.2.1, x.2.2.2.2.2.2.2.1, x.2.2.2.2.2.2.2.2.1, x.2.2.2.2.2.2.2.2.2.1, x.2.2.2.2.2.2.2.2.2.2.1, x.2.2.2.2.2.2.2.2.2.2.2.1, x.2.2.2.2.2.2.2.2.2.2.2.2.1, x.2.2.2.2.2.2.2.2.2.2.2.2.2.1, x.2.2.2.2.2.2.2.2.2.2.2.2.2.2.1, x.2.2.2.2.2.2.2.2.2.2.2.2.2.2.2) : gX), ?_, ?_, rfl, gTT_0 ⟨n, m, p, q, T⟩, by simp⟩
            · simp only [lw_entry, ho_0, Option.bind_some, cl _ rfl, e1, if_neg c3, if_true, hl, hthr, hexc] <;> rfl
            · simp only [ref, gio, mM_entry_65, if_neg d10, if_pos (show (-1 : Int32) < 0 by decide), hr_188_3, ha_190 hk2, Option.bind_some, h5, show Int32.ofNat 4 = (4 : Int32) from rfl, if_true, mM_entry_90, ho_188, r_ref] <;> rfl
      · refine no (fun h e => ?_) (fun z => ?_)
        · subst e
          simp only [cG_entry, hr_0_0, Option.bind_some, ho_1, k_tin T.un hn hk, reduceCtorEq, if_false, hiT_4 hk2, O.es, show Int32.ofNat 2 = (2 : Int32) from rfl, if_true, r2, s2]
          rcases r1 with rfl | rfl
          · simp only [if_true]
          · have : s' = 0 := by rcases s1 with h | h; exact h; exact absurd ⟨rfl, h⟩ g
            subst this
            simp only [if_neg d10, if_true]
        · simp only [mM_entry, ho_188, Option.bind_some, i2, if_neg d10, r3, s3]
          rcases r1 with rfl | rfl
          · simp only [if_true]
          · have : s' = 0 := by rcases s1 with h | h; exact h; exact absurd ⟨rfl, h⟩ g
            subst this
            simp only [if_neg d10, if_true]
    · refine no (fun h e => ?_) (fun z => ?_)
      · subst e
        simp only [cG_entry, hr_0_0, Option.bind_some, ho_1, k_tin T.un hn hk, reduceCtorEq, if_false, hiT_4 hk2, O.es, e2, if_neg sm] <;> rfl
      · simp only [mM_entry, ho_188, Option.bind_some, r_isin T.xn hn hk, O.et, e2, if_neg sm, if_true]
/-- a set's value that is new -/
def gq_add (q : gQ) (c : Nat) (kd nm : Int32) : gQ := ((q.1, q.2.1, gup q.2.2.1 c kd, gup q.2.2.2.1 c nm, gup q.2.2.2.2.1 5 (Int32.ofNat (c + 1)), q.2.2.2.2.2) : gQ)
def gp_add (p : gP) (c : Nat) (kd nm : Int32) : gP := ((p.1, p.2.1, gup p.2.2.1 c kd, gup p.2.2.2.1 c nm, p.2.2.2.2.1, Int32.ofNat (c + 1), p.2.2.2.2.2.2.1, p.2.2.2.2.2.2.2) : gP)
theorem gO_add {n c : Nat} {q : gQ} {p : gP} {kd nm : Int32} (O : gO n 3 c q p) (c5 : c < 5) (hv : gV n 3 kd nm) : gO n 3 (c + 1) (gq_add q c kd nm) (gp_add p c kd nm) := by
  have f6 : q.2.2.2.2.1 6 = 0 := by rcases O.d4 with h | h; exact h; omega
  refine ⟨by omega, O.es, O.et, rfl, by show c + 1 ≤ 5; omega, O.ed, Or.inl f6, fun _ => rfl, fun h => absurd f6 h, fun h => by omega, fun h => by omega, fun h => by omega, ?_, ?_, fun h => by omega, fun h => by omega, fun h => by omega, fun h => by omega, fun h => by omega⟩
  · intro h i hi
    exact ⟨gup_c hi (fun q => (O.vs h i q).1), gup_c hi (fun q => (O.vs h i q).2)⟩
  · intro h i hi
    show gV n 3 (gup q.2.2.1 c kd i) (gup q.2.2.2.1 c nm i)
    by_cases e : i = c
    · subst e; rw [gup_eq, gup_eq]; exact hv
    · rw [gup_ne e, gup_ne e]; exact O.vv h i (by omega)
theorem set_find {n c : Nat} {q : gQ} {p : gP} {a b : Int32} (O : gO n 3 c q p) : gfi (fun i => decide (q.2.2.1 i = a ∧ q.2.2.2.1 i = b)) c 0 = gfi (fun i => decide (p.2.2.1 i = a ∧ p.2.2.2.1 i = b)) c 0 := by
  refine gfi_congr _ _ fun t _ ht => ?_
  obtain ⟨v1, v2⟩ := O.vs (by omega) t (by omega)
  rw [v1, v2]
theorem k_app {k c : Nat} {kd nm : Int32} (hk : k < 32) (h5 : (u.1 k).2.2.2.2.1 5 = Int32.ofNat c) (h8 : c ≤ 5) : cT_appendMember (some (3 + 5 * k)) kd nm (gH u x o z) = if c < 5 then some (1, gH ((gup u.1 k (gq_add (u.1 k) c kd nm), u.2.1, u.2.2.1, u.2.2.2.1, u.2.2.2.2.1, u.2.2.2.2.2.1, u.2.2.2.2.2.2.1, u.2.2.2.2.2.2.2.1, u.2.2.2.2.2.2.2.2.1, u.2.2.2.2.2.2.2.2.2.1, u.2.2.2.2.2.2.2.2.2.2.1, u.2.2.2.2.2.2.2.2.2.2.2.1, u.2.2.2.2.2.2.2.2.2.2.2.2.1, u.2.2.2.2.2.2.2.2.2.2.2.2.2.1, u.2.2.2.2.2.2.2.2.2.2.2.2.2.2) : gU) x o z) else some (0, gH u x o z) := by
  unfold cT_appendMember
  by_cases c5 : c < 5
  · have c8 : c < 8 := by omega
    simp only [hiT_5 hk, Option.bind_some, h5, if_pos (show Int32.ofNat c < 5 from n_ltl (m := 5) (by omega) (by omega) c5), ho_T hk, k_setValue hk c8, gup_eq, n_succ, hpT_5 hk, gup_gup, if_pos c5] <;> rfl
  · simp only [hiT_5 hk, Option.bind_some, h5, if_neg (show ¬ Int32.ofNat c < 5 from n_nltl (m := 5) (by omega) (by omega) (by omega)), if_neg c5]
/-- as gAns, for an answer that is a truth value -/
def gAnsB (u : gU) (x : gX) (o : Nat → Int64) (z : gx_H) (L : gx_H → Option (Int32 × gx_H)) (M : gx_H → Option (Int32 × gx_H)) : Prop := ∃ e u' o' z' r x', L (gH u x o z) = some (e, gH u' x o' z') ∧ M (gH u' x o' z') = some (r, gH u' x' o' z') ∧ x'.2.1 0 = e ∧ (e = 0 → o' 0 = Int32.toInt64 r) ∧ gTT u' x' ∧ z'.length ≤ z.length + 1 ∧ (r = 0 ∨ r = 1)
theorem t_add {b kd nm : Int32} (h : gTT u x) : gAnsB u x o z (lw_add (some 0) b kd nm (some 211)) (mM_add (some 188) b kd nm) := by
  obtain ⟨n, m, p, q, T⟩ := h
  have hn := T.hn
  have d10 : ¬ (1 : Int32) = 0 := by decide
  obtain ⟨r, r1, r2, r3, r4⟩ := v_eq (k := kd) (v := nm) T.un T.xn hn
  have no : (∀ h : gx_H, h = gH u x o z → cG_add (some 0) b kd nm h = cG_add_36 h) → (∀ z, mM_add (some 188) b kd nm (gH u x o z) = mM_add_22 (some 188) b kd nm (gH u x o z)) → gAnsB u x o z (lw_add (some 0) b kd nm (some 211)) (mM_add (some 188) b kd nm) := by
    intro h1 h2
    refine ⟨1, u, o, z ++ [(8, [])], 0, ((x.1, gup x.2.1 0 1, x.2.2.1, x.2.2.2.1, x.2.2.2.2.1, x.2.2.2.2.2.1, x.2.2.2.2.2.2.1, x.2.2.2.2.2.2.2.1, x.2.2.2.2.2.2.2.2.1, x.2.2.2.2.2.2.2.2.2.1, x.2.2.2.2.2.2.2.2.2.2.1, x.2.2.2.2.2.2.2.2.2.2.2.1, x.2.2.2.2.2.2.2.2.2.2.2.2.1, x.2.2.2.2.2.2.2.2.2.2.2.2.2.1, x.2.2.2.2.2.2.2.2.2.2.2.2.2.2.1, x.2.2.2.2.2.2.2.2.2.2.2.2.2.2.2) : gX), ?_, (h2 _).trans ?_, rfl, fun q => absurd q (by decide), gTT_0 ⟨n, m, p, q, T⟩, by simp, Or.inl rfl⟩
    · simp only [lw_add, ho_0, Option.bind_some, h1 _ rfl, cG_add_36, hl, hthr, hexc] <;> rfl
    · simp only [mM_add_22, mM_add_23, if_true, mM_add_44, mM_add_45, mM_add_58, mM_add_82, mM_add_83, ho_188, Option.bind_some, r_ref] <;> rfl
  rcases g_ob b n (by omega) with c | ⟨k, hk, rfl⟩
  · refine no (fun h e => ?_) (fun z => ?_)
    · subst e
      simp only [cG_add, hr_0_0, Option.bind_some, ho_1, k_tout T.un c, if_true]
    · simp only [mM_add, ho_188, Option.bind_some, r_isout T.xn c, if_true]
  · obtain ⟨s, c, O⟩ := T.ob k hk
    have hk2 : k < 32 := by omega
    obtain ⟨_, _, _, _, _, _, e3, _⟩ := n_s6 s O.s8
    by_cases sm : s = 3
    · subst sm
      have c5 : c ≤ 5 := O.c8
      have f6 : (u.1 k).2.2.2.2.1 6 = 0 := by rcases O.d4 with h | h; exact h; omega
      have h5 := O.ep f6
      have i3 : ∀ y o z, mM_is (some 188) (Int32.ofNat k) 3 (gH y x o z) = some 1 := fun y o z => by rw [r_isin T.xn hn hk, O.et]; rfl
      rcases r1 with rfl | rfl
      · refine no (fun h e => ?_) (fun z => ?_)
        · subst e
          simp only [cG_add, hr_0_0, Option.bind_some, ho_1, k_tin T.un hn hk, reduceCtorEq, if_false, hiT_4 hk2, O.es, show Int32.ofNat 3 = (3 : Int32) from rfl, if_true, r2] <;> rfl
        · simp only [mM_add, ho_188, Option.bind_some, i3, if_neg d10, r3, if_true]
      · have hvv := v_gV (s := 3) (r4 rfl)
        have hm := fun y o z => r_has (u := y) (o := o) (z := z) (a := kd) (b := nm) hk2 h5 (show c ≤ 8 by omega)
        simp only [← set_find O] at hm
        have hc := fun y o z => k_has (x := y) (o := o) (z := z) (a := kd) (b := gcn kd nm) hk2 O.ec (show c ≤ 8 by omega)
        have ap := fun y o z => k_app (x := y) (o := o) (z := z) (kd := kd) (nm := gcn kd nm) hk2 O.ec c5
        cases hf : gfi (fun i => decide ((u.1 k).2.2.1 i = kd ∧ (u.1 k).2.2.2.1 i = gcn kd nm)) c 0 with
        | some j =>
          rw [hf] at hm hc
          simp only [Option.isSome_some, if_true] at hm hc
          refine ⟨0, u, gup o 0 0, z, 0, ((x.1, gup x.2.1 0 0, x.2.2.1, x.2.2.2.1, x.2.2.2.2.1, x.2.2.2.2.2.1, x.2.2.2.2.2.2.1, x.2.2.2.2.2.2.2.1, x.2.2.2.2.2.2.2.2.1, x.2.2.2.2.2.2.2.2.2.1, x.2.2.2.2.2.2.2.2.2.2.1, x.2.2.2.2.2.2.2.2.2.2.2.1, x.2.2.2.2.2.2.2.2.2.2.2.2.1, x.2.2.2.2.2.2.2.2.2.2.2.2.2.1, x.2.2.2.2.2.2.2.2.2.2.2.2.2.2.1, x.2.2.2.2.2.2.2.2.2.2.2.2.2.2.2) : gX), ?_, ?_, rfl, fun _ => rfl, gTT_0 ⟨n, m, p, q, T⟩, by omega, Or.inl rfl⟩
          · simp only [lw_add, ho_0, Option.bind_some, cG_add, hr_0_0, ho_1, k_tin T.un hn hk, reduceCtorEq, if_false, hiT_4 hk2, O.es, show Int32.ofNat 3 = (3 : Int32) from rfl, if_true, r2, if_neg d10, k_cn, ho_T hk2, hc, hb0] <;> rfl
          · simp only [mM_add, ho_188, Option.bind_some, i3, if_neg d10, r3, mM_add_23, hm, mM_add_45, mM_add_58, mM_add_82, mM_add_83, r_ref, and_self, if_true]
        | none =>
          rw [hf] at hm hc
          simp only [Option.isSome_none, Bool.false_eq_true, if_false] at hm hc
          by_cases c4 : c < 5
          · have c8 : c < 8 := by omega
            have ne5 : ¬ Int32.ofNat c = 5 := fun q => by have := (n_eq (m := 5) (by omega) (by omega)).mp q; omega
            simp only [if_pos c4] at ap
            refine ⟨0, _, gup o 0 1, z, 1, _, ?_, ?_, rfl, fun _ => rfl, ⟨n, m, p, q, gT_0 (x := ((gup x.1 k _, x.2.1, x.2.2.1, x.2.2.2.1, x.2.2.2.2.1, x.2.2.2.2.2.1, x.2.2.2.2.2.2.1, x.2.2.2.2.2.2.2.1, x.2.2.2.2.2.2.2.2.1, x.2.2.2.2.2.2.2.2.2.1, x.2.2.2.2.2.2.2.2.2.2.1, x.2.2.2.2.2.2.2.2.2.2.2.1, x.2.2.2.2.2.2.2.2.2.2.2.2.1, x.2.2.2.2.2.2.2.2.2.2.2.2.2.1, x.2.2.2.2.2.2.2.2.2.2.2.2.2.2.1, x.2.2.2.2.2.2.2.2.2.2.2.2.2.2.2) : gX)) (gT_ob T ⟨3, c + 1, gO_add O c4 hvv⟩)⟩, by omega, Or.inr rfl⟩
            · simp only [lw_add, ho_0, Option.bind_some, cG_add, hr_0_0, ho_1, k_tin T.un hn hk, reduceCtorEq, if_false, hiT_4 hk2, O.es, show Int32.ofNat 3 = (3 : Int32) from rfl, if_true, r2, if_neg d10, k_cn, ho_T hk2, hc, ap, hb0] <;> rfl
            · simp only [mM_add, ho_188, Option.bind_some, i3, if_neg d10, r3, mM_add_23, hm, if_true, mM_add_44, mM_add_45, mM_add_58, hr_188_3, ha_190 hk2, h5, if_neg ne5, mM_add_82, mM_add_83, r_ref, and_self, n_8, r_setSlot hk2 c8, gup_eq, n_succ, hb_190 hk2, gup_gup] <;> rfl
          · obtain rfl : c = 5 := by omega
            simp only [if_neg c4] at ap
            refine ⟨2, u, o, z ++ [(9, [])], 0, ((x.1, gup x.2.1 0 2, x.2.2.1, x.2.2.2.1, x.2.2.2.2.1, x.2.2.2.2.2.1, x.2.2.2.2.2.2.1, x.2.2.2.2.2.2.2.1, x.2.2.2.2.2.2.2.2.1, x.2.2.2.2.2.2.2.2.2.1, x.2.2.2.2.2.2.2.2.2.2.1, x.2.2.2.2.2.2.2.2.2.2.2.1, x.2.2.2.2.2.2.2.2.2.2.2.2.1, x.2.2.2.2.2.2.2.2.2.2.2.2.2.1, x.2.2.2.2.2.2.2.2.2.2.2.2.2.2.1, x.2.2.2.2.2.2.2.2.2.2.2.2.2.2.2) : gX), ?_, ?_, rfl, fun q => absurd q (by decide), gTT_0 ⟨n, m, p, q, T⟩, by simp, Or.inl rfl⟩
            · simp only [lw_add, ho_0, Option.bind_some, cG_add, hr_0_0, ho_1, k_tin T.un hn hk, reduceCtorEq, if_false, hiT_4 hk2, O.es, show Int32.ofNat 3 = (3 : Int32) from rfl, if_true, r2, if_neg d10, k_cn, ho_T hk2, hc, ap, hl, hthr, hexc] <;> rfl
            · simp only [mM_add, ho_188, Option.bind_some, i3, if_neg d10, r3, mM_add_23, hm, if_true, mM_add_44, mM_add_45, mM_add_58, hr_188_3, ha_190 hk2, h5, show Int32.ofNat 5 = (5 : Int32) from rfl, mM_add_83, r_ref] <;> rfl
    · refine no (fun h e => ?_) (fun z => ?_)
      · subst e
        simp only [cG_add, hr_0_0, Option.bind_some, ho_1, k_tin T.un hn hk, reduceCtorEq, if_false, hiT_4 hk2, O.es, e3, if_neg sm] <;> rfl
      · simp only [mM_add, ho_188, Option.bind_some, r_isin T.xn hn hk, O.et, e3, if_neg sm, if_true]
end H
end
