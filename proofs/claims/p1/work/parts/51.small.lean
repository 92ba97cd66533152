/-! small numbers as ints -/
theorem n_lt {n m : Nat} (hn : n < 2 ^ 31) (hm : m < 2 ^ 31) : (Int32.ofNat n < Int32.ofNat m) ↔ n < m := by
  rw [Int32.lt_iff_toInt_lt, Int32.toInt_ofNat_of_lt hn, Int32.toInt_ofNat_of_lt hm]; omega
theorem n_nn {n : Nat} (hn : n < 2 ^ 31) : ¬ Int32.ofNat n < 0 := by
  have := n_lt hn (show 0 < 2 ^ 31 by decide)
  intro q
  have q2 : Int32.ofNat n < Int32.ofNat 0 := q
  rw [this] at q2
  omega
theorem n_cl {n : Nat} (hn : n < 2 ^ 31) : (Int32.ofNat n).toNatClampNeg = n := Int32.toNatClampNeg_ofNat_of_lt hn
theorem n_eq {n m : Nat} (hn : n < 2 ^ 31) (hm : m < 2 ^ 31) : (Int32.ofNat n = Int32.ofNat m) ↔ n = m := by
  rw [← Int32.toInt_inj, Int32.toInt_ofNat_of_lt hn, Int32.toInt_ofNat_of_lt hm]; omega
theorem n_succ {n : Nat} : Int32.ofNat n + 1 = Int32.ofNat (n + 1) := (Int32.ofNat_add n 1).symm
/-- an int that is not below 0 and below m is a small number -/
theorem n_of {v : Int32} {m : Nat} (h0 : ¬ v < 0) (h1 : v < Int32.ofNat m) (hm : m < 2 ^ 31) : ∃ n, n < m ∧ v = Int32.ofNat n := by
  have h3 : ¬ v.toInt < (0 : Int32).toInt := fun q => h0 (Int32.lt_iff_toInt_lt.mpr q)
  have h4 : (0 : Int32).toInt = 0 := rfl
  refine ⟨v.toNatClampNeg, ?_, ?_⟩
  · have h2 := Int32.lt_iff_toInt_lt.mp h1
    rw [Int32.toInt_ofNat_of_lt hm] at h2
    rw [← Int32.toNat_toInt]
    omega
  · rw [← Int32.toInt_inj, Int32.toInt_ofNat_of_lt (Int32.toNatClampNeg_lt v), ← Int32.toNat_toInt]
    omega
section F
variable {I : Nat → Nat → Int32} {J : Nat → Nat → Int64} {z : gx_H}
/-! a new object, on both sides -/
theorem c_Tbegin {c : Nat} {s : Int32} (h : c < 32) : cT_begin (some (3 + 5 * c)) s (gm_mk I J z) = some (gm_mk (gm_up (gm_up (gm_up I (3 + 5 * c) 4 s) (3 + 5 * c) 5 0) (3 + 5 * c) 6 0) (gm_uj J (3 + 5 * c) 10 0) z) := by
  simp [cT_begin, gpT_4 h, gpT_5 h, gpT_6 h, gqT_10 h]
theorem c_Sbegin {c : Nat} {s : Int32} (hc : I 1 1 = Int32.ofNat c) (h : c < 32) : cS_begin (some 1) s (gm_mk I J z) = some (Int32.ofNat c, gm_mk (gm_up (gm_up (gm_up (gm_up I (3 + 5 * c) 4 s) (3 + 5 * c) 5 0) (3 + 5 * c) 6 0) 1 1 (Int32.ofNat (c + 1))) (gm_uj J (3 + 5 * c) 10 0) z) := by
  unfold cS_begin
  have hl : Int32.ofNat c < 32 := (n_lt (m := 32) (by omega) (by omega)).mpr h
  have h1 : ¬ (1 = 3 + 5 * c) := by omega
  have hs : Int32.ofNat (c + 1) - 1 = Int32.ofNat c := by rw [← n_succ, Int32.add_sub_cancel]
  simp only [gi_1_1, Option.bind_some, hc, hl, if_true, gr_1_0, gT (n_nn (show c < 2 ^ 31 by omega)) (by rw [n_cl (by omega)]; exact h), n_cl (show c < 2 ^ 31 by omega), go_T h, c_Tbegin h, gm_up, h1, false_and, if_false, gp_1_1, n_succ, true_and, hs]
theorem m_refused {a b : Int32} : mM_refused (some 188) a b (gm_mk I J z) = some (if a = 0 ∧ b = 0 then 0 else 1, gm_mk (gm_up I 188 0 (if a = 0 then if b = 0 then 0 else 2 else 1)) J z) := by
  unfold mM_refused
  by_cases ha : a = 0 <;> by_cases hb : b = 0 <;> simp [ha, hb, mM_refused_18, gp_188_0, gi_188_0, gm_up]
theorem m0_isObject (h : I 188 1 = 0) {v : Int32} : mM_isObject (some 188) v (gm_mk I J z) = some 0 := by
  unfold mM_isObject; by_cases c : v < 0 <;> simp [c, gi_188_1, h]
theorem m0_is (h : I 188 1 = 0) {v t : Int32} : mM_is (some 188) v t (gm_mk I J z) = some 0 := by
  simp [mM_is, go_188, m0_isObject h]
theorem m0_view (h : I 188 1 = 0) {a b c d : Int32} : mM_view (some 188) a b c d (gm_mk I J z) = some (0, gm_mk (gm_up I 188 0 1) J z) := by
  simp [mM_view_66, mM_view_52, mM_view_39, mM_view_38, mM_view, go_188, m0_is h, gi_188_1, h, m_refused]
theorem m0_take (h : I 188 1 = 0) {a b : Int32} : mM_take (some 188) a b (gm_mk I J z) = some (0, gm_mk (gm_up I 188 0 1) J z) := by
  simp [mM_take_80, mM_take_79, mM_take_26, mM_take_25, mM_take, go_188, m0_is h, gi_188_1, h, m_refused]
theorem m0_entry (h : I 188 1 = 0) {a b c d e : Int32} : mM_entry (some 188) a b c d e (gm_mk I J z) = some (gm_mk (gm_up I 188 0 1) J z) := by
  simp [mM_entry_150, mM_entry_90, mM_entry_89, mM_entry_65, mM_entry_52, mM_entry_34, mM_entry_33, mM_entry, go_188, m0_is h, gi_188_1, h, m_refused]
theorem m0_add (h : I 188 1 = 0) {a b c : Int32} : mM_add (some 188) a b c (gm_mk I J z) = some (0, gm_mk (gm_up I 188 0 1) J z) := by
  simp [mM_add_83, mM_add_82, mM_add_58, mM_add_45, mM_add_44, mM_add_23, mM_add_22, mM_add, go_188, m0_is h, gi_188_1, h, m_refused]
theorem m0_get (h : I 188 1 = 0) {a b c : Int32} : mM_get (some 188) a b c (gm_mk I J z) = some (0, gm_mk (gm_up I 188 0 1) J z) := by
  simp [mM_get_205, mM_get_200, mM_get_141, mM_get_130, mM_get_57, mM_get_82, mM_get_81, mM_get_128, mM_get_123, mM_get_127, mM_get_40, mM_get_22, mM_get_21, mM_get, go_188, m0_isObject h, gi_188_1, h, m_refused]
theorem m0_pass (h : I 188 1 = 0) {a : Int32} : mM_pass (some 188) a (gm_mk I J z) = some (0, gm_mk (gm_up I 188 0 1) J z) := by
  unfold mM_pass mM_pass_14
  simp only [go_188, m0_isObject h, Option.bind_some, gi_188_10, if_true]
  by_cases c : I 188 10 = 4 <;> simp [c, mM_pass_27, go_188, m_refused]
theorem m0_detach (h : I 188 1 = 0) {a : Int32} : mM_detach (some 188) a (gm_mk I J z) = some (0, gm_mk (gm_up I 188 0 0) J z) := by
  have h2 : (gm_up I 188 0 0) 188 1 = 0 := by simp [gm_up, h]
  simp [mM_detach_28, mM_detach_27, mM_detach, gp_188_0, go_188, m0_is h2]
theorem m0_type (h : I 188 1 = 0) {a : Int32} : mM_type (some 188) a (gm_mk I J z) = some (-1, gm_mk (gm_up I 188 0 0) J z) := by
  have h2 : (gm_up I 188 0 0) 188 1 = 0 := by simp [gm_up, h]
  simp [mM_type, gp_188_0, go_188, m0_isObject h2]
theorem m0_size (h : I 188 1 = 0) {a : Int32} : mM_size (some 188) a (gm_mk I J z) = some (-1, gm_mk (gm_up I 188 0 0) J z) := by
  have h2 : (gm_up I 188 0 0) 188 1 = 0 := by simp [gm_up, h]
  simp [mM_size_38, mM_size_37, mM_size, gp_188_0, go_188, m0_isObject h2]
theorem m_clear : mM_clear (some 188) (gm_mk I J z) = some (I 188 1, gm_mk (gm_up (gm_up (gm_up (gm_up I 188 0 0) 188 1 0) 188 12 0) 188 10 0) J z) := by
  simp [mM_clear, gp_188_0, gp_188_1, gp_188_12, gp_188_10, gi_188_1, gm_up]
theorem m_holders : mM_holders (some 188) (gm_mk I J z) = some (I 188 12, gm_mk (gm_up I 188 0 0) J z) := by simp [mM_holders, gp_188_0, gi_188_12, gm_up]
theorem m_found : mM_found (some 188) (gm_mk I J z) = some (I 188 17, gm_mk (gm_up I 188 0 0) J z) := by simp [mM_found, gp_188_0, gi_188_17, gm_up]
theorem m_wipe : mM_wipe (some 188) (gm_mk I J z) = some (I 188 15, gm_mk (gm_up (gm_up I 188 0 0) 188 15 0) J z) := by simp [mM_wipe, gp_188_0, gp_188_15, gi_188_15, gm_up]
theorem m0_spoil (h : I 188 15 = 0) {a b : Int32} : mM_spoil (some 188) a b (gm_mk I J z) = some (0, gm_mk (gm_up I 188 0 0) J z) := by
  unfold mM_spoil; by_cases c : a < 0 <;> simp [c, gp_188_0, gi_188_15, gm_up, h]
theorem m0_byteAt (h : I 188 15 = 0) {a : Int32} : mM_byteAt (some 188) a (gm_mk I J z) = some (-1, gm_mk (gm_up I 188 0 0) J z) := by
  unfold mM_byteAt; by_cases c : a < 0 <;> simp [c, gp_188_0, gi_188_15, gm_up, h]
/-! texts -/
def gt_b (v : Int32) (k : Int32) : Int32 := (v >>> ((8 * k) &&& 31)) &&& 255
def gt_T (a b c d : Int32) : Int32 := if (a = 0 ∧ ¬ b = 0) ∨ (b = 0 ∧ ¬ c = 0) ∨ (c = 0 ∧ ¬ d = 0) then 0 else 1
theorem m_isText {v : Int32} : mM_isText v = some (gt_T (gt_b v 0) (gt_b v 1) (gt_b v 2) (gt_b v 3)) := by
  unfold mM_isText
  by_cases c0 : gt_b v 0 = 0 <;> by_cases c1 : gt_b v 1 = 0 <;> by_cases c2 : gt_b v 2 = 0 <;> by_cases c3 : gt_b v 3 = 0 <;>
    (simp only [gt_T, c0, c1, c2, c3]
     unfold gt_b at c0 c1 c2 c3
     simp at c0 c1 c2 c3
     simp [mM_isText_56, mM_isText_55, mM_isText_41, mM_isText_36, mM_isText_40, mM_isText_6, mM_isText, c0, c1, c2, c3])
/-- byte k of a number, as the class takes it -/
theorem gt_bv255 : ∀ i : Nat, i < 32 → (255#32).getLsbD i = decide (i < 8) := by decide
theorem gt_bvk (v : BitVec 32) (s i : Nat) (hs : s ≤ 24) (hi : i < 32) : ((BitVec.signExtend 32 (BitVec.signExtend 64 v >>> s)).getLsbD i && (255#32).getLsbD i) = ((v.sshiftRight s).getLsbD i && (255#32).getLsbD i) := by
  rw [gt_bv255 i hi]
  by_cases h : i < 8
  · have h1 : s + i < 32 := by omega
    have h2 : s + i < 64 := by omega
    have h3 : i < 64 := by omega
    rw [BitVec.getLsbD_signExtend, BitVec.getLsbD_sshiftRight, BitVec.getLsbD_ushiftRight, BitVec.getLsbD_signExtend]
    have h4 : ¬ 32 ≤ i := by omega
    simp [h, hi, h1, h2, h3, h4]
  · simp [h]
theorem c_byteOf {v : Int32} {k : Int32} (hk : k = 0 ∨ k = 1 ∨ k = 2 ∨ k = 3) : cG_byteOf (Int32.toInt64 v) k = some (gt_b v k) := by
  unfold cG_byteOf gt_b
  congr 1
  apply Int32.toBitVec_inj.mp
  apply BitVec.eq_of_getLsbD_eq
  intro i hi
  rcases hk with rfl | rfl | rfl | rfl
  · have e1 : ((Int32.toInt64 ((8 : Int32) * 0)).toUInt64 &&& Int64.toUInt64 63) = 0 := by decide
    have e2 : ((8 * 0 : Int32) &&& 31) = 0 := by decide
    rw [e1, e2]
    have K := gt_bvk v.toBitVec 0 i (by decide) hi
    rw [BitVec.sshiftRight_zero] at K
    simp [Int64.toInt32, Int32.toInt64, Int32.toBitVec_and] at K ⊢
    exact K
  · have e1 : ((Int32.toInt64 ((8 : Int32) * 1)).toUInt64 &&& Int64.toUInt64 63) = 8 := by decide
    have e2 : ((8 * 1 : Int32) &&& 31) = 8 := by decide
    rw [e1, e2]
    have K := gt_bvk v.toBitVec 8 i (by decide) hi
    simp [Int64.toInt32, Int32.toInt64, Int32.toBitVec_and]
    exact K
  · have e1 : ((Int32.toInt64 ((8 : Int32) * 2)).toUInt64 &&& Int64.toUInt64 63) = 16 := by decide
    have e2 : ((8 * 2 : Int32) &&& 31) = 16 := by decide
    rw [e1, e2]
    have K := gt_bvk v.toBitVec 16 i (by decide) hi
    simp [Int64.toInt32, Int32.toInt64, Int32.toBitVec_and]
    exact K
  · have e1 : ((Int32.toInt64 ((8 : Int32) * 3)).toUInt64 &&& Int64.toUInt64 63) = 24 := by decide
    have e2 : ((8 * 3 : Int32) &&& 31) = 24 := by decide
    rw [e1, e2]
    have K := gt_bvk v.toBitVec 24 i (by decide) hi
    simp [Int64.toInt32, Int32.toInt64, Int32.toBitVec_and]
    exact K
theorem c_isText {v : Int32} : cS_isText v = some (gt_T (gt_b v 0) (gt_b v 1) (gt_b v 2) (gt_b v 3)) := by
  unfold cS_isText
  by_cases c0 : gt_b v 0 = 0 <;> by_cases c1 : gt_b v 1 = 0 <;> by_cases c2 : gt_b v 2 = 0 <;> by_cases c3 : gt_b v 3 = 0 <;>
    simp [cS_isText_31, cS_isText_2, cS_isText, gt_T, c0, c1, c2, c3, c_byteOf]
end F
