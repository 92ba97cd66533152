/-! texts, small numbers, searching -/
section F
def gt_b (v : Int32) (k : Int32) : Int32 := (v >>> ((8 * k) &&& 31)) &&& 255
def gt_T (a b c d : Int32) : Int32 := if (a = 0 ∧ ¬ b = 0) ∨ (b = 0 ∧ ¬ c = 0) ∨ (c = 0 ∧ ¬ d = 0) then 0 else 1
theorem m_isText {v : Int32} : mM_isText v = some (gt_T (gt_b v 0) (gt_b v 1) (gt_b v 2) (gt_b v 3)) := by
  unfold mM_isText
  by_cases c0 : gt_b v 0 = 0 <;> by_cases c1 : gt_b v 1 = 0 <;> by_cases c2 : gt_b v 2 = 0 <;> by_cases c3 : gt_b v 3 = 0 <;>
    (simp only [gt_T, c0, c1, c2, c3]
     unfold gt_b at c0 c1 c2 c3
     simp at c0 c1 c2 c3
     simp [mM_isText_56, mM_isText_55, mM_isText_41, mM_isText_36, mM_isText_40, mM_isText_6, mM_isText, c0, c1, c2, c3])
/-- byte k of a number, as the class takes it -/
theorem gt_bvk (v : BitVec 32) (s i : Nat) (hs : s ≤ 24) (hi : i < 32) : ((BitVec.signExtend 32 (BitVec.signExtend 64 v >>> s)).getLsbD i && (255#32).getLsbD i) = ((v.sshiftRight s).getLsbD i && (255#32).getLsbD i) := by
  rw [gt_bv255 i hi]
  by_cases h : i < 8
  · have h1 : s + i < 32 := by omega
    have h2 : s + i < 64 := by omega
    have h3 : i < 64 := by omega
    rw [BitVec.getLsbD_signExtend, BitVec.getLsbD_sshiftRight, BitVec.getLsbD_ushiftRight, BitVec.getLsbD_signExtend]
    have h4 : ¬ 32 ≤ i := by omega
    simp [h, hi, h1, h2, h3, h4]
  · simp [h]
theorem c_byteOf {v : Int32} {k : Int32} (hk : k = 0 ∨ k = 1 ∨ k = 2 ∨ k = 3) : cG_byteOf (Int32.toInt64 v) k = some (gt_b v k) := by
  unfold cG_byteOf gt_b
  congr 1
  apply Int32.toBitVec_inj.mp
  apply BitVec.eq_of_getLsbD_eq
  intro i hi
  rcases hk with rfl | rfl | rfl | rfl
  · have e1 : ((Int32.toInt64 ((8 : Int32) * 0)).toUInt64 &&& Int64.toUInt64 63) = 0 := by decide
    have e2 : ((8 * 0 : Int32) &&& 31) = 0 := by decide
    rw [e1, e2]
    have K := gt_bvk v.toBitVec 0 i (by decide) hi
    rw [BitVec.sshiftRight_zero] at K
    simp [Int64.toInt32, Int32.toInt64, Int32.toBitVec_and] at K ⊢
    exact K
  · have e1 : ((Int32.toInt64 ((8 : Int32) * 1)).toUInt64 &&& Int64.toUInt64 63) = 8 := by decide
    have e2 : ((8 * 1 : Int32) &&& 31) = 8 := by decide
    rw [e1, e2]
    have K := gt_bvk v.toBitVec 8 i (by decide) hi
    simp [Int64.toInt32, Int32.toInt64, Int32.toBitVec_and]
    exact K
  · have e1 : ((Int32.toInt64 ((8 : Int32) * 2)).toUInt64 &&& Int64.toUInt64 63) = 16 := by decide
    have e2 : ((8 * 2 : Int32) &&& 31) = 16 := by decide
    rw [e1, e2]
    have K := gt_bvk v.toBitVec 16 i (by decide) hi
    simp [Int64.toInt32, Int32.toInt64, Int32.toBitVec_and]
    exact K
  · have e1 : ((Int32.toInt64 ((8 : Int32) * 3)).toUInt64 &&& Int64.toUInt64 63) = 24 := by decide
    have e2 : ((8 * 3 : Int32) &&& 31) = 24 := by decide
    rw [e1, e2]
    have K := gt_bvk v.toBitVec 24 i (by decide) hi
    simp [Int64.toInt32, Int32.toInt64, Int32.toBitVec_and]
    exact K
theorem c_isText {v : Int32} : cS_isText v = some (gt_T (gt_b v 0) (gt_b v 1) (gt_b v 2) (gt_b v 3)) := by
  unfold cS_isText
  by_cases c0 : gt_b v 0 = 0 <;> by_cases c1 : gt_b v 1 = 0 <;> by_cases c2 : gt_b v 2 = 0 <;> by_cases c3 : gt_b v 3 = 0 <;>
    simp [cS_isText_31, cS_isText_2, cS_isText, gt_T, c0, c1, c2, c3, c_byteOf]
end F
