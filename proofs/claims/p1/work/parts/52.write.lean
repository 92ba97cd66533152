/-! bytes that are written, on both sides -/
def gl_s (v : Int64) : Int64 := (Int64.toUInt64 v >>> ((Int32.toInt64 (7 : Int32)).toUInt64 &&& Int64.toUInt64 63)).toInt64
theorem gl_sh7 : ((Int32.toInt64 (7 : Int32)).toUInt64 &&& Int64.toUInt64 63) = 7 := by decide
theorem gl_div (u : UInt64) : (u >>> 7).toNat = u.toNat / 128 := by
  rw [UInt64.toNat_shiftRight, Nat.shiftRight_eq_div_pow]; rfl
theorem gl_nat (v : Int64) : (gl_s v).toUInt64.toNat = v.toUInt64.toNat / 128 := by
  unfold gl_s; rw [gl_sh7]
  have : ((v.toUInt64 >>> 7).toInt64).toUInt64 = v.toUInt64 >>> 7 := by simp
  rw [this, gl_div]
theorem gl_zero {v : Int64} (h : v.toUInt64.toNat = 0) : v = 0 := by
  have h1 : v.toUInt64 = 0 := UInt64.toNat_inj.mp h
  have := congrArg UInt64.toInt64 h1
  simpa using this
theorem gl_and {v : Int64} (h : gl_s v = 0) : v &&& 127 = v := by
  have h2 : v.toUInt64.toNat < 128 := by
    have := gl_nat v
    rw [h] at this
    have h3 : (0 : Int64).toUInt64.toNat = 0 := rfl
    omega
  have h4 : (v &&& 127).toUInt64 = v.toUInt64 := by
    rw [Int64.toUInt64_and]
    apply UInt64.toNat_inj.mp
    rw [UInt64.toNat_and]
    show v.toUInt64.toNat &&& 127 = _
    rw [show (127 : Nat) = 2 ^ 7 - 1 from rfl, Nat.and_two_pow_sub_one_eq_mod]
    omega
  have := congrArg UInt64.toInt64 h4
  simpa using this
/-- the bytes of a lengthy number -/
def gl : Nat → Int64 → List Int32
  | 0, v => [Int64.toInt32 v]
  | n + 1, v => if gl_s v = 0 then [Int64.toInt32 v] else (Int64.toInt32 (v &&& 127) + 128) :: gl n (gl_s v)
theorem gl_len : ∀ (n : Nat) (v : Int64), (gl n v).length ≤ n + 1 := by
  intro n
  induction n with
  | zero => intro v; simp [gl]
  | succ n ih => intro v; unfold gl; split
                 · simp
                 · have := ih (gl_s v); simp; omega
/-! the class's draft: cell 170, its bytes in 171; the outcome in 169 -/
def cw_b (I : Nat → Nat → Int32) (b : Int32) : Nat → Nat → Int32 := if I 169 4 = 0 then (if I 170 1 < 300 then gm_up (gm_up I 171 (I 170 1).toNatClampNeg b) 170 1 (I 170 1 + 1) else gm_up I 169 4 1) else I
def cw_l (I : Nat → Nat → Int32) (bs : List Int32) : Nat → Nat → Int32 := bs.foldl cw_b I
def cw_ok (I : Nat → Nat → Int32) : Prop := ∃ c, c ≤ 300 ∧ I 170 1 = Int32.ofNat c
theorem cw_ok_b {I : Nat → Nat → Int32} {b : Int32} (h : cw_ok I) : cw_ok (cw_b I b) := by
  obtain ⟨c, h1, h2⟩ := h
  unfold cw_b
  split
  · split
    · rename_i h3
      rw [h2] at h3
      have := (n_lt (m := 300) (by omega) (by omega)).mp h3
      exact ⟨c + 1, by omega, by rw [h2]; simp [gm_up]⟩
    · exact ⟨c, h1, by simp [gm_up, h2]⟩
  · exact ⟨c, h1, h2⟩
theorem cw_ok_l {I : Nat → Nat → Int32} {bs : List Int32} (h : cw_ok I) : cw_ok (cw_l I bs) := by
  unfold cw_l
  induction bs generalizing I with
  | nil => exact h
  | cons b bs ih => exact ih (cw_ok_b h)
def mw_b (I : Nat → Nat → Int32) (b : Int32) : Nat → Nat → Int32 := if I 188 26 = 0 then (if I 188 27 = 300 then gm_up I 188 26 1 else gm_up (gm_up I 208 (I 188 27).toNatClampNeg b) 188 27 (I 188 27 + 1)) else I
def mw_l (I : Nat → Nat → Int32) (bs : List Int32) : Nat → Nat → Int32 := bs.foldl mw_b I
def mw_ok (I : Nat → Nat → Int32) : Prop := ∃ c, c ≤ 300 ∧ I 188 27 = Int32.ofNat c
theorem mw_ok_b {I : Nat → Nat → Int32} {b : Int32} (h : mw_ok I) : mw_ok (mw_b I b) := by
  obtain ⟨c, h1, h2⟩ := h
  unfold mw_b
  split
  · split
    · exact ⟨c, h1, by simp [gm_up, h2]⟩
    · rename_i h3
      rw [h2] at h3
      have h4 : ¬ c = 300 := fun q => h3 (by rw [q]; rfl)
      exact ⟨c + 1, by omega, by rw [h2]; simp [gm_up]⟩
  · exact ⟨c, h1, h2⟩
section F
variable {I : Nat → Nat → Int32} {J : Nat → Nat → Int64} {z : gx_H}
theorem c_writeByte {b : Int32} (h : cw_ok I) : cW_writeByte (some 169) b (gm_mk I J z) = some (gm_mk (cw_b I b) J z) := by
  obtain ⟨c, h1, h2⟩ := h
  unfold cW_writeByte cw_b
  rw [gi_169_4, Option.bind_some]
  by_cases h3 : I 169 4 = 0
  · rw [if_pos h3, if_pos h3, gr_169_0, Option.bind_some, go_170, Option.bind_some]
    unfold cB_append
    rw [gi_170_1, Option.bind_some]
    by_cases h4 : I 170 1 < 300
    · have h5 : ¬ I 170 1 < 0 := by rw [h2]; exact n_nn (by omega)
      have h6 : (I 170 1).toNatClampNeg < 300 := by
        have h7 := h4
        rw [h2] at h7 ⊢
        rw [n_cl (by omega)]
        exact (n_lt (m := 300) (by omega) (by omega)).mp h7
      simp only [if_pos h4, gr_170_0, Option.bind_some, gi_170_1, gb_171 h5 h6, gp_170_1]
      simp [gm_up]
    · simp only [if_neg h4, Option.bind_some]
      simp [gp_169_4]
  · rw [if_neg h3, if_neg h3]
theorem m_say {b : Int32} (h : mw_ok I) : mM_say (some 188) b (gm_mk I J z) = some (gm_mk (mw_b I b) J z) := by
  obtain ⟨c, h1, h2⟩ := h
  unfold mM_say mw_b
  rw [gi_188_26, Option.bind_some]
  by_cases h3 : I 188 26 = 0
  · rw [if_pos h3, if_pos h3, gi_188_27, Option.bind_some]
    by_cases h4 : I 188 27 = 300
    · rw [if_pos h4, if_pos h4]
      simp [gp_188_26, mM_say_22, gi_188_26, gm_up]
    · rw [if_neg h4, if_neg h4]
      have h5 : ¬ I 188 27 < 0 := by rw [h2]; exact n_nn (by omega)
      have h6 : (I 188 27).toNatClampNeg < 300 := by
        rw [h2, n_cl (by omega)]
        have : ¬ c = 300 := fun q => h4 (by rw [h2, q]; rfl)
        omega
      simp only [mM_say_22, gi_188_26, Option.bind_some, if_pos h3, gr_188_28, gi_188_27, gb_208 h5 h6, gp_188_27]
      simp [gm_up]
  · rw [if_neg h3, if_neg h3]
    simp [mM_say_22, gi_188_26, h3]
theorem c_lengthy : ∀ (n f : Nat) (I : Nat → Nat → Int32) (v : Int64), n ≤ 9 → n < f → cw_ok I → cW_writeLengthy_5 f (some 169) v (Int32.ofNat (10 - n)) (gm_mk I J z) = some (gm_mk (cw_l I (gl n v)) J z) := by
  intro n
  induction n with
  | zero =>
    intro f I v hn hf hI
    obtain ⟨f, rfl⟩ : ∃ g, f = g + 1 := ⟨f - 1, by omega⟩
    have h10 : ¬ (Int32.ofNat (10 - 0) < 10) := by decide
    rw [cW_writeLengthy_5, if_neg h10]
    simp [cW_writeLengthy_46, go_169, c_writeByte hI, gl, cw_l]
  | succ n ih =>
    intro f I v hn hf hI
    obtain ⟨f, rfl⟩ : ∃ g, f = g + 1 := ⟨f - 1, by omega⟩
    have h10 : Int32.ofNat (10 - (n + 1)) < 10 := (n_lt (m := 10) (by omega) (by omega)).mpr (by omega)
    rw [cW_writeLengthy_5, if_pos h10]
    by_cases hs : gl_s v = 0
    · have hs2 := hs
      unfold gl_s at hs
      rw [if_pos hs]
      simp [cW_writeLengthy_46, go_169, c_writeByte hI, gl, cw_l, hs2]
    · have hs2 := hs
      unfold gl_s at hs
      rw [if_neg hs, go_169, Option.bind_some, c_writeByte hI, Option.bind_some, n_succ, show 10 - (n + 1) + 1 = 10 - n by omega]
      show cW_writeLengthy_5 f (some 169) (gl_s v) _ _ = _
      rw [ih f _ _ (by omega) (by omega) (cw_ok_b hI)]
      simp [gl, cw_l, hs2]
theorem c_writeLengthy {v : Int64} (hI : cw_ok I) : cW_writeLengthy (some 169) v (gm_mk I J z) = some (gm_mk (cw_l I (gl 9 v)) J z) := c_lengthy 9 2000 I v (by omega) (by omega) hI
theorem m_lengthy : ∀ (n f : Nat) (I : Nat → Nat → Int32) (v : Int64), v.toUInt64.toNat < 128 ^ (n + 1) → n + 1 < f → mw_ok I → mM_sayLengthy_5 f (some 188) v 1 (gm_mk I J z) = some (gm_mk (mw_l I (gl n v)) J z) := by
  have last : ∀ (f : Nat) (I : Nat → Nat → Int32) (v : Int64), gl_s v = 0 → 1 < f → mw_ok I → mM_sayLengthy_5 f (some 188) v 1 (gm_mk I J z) = some (gm_mk (mw_l I [Int64.toInt32 v]) J z) := by
    intro f I v hs hf hI
    obtain ⟨f, rfl⟩ : ∃ g, f = g + 2 := ⟨f - 2, by omega⟩
    have hs2 := hs
    unfold gl_s at hs
    rw [mM_sayLengthy_5, if_neg (by decide), if_pos hs]
    simp only [mM_sayLengthy_37, mM_sayLengthy_53, go_188, m_say hI, Option.bind_some, if_pos hs, gl_and hs2, Int32.add_zero]
    rw [mM_sayLengthy_5, if_pos rfl]
    rfl
  intro n
  induction n with
  | zero =>
    intro f I v hv hf hI
    have hs : gl_s v = 0 := gl_zero (by rw [gl_nat]; omega)
    simpa [gl] using last f I v hs (by omega) hI
  | succ n ih =>
    intro f I v hv hf hI
    by_cases hs : gl_s v = 0
    · simpa [gl, hs] using last f I v hs (by omega) hI
    · obtain ⟨f, rfl⟩ : ∃ g, f = g + 1 := ⟨f - 1, by omega⟩
      have hs2 := hs
      unfold gl_s at hs
      have ih2 := ih f (mw_b I (Int64.toInt32 (v &&& 127) + 128)) (gl_s v) (by rw [gl_nat]; rw [Nat.pow_succ] at hv; omega) (by omega) (mw_ok_b hI)
      rw [mM_sayLengthy_5, if_neg (by decide), if_neg hs]
      simp only [mM_sayLengthy_37, mM_sayLengthy_53, go_188, m_say hI, Option.bind_some, if_neg hs]
      refine ih2.trans ?_
      rw [gl, if_neg hs2]
      rfl
theorem m_sayLengthy {v : Int64} (hI : mw_ok I) : mM_sayLengthy (some 188) v (gm_mk I J z) = some (gm_mk (mw_l I (gl 9 v)) J z) :=
  m_lengthy 9 2000 I v (by have := v.toUInt64.toNat_lt; omega) (by omega) hI
/-! texts -/
def gt_L (v : Int32) : Int32 := if gt_b v 0 = 0 then 0 else if gt_b v 1 = 0 then 1 else if gt_b v 2 = 0 then 2 else if gt_b v 3 = 0 then 3 else 4
def gt_W (v : Int32) : List Int32 := if gt_b v 0 = 0 then [0] else if gt_b v 1 = 0 then [1, gt_b v 0] else if gt_b v 2 = 0 then [2, gt_b v 0, gt_b v 1] else if gt_b v 3 = 0 then [3, gt_b v 0, gt_b v 1, gt_b v 2] else [4, gt_b v 0, gt_b v 1, gt_b v 2, gt_b v 3]
theorem c_textLength {v : Int32} : cW_textLength v = some (gt_L v) := by
  unfold cW_textLength gt_L
  by_cases c0 : gt_b v 0 = 0 <;> by_cases c1 : gt_b v 1 = 0 <;> by_cases c2 : gt_b v 2 = 0 <;> by_cases c3 : gt_b v 3 = 0 <;>
    simp [cW_textLength_2, cW_textLength, c0, c1, c2, c3, c_byteOf]
theorem m_textLength {v : Int32} : mM_textLength v = some (gt_L v) := by
  unfold mM_textLength gt_L
  by_cases c0 : gt_b v 0 = 0 <;> by_cases c1 : gt_b v 1 = 0 <;> by_cases c2 : gt_b v 2 = 0 <;> by_cases c3 : gt_b v 3 = 0 <;>
    (simp only [c0, c1, c2, c3]
     unfold gt_b at c0 c1 c2 c3
     simp at c0 c1 c2 c3
     simp [mM_textLength_2, mM_textLength, c0, c1, c2, c3])
theorem c_writeWord {v : Int32} (hI : cw_ok I) : cW_writeWord (some 169) (Int32.toInt64 v) (gt_L v) (gm_mk I J z) = some (gm_mk (cw_l I (gt_W v)) J z) := by
  unfold gt_L gt_W
  by_cases c0 : gt_b v 0 = 0 <;> by_cases c1 : gt_b v 1 = 0 <;> by_cases c2 : gt_b v 2 = 0 <;> by_cases c3 : gt_b v 3 = 0 <;>
    simp (maxDischargeDepth := 12) [cW_writeWord_8, cW_writeWord, c0, c1, c2, c3, c_byteOf, go_169, c_writeByte, cw_ok_b, hI, cw_l]
end F
