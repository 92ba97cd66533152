/-! one call on a fresh object: the law answers true -/
section F
variable {x0 x1 x2 x3 x4 x5 : Int32} {h : gx_H}
theorem p_l6 : [x0, x1, x2, x3, x4, x5].length.toInt32 - 6 < 0 + 6 := show ((6 : Nat).toInt32 - 6 : Int32) < 0 + 6 by decide
theorem p_l0 : ¬ [x0, x1, x2, x3, x4, x5].length.toInt32 - 6 < 0 := show ¬ ((6 : Nat).toInt32 - 6 : Int32) < 0 by decide
theorem p_1320 : lw_law_1320 [x0, x1, x2, x3, x4, x5] (lw_law_23 [x0, x1, x2, x3, x4, x5] 1999) (some 0) (some 188) (some 211) 0 h = some (1, h) := by
  unfold lw_law_1320
  rw [lw_law_23, if_pos p_l6]
theorem p_201 : lw_law_201 [x0, x1, x2, x3, x4, x5] (lw_law_23 [x0, x1, x2, x3, x4, x5] 1999) (some 0) (some 188) (some 211) 0 h = some (1, h) := p_1320
theorem p_301 : lw_law_301 [x0, x1, x2, x3, x4, x5] (lw_law_23 [x0, x1, x2, x3, x4, x5] 1999) (some 0) (some 188) (some 211) 0 h = some (1, h) := p_1320
theorem p_393 : lw_law_393 [x0, x1, x2, x3, x4, x5] (lw_law_23 [x0, x1, x2, x3, x4, x5] 1999) (some 0) (some 188) (some 211) 0 h = some (1, h) := p_1320
theorem p_481 : lw_law_481 [x0, x1, x2, x3, x4, x5] (lw_law_23 [x0, x1, x2, x3, x4, x5] 1999) (some 0) (some 188) (some 211) 0 h = some (1, h) := p_1320
theorem p_628 : lw_law_628 [x0, x1, x2, x3, x4, x5] (lw_law_23 [x0, x1, x2, x3, x4, x5] 1999) (some 0) (some 188) (some 211) 0 h = some (1, h) := p_1320
theorem p_799 : lw_law_799 [x0, x1, x2, x3, x4, x5] (lw_law_23 [x0, x1, x2, x3, x4, x5] 1999) (some 0) (some 188) (some 211) 0 h = some (1, h) := p_1320
theorem p_979 : lw_law_979 [x0, x1, x2, x3, x4, x5] (lw_law_23 [x0, x1, x2, x3, x4, x5] 1999) (some 0) (some 188) (some 211) 0 h = some (1, h) := p_1320
theorem p_1035 : lw_law_1035 [x0, x1, x2, x3, x4, x5] (lw_law_23 [x0, x1, x2, x3, x4, x5] 1999) (some 0) (some 188) (some 211) 0 h = some (1, h) := p_1320
theorem p_1116 : lw_law_1116 [x0, x1, x2, x3, x4, x5] (lw_law_23 [x0, x1, x2, x3, x4, x5] 1999) (some 0) (some 188) (some 211) 0 h = some (1, h) := p_1320
theorem p_1160 : lw_law_1160 [x0, x1, x2, x3, x4, x5] (lw_law_23 [x0, x1, x2, x3, x4, x5] 1999) (some 0) (some 188) (some 211) 0 h = some (1, h) := p_1320
theorem p_e0 : [x0, x1, x2, x3, x4, x5][Int32.toNatClampNeg 0]? = some x0 := rfl
theorem p_e1 : [x0, x1, x2, x3, x4, x5][Int32.toNatClampNeg (0 + 1)]? = some x1 := rfl
theorem p_e2 : [x0, x1, x2, x3, x4, x5][Int32.toNatClampNeg (0 + 2)]? = some x2 := rfl
theorem p_e3 : [x0, x1, x2, x3, x4, x5][Int32.toNatClampNeg (0 + 3)]? = some x3 := rfl
theorem p_e4 : [x0, x1, x2, x3, x4, x5][Int32.toNatClampNeg (0 + 4)]? = some x4 := rfl
theorem p_e5 : [x0, x1, x2, x3, x4, x5][Int32.toNatClampNeg (0 + 5)]? = some x5 := rfl
def p_G (x0 x1 x2 x3 x4 x5 : Int32) : Prop := ∃ h', lw_law_23 [x0, x1, x2, x3, x4, x5] 2000 (some 0) (some 188) (some 211) 0 (gm_mk gm_I0 gm_J0 []) = some (1, h') ∧ h'.length ≤ 100000
theorem p_len {I : Nat → Nat → Int32} {J : Nat → Nat → Int64} {z : gx_H} (h : z.length ≤ ([] : gx_H).length + 1) : (gm_mk I J z).length ≤ 100000 := by rw [gm_len]; simp at h; omega
theorem p_op0 (hk : x0 &&& 31 = 0) : p_G x0 x1 x2 x3 x4 x5 := by
  unfold p_G
  rw [lw_law_23, if_neg p_l0, if_neg (by decide), p_e0, Option.bind_some, hk]
  rw [if_pos rfl]
  rw [if_neg (by decide), p_e1, Option.bind_some]
  obtain ⟨I1, J1, z1, e1, f1, hz, hj⟩ := c0_make (I := gm_I0) (J := gm_J0) (z := []) (t := x1) rfl
  rw [e1, Option.bind_some]
  dsimp only
  rw [if_neg (by decide), Option.bind_some]
  obtain ⟨I2, J2, e2, g1, g2⟩ := m0_make (I := I1) (J := J1) (z := z1) (t := x1) (f1 188 1 (by decide))
  rw [go_188, Option.bind_some, e2, Option.bind_some]
  dsimp only
  rw [go_188, Option.bind_some, m_thrown, Option.bind_some, if_pos g1]
  by_cases c : gk_T x1 = 0
  · rw [if_pos c, ga_211 (by decide) (by decide), Option.bind_some, show Int32.toNatClampNeg 0 = 0 from rfl, if_pos (show J2 211 0 = Int32.toInt64 0 by rw [g2, hj c]; rfl), p_201]
    exact ⟨_, rfl, p_len hz⟩
  · rw [if_neg c, p_201]
    exact ⟨_, rfl, p_len hz⟩
theorem p_op1 (hk : x0 &&& 31 = 1) : p_G x0 x1 x2 x3 x4 x5 := by
  unfold p_G
  rw [lw_law_23, if_neg p_l0, if_neg (by decide), p_e0, Option.bind_some, hk]
  rw [if_neg (by decide)]
  rw [if_pos rfl]
  rw [if_neg (by decide), p_e1, Option.bind_some]
  rw [if_neg (by decide), p_e2, Option.bind_some]
  rw [if_neg (by decide), p_e3, Option.bind_some]
  obtain ⟨I1, J1, z1, e1, f1, hz, hj⟩ := c0_buffer (I := gm_I0) (J := gm_J0) (z := []) (w := ((Int32.toInt64 x1) <<< (Int32.toInt64 (32 : Int32) &&& 63)) ||| ((Int32.toInt64 x2) &&& (4294967295 : Int64))) (n := x3) rfl
  rw [e1, Option.bind_some]
  dsimp only
  rw [if_neg (by decide), Option.bind_some]
  rw [if_neg (by decide), Option.bind_some]
  rw [if_neg (by decide), Option.bind_some]
  obtain ⟨I2, J2, e2, g1, g2⟩ := m0_buffer (I := I1) (J := J1) (z := z1) (w := ((Int32.toInt64 x1) <<< (Int32.toInt64 (32 : Int32) &&& 63)) ||| ((Int32.toInt64 x2) &&& (4294967295 : Int64))) (n := x3) (f1 188 1 (by decide))
  rw [go_188, Option.bind_some, e2, Option.bind_some]
  dsimp only
  rw [go_188, Option.bind_some, m_thrown, Option.bind_some, if_pos g1]
  by_cases c : gb_T x3 = 0
  · rw [if_pos c, ga_211 (by decide) (by decide), Option.bind_some, show Int32.toNatClampNeg 0 = 0 from rfl, if_pos (show J2 211 0 = Int32.toInt64 0 by rw [g2, hj c]; rfl), p_301]
    exact ⟨_, rfl, p_len hz⟩
  · rw [if_neg c, p_301]
    exact ⟨_, rfl, p_len hz⟩
theorem p_op3 (hk : x0 &&& 31 = 3) : p_G x0 x1 x2 x3 x4 x5 := by
  unfold p_G
  rw [lw_law_23, if_neg p_l0, if_neg (by decide), p_e0, Option.bind_some, hk]
  rw [if_neg (by decide)]
  rw [if_neg (by decide)]
  rw [if_neg (by decide)]
  rw [if_pos rfl]
  rw [if_neg (by decide), p_e1, Option.bind_some]
  rw [if_neg (by decide), p_e2, Option.bind_some]
  obtain ⟨I1, J1, e1, f1, hj⟩ := c0_stamp (I := gm_I0) (J := gm_J0) (z := []) (w := ((Int32.toInt64 x1) <<< (Int32.toInt64 (32 : Int32) &&& 63)) ||| ((Int32.toInt64 x2) &&& (4294967295 : Int64))) rfl
  rw [e1, Option.bind_some]
  dsimp only
  rw [if_neg (by decide), Option.bind_some]
  rw [if_neg (by decide), Option.bind_some]
  obtain ⟨I2, J2, e2, g1, g2⟩ := m0_stamp (I := I1) (J := J1) (z := []) (w := ((Int32.toInt64 x1) <<< (Int32.toInt64 (32 : Int32) &&& 63)) ||| ((Int32.toInt64 x2) &&& (4294967295 : Int64))) (f1 188 1 (by decide))
  rw [go_188, Option.bind_some, e2, Option.bind_some]
  dsimp only
  rw [go_188, Option.bind_some, m_thrown, Option.bind_some, if_pos g1, if_pos rfl, ga_211 (by decide) (by decide), Option.bind_some, show Int32.toNatClampNeg 0 = 0 from rfl, if_pos (show J2 211 0 = Int32.toInt64 0 by rw [g2, hj]; rfl), p_481]
  exact ⟨_, rfl, p_len (by simp)⟩
theorem p_op2 (hk : x0 &&& 31 = 2) : p_G x0 x1 x2 x3 x4 x5 := by
  unfold p_G
  rw [lw_law_23, if_neg p_l0, if_neg (by decide), p_e0, Option.bind_some, hk]
  rw [if_neg (by decide)]
  rw [if_neg (by decide)]
  rw [if_pos rfl]
  rw [if_neg (by decide), p_e1, Option.bind_some]
  rw [if_neg (by decide), p_e2, Option.bind_some]
  rw [if_neg (by decide), p_e3, Option.bind_some]
  rw [if_neg (by decide), p_e4, Option.bind_some]
  rw [c0_view rfl, Option.bind_some]
  dsimp only
  rw [if_neg (by decide), Option.bind_some]
  rw [if_neg (by decide), Option.bind_some]
  rw [if_neg (by decide), Option.bind_some]
  rw [if_neg (by decide), Option.bind_some]
  rw [go_188, Option.bind_some, m0_view rfl, Option.bind_some]
  dsimp only
  rw [go_188, Option.bind_some, m_thrown, Option.bind_some, if_pos (by simp [gm_up]), if_neg (by decide), p_393]
  exact ⟨_, rfl, p_len (by simp)⟩
theorem p_op5 (hk : x0 &&& 31 = 5) : p_G x0 x1 x2 x3 x4 x5 := by
  unfold p_G
  rw [lw_law_23, if_neg p_l0, if_neg (by decide), p_e0, Option.bind_some, hk]
  rw [if_neg (by decide)]
  rw [if_neg (by decide)]
  rw [if_neg (by decide)]
  rw [if_neg (by decide)]
  rw [if_neg (by decide)]
  rw [if_pos rfl]
  rw [if_neg (by decide), p_e1, Option.bind_some]
  rw [if_neg (by decide), p_e2, Option.bind_some]
  rw [c0_take rfl, Option.bind_some]
  dsimp only
  rw [if_neg (by decide), Option.bind_some]
  rw [if_neg (by decide), Option.bind_some]
  rw [go_188, Option.bind_some, m0_take rfl, Option.bind_some]
  dsimp only
  rw [go_188, Option.bind_some, m_thrown, Option.bind_some, if_pos (by simp [gm_up]), if_neg (by decide), p_628]
  exact ⟨_, rfl, p_len (by simp)⟩
theorem p_op7 (hk : x0 &&& 31 = 7) : p_G x0 x1 x2 x3 x4 x5 := by
  unfold p_G
  rw [lw_law_23, if_neg p_l0, if_neg (by decide), p_e0, Option.bind_some, hk]
  rw [if_neg (by decide)]
  rw [if_neg (by decide)]
  rw [if_neg (by decide)]
  rw [if_neg (by decide)]
  rw [if_neg (by decide)]
  rw [if_neg (by decide)]
  rw [if_neg (by decide)]
  rw [if_pos rfl]
  rw [if_neg (by decide), p_e1, Option.bind_some]
  rw [if_neg (by decide), p_e2, Option.bind_some]
  rw [if_neg (by decide), p_e3, Option.bind_some]
  rw [c0_add rfl, Option.bind_some]
  dsimp only
  rw [if_neg (by decide), Option.bind_some]
  rw [if_neg (by decide), Option.bind_some]
  rw [if_neg (by decide), Option.bind_some]
  rw [go_188, Option.bind_some, m0_add rfl, Option.bind_some]
  dsimp only
  rw [go_188, Option.bind_some, m_thrown, Option.bind_some, if_pos (by simp [gm_up]), if_neg (by decide), p_799]
  exact ⟨_, rfl, p_len (by simp)⟩
theorem p_op13 (hk : x0 &&& 31 = 13) : p_G x0 x1 x2 x3 x4 x5 := by
  unfold p_G
  rw [lw_law_23, if_neg p_l0, if_neg (by decide), p_e0, Option.bind_some, hk]
  rw [if_neg (by decide)]
  rw [if_neg (by decide)]
  rw [if_neg (by decide)]
  rw [if_neg (by decide)]
  rw [if_neg (by decide)]
  rw [if_neg (by decide)]
  rw [if_neg (by decide)]
  rw [if_neg (by decide)]
  rw [if_neg (by decide)]
  rw [if_neg (by decide)]
  rw [if_neg (by decide)]
  rw [if_neg (by decide)]
  rw [if_neg (by decide)]
  rw [if_pos rfl]
  rw [if_neg (by decide), p_e1, Option.bind_some]
  rw [if_neg (by decide), p_e2, Option.bind_some]
  rw [if_neg (by decide), p_e3, Option.bind_some]
  rw [c0_get rfl, Option.bind_some]
  dsimp only
  rw [if_neg (by decide), Option.bind_some]
  rw [if_neg (by decide), Option.bind_some]
  rw [if_neg (by decide), Option.bind_some]
  rw [go_188, Option.bind_some, m0_get rfl, Option.bind_some]
  dsimp only
  rw [go_188, Option.bind_some, m_thrown, Option.bind_some, if_pos (by simp [gm_up]), if_neg (by decide), p_979]
  exact ⟨_, rfl, p_len (by simp)⟩
theorem p_op14 (hk : x0 &&& 31 = 14) : p_G x0 x1 x2 x3 x4 x5 := by
  unfold p_G
  rw [lw_law_23, if_neg p_l0, if_neg (by decide), p_e0, Option.bind_some, hk]
  rw [if_neg (by decide)]
  rw [if_neg (by decide)]
  rw [if_neg (by decide)]
  rw [if_neg (by decide)]
  rw [if_neg (by decide)]
  rw [if_neg (by decide)]
  rw [if_neg (by decide)]
  rw [if_neg (by decide)]
  rw [if_neg (by decide)]
  rw [if_neg (by decide)]
  rw [if_neg (by decide)]
  rw [if_neg (by decide)]
  rw [if_neg (by decide)]
  rw [if_neg (by decide)]
  rw [if_pos rfl]
  rw [if_neg (by decide), p_e1, Option.bind_some]
  rw [c0_pass rfl, Option.bind_some]
  dsimp only
  rw [if_neg (by decide), Option.bind_some]
  rw [go_188, Option.bind_some, m0_pass rfl, Option.bind_some]
  dsimp only
  rw [go_188, Option.bind_some, m_thrown, Option.bind_some, if_pos (by simp [gm_up]), if_neg (by decide), p_1035]
  exact ⟨_, rfl, p_len (by simp)⟩
theorem p_op4 (hk : x0 &&& 31 = 4) : p_G x0 x1 x2 x3 x4 x5 := by
  unfold p_G
  rw [lw_law_23, if_neg p_l0, if_neg (by decide), p_e0, Option.bind_some, hk]
  rw [if_neg (by decide)]
  rw [if_neg (by decide)]
  rw [if_neg (by decide)]
  rw [if_neg (by decide)]
  rw [if_pos rfl]
  rw [if_neg (by decide), p_e1, Option.bind_some]
  rw [if_neg (by decide), p_e2, Option.bind_some]
  rw [if_neg (by decide), p_e3, Option.bind_some]
  rw [if_neg (by decide), p_e4, Option.bind_some]
  rw [c0_put rfl, Option.bind_some]
  dsimp only
  rw [if_neg (by decide), Option.bind_some]
  rw [if_neg (by decide), Option.bind_some]
  rw [if_neg (by decide), Option.bind_some]
  rw [if_neg (by decide), Option.bind_some]
  rw [go_188, Option.bind_some, m0_put rfl, Option.bind_some, go_188, Option.bind_some, m_thrown, Option.bind_some, if_pos (by simp [gm_up]), p_1320]
  exact ⟨_, rfl, p_len (by simp)⟩
theorem p_op6 (hk : x0 &&& 31 = 6) : p_G x0 x1 x2 x3 x4 x5 := by
  unfold p_G
  rw [lw_law_23, if_neg p_l0, if_neg (by decide), p_e0, Option.bind_some, hk]
  rw [if_neg (by decide)]
  rw [if_neg (by decide)]
  rw [if_neg (by decide)]
  rw [if_neg (by decide)]
  rw [if_neg (by decide)]
  rw [if_neg (by decide)]
  rw [if_pos rfl]
  rw [if_neg (by decide), p_e1, Option.bind_some]
  rw [if_neg (by decide), p_e2, Option.bind_some]
  rw [if_neg (by decide), p_e3, Option.bind_some]
  rw [if_neg (by decide), p_e4, Option.bind_some]
  rw [if_neg (by decide), p_e5, Option.bind_some]
  rw [c0_entry rfl, Option.bind_some]
  dsimp only
  rw [if_neg (by decide), Option.bind_some]
  rw [if_neg (by decide), Option.bind_some]
  rw [if_neg (by decide), Option.bind_some]
  rw [if_neg (by decide), Option.bind_some]
  rw [if_neg (by decide), Option.bind_some]
  rw [go_188, Option.bind_some, m0_entry rfl, Option.bind_some, go_188, Option.bind_some, m_thrown, Option.bind_some, if_pos (by simp [gm_up]), p_1320]
  exact ⟨_, rfl, p_len (by simp)⟩
theorem p_op8 (hk : x0 &&& 31 = 8) : p_G x0 x1 x2 x3 x4 x5 := by
  unfold p_G
  rw [lw_law_23, if_neg p_l0, if_neg (by decide), p_e0, Option.bind_some, hk]
  rw [if_neg (by decide)]
  rw [if_neg (by decide)]
  rw [if_neg (by decide)]
  rw [if_neg (by decide)]
  rw [if_neg (by decide)]
  rw [if_neg (by decide)]
  rw [if_neg (by decide)]
  rw [if_neg (by decide)]
  rw [if_pos rfl]
  rw [if_neg (by decide), p_e1, Option.bind_some]
  rw [go_0, Option.bind_some, c0_detach rfl, Option.bind_some]
  dsimp only
  rw [if_neg (by decide), Option.bind_some]
  rw [go_188, Option.bind_some, m0_detach rfl, Option.bind_some]
  dsimp only
  rw [if_pos (by simp [gm_up, gm_I0]), p_1320]
  exact ⟨_, rfl, p_len (by simp)⟩
theorem p_op9 (hk : x0 &&& 31 = 9) : p_G x0 x1 x2 x3 x4 x5 := by
  unfold p_G
  rw [lw_law_23, if_neg p_l0, if_neg (by decide), p_e0, Option.bind_some, hk]
  rw [if_neg (by decide)]
  rw [if_neg (by decide)]
  rw [if_neg (by decide)]
  rw [if_neg (by decide)]
  rw [if_neg (by decide)]
  rw [if_neg (by decide)]
  rw [if_neg (by decide)]
  rw [if_neg (by decide)]
  rw [if_neg (by decide)]
  rw [if_pos rfl]
  rw [go_0, Option.bind_some, c_clear, Option.bind_some]
  dsimp only
  rw [go_188, Option.bind_some, m_clear, Option.bind_some]
  dsimp only
  rw [if_pos (by simp [gm_up, gm_I0]), p_1320]
  exact ⟨_, rfl, p_len (by simp)⟩
theorem p_op20 (hk : x0 &&& 31 = 20) : p_G x0 x1 x2 x3 x4 x5 := by
  unfold p_G
  rw [lw_law_23, if_neg p_l0, if_neg (by decide), p_e0, Option.bind_some, hk]
  rw [if_neg (by decide)]
  rw [if_neg (by decide)]
  rw [if_neg (by decide)]
  rw [if_neg (by decide)]
  rw [if_neg (by decide)]
  rw [if_neg (by decide)]
  rw [if_neg (by decide)]
  rw [if_neg (by decide)]
  rw [if_neg (by decide)]
  rw [if_neg (by decide)]
  rw [if_neg (by decide)]
  rw [if_neg (by decide)]
  rw [if_neg (by decide)]
  rw [if_neg (by decide)]
  rw [if_neg (by decide)]
  rw [if_neg (by decide)]
  rw [if_neg (by decide)]
  rw [if_neg (by decide)]
  rw [if_neg (by decide)]
  rw [if_neg (by decide)]
  rw [if_pos rfl]
  rw [go_0, Option.bind_some, c_wipe, Option.bind_some]
  dsimp only
  rw [go_188, Option.bind_some, m_wipe, Option.bind_some]
  dsimp only
  rw [if_pos (by simp [gm_up, gm_I0]), p_1320]
  exact ⟨_, rfl, p_len (by simp)⟩
theorem p_op21 (hk : x0 &&& 31 = 21) : p_G x0 x1 x2 x3 x4 x5 := by
  unfold p_G
  rw [lw_law_23, if_neg p_l0, if_neg (by decide), p_e0, Option.bind_some, hk]
  rw [if_neg (by decide)]
  rw [if_neg (by decide)]
  rw [if_neg (by decide)]
  rw [if_neg (by decide)]
  rw [if_neg (by decide)]
  rw [if_neg (by decide)]
  rw [if_neg (by decide)]
  rw [if_neg (by decide)]
  rw [if_neg (by decide)]
  rw [if_neg (by decide)]
  rw [if_neg (by decide)]
  rw [if_neg (by decide)]
  rw [if_neg (by decide)]
  rw [if_neg (by decide)]
  rw [if_neg (by decide)]
  rw [if_neg (by decide)]
  rw [if_neg (by decide)]
  rw [if_neg (by decide)]
  rw [if_neg (by decide)]
  rw [if_neg (by decide)]
  rw [if_neg (by decide)]
  rw [if_pos rfl]
  rw [if_neg (by decide), p_e1, Option.bind_some]
  rw [if_neg (by decide), p_e2, Option.bind_some]
  rw [go_0, Option.bind_some, c0_spoil rfl, Option.bind_some]
  dsimp only
  rw [if_neg (by decide), Option.bind_some]
  rw [if_neg (by decide), Option.bind_some]
  rw [go_188, Option.bind_some, m0_spoil rfl, Option.bind_some]
  dsimp only
  rw [if_pos (by simp [gm_up, gm_I0]), p_1320]
  exact ⟨_, rfl, p_len (by simp)⟩
theorem p_op10 (hk : x0 &&& 31 = 10) : p_G x0 x1 x2 x3 x4 x5 := by
  unfold p_G
  rw [lw_law_23, if_neg p_l0, if_neg (by decide), p_e0, Option.bind_some, hk]
  rw [if_neg (by decide)]
  rw [if_neg (by decide)]
  rw [if_neg (by decide)]
  rw [if_neg (by decide)]
  rw [if_neg (by decide)]
  rw [if_neg (by decide)]
  rw [if_neg (by decide)]
  rw [if_neg (by decide)]
  rw [if_neg (by decide)]
  rw [if_neg (by decide)]
  rw [if_pos rfl]
  rw [go_0, Option.bind_some, c_objects, Option.bind_some]
  rw [go_188, Option.bind_some, m_objects, Option.bind_some]
  dsimp only
  rw [if_pos (by simp [gm_up, gm_I0]), p_1320]
  exact ⟨_, rfl, p_len (by simp)⟩
theorem p_op11 (hk : x0 &&& 31 = 11) : p_G x0 x1 x2 x3 x4 x5 := by
  unfold p_G
  rw [lw_law_23, if_neg p_l0, if_neg (by decide), p_e0, Option.bind_some, hk]
  rw [if_neg (by decide)]
  rw [if_neg (by decide)]
  rw [if_neg (by decide)]
  rw [if_neg (by decide)]
  rw [if_neg (by decide)]
  rw [if_neg (by decide)]
  rw [if_neg (by decide)]
  rw [if_neg (by decide)]
  rw [if_neg (by decide)]
  rw [if_neg (by decide)]
  rw [if_neg (by decide)]
  rw [if_pos rfl]
  rw [if_neg (by decide), p_e1, Option.bind_some]
  rw [go_0, Option.bind_some, c0_type rfl, Option.bind_some]
  rw [if_neg (by decide), Option.bind_some]
  rw [go_188, Option.bind_some, m0_type rfl, Option.bind_some]
  dsimp only
  rw [if_pos (by simp [gm_up, gm_I0]), p_1320]
  exact ⟨_, rfl, p_len (by simp)⟩
theorem p_op12 (hk : x0 &&& 31 = 12) : p_G x0 x1 x2 x3 x4 x5 := by
  unfold p_G
  rw [lw_law_23, if_neg p_l0, if_neg (by decide), p_e0, Option.bind_some, hk]
  rw [if_neg (by decide)]
  rw [if_neg (by decide)]
  rw [if_neg (by decide)]
  rw [if_neg (by decide)]
  rw [if_neg (by decide)]
  rw [if_neg (by decide)]
  rw [if_neg (by decide)]
  rw [if_neg (by decide)]
  rw [if_neg (by decide)]
  rw [if_neg (by decide)]
  rw [if_neg (by decide)]
  rw [if_neg (by decide)]
  rw [if_pos rfl]
  rw [if_neg (by decide), p_e1, Option.bind_some]
  rw [go_0, Option.bind_some, c0_size rfl, Option.bind_some]
  rw [if_neg (by decide), Option.bind_some]
  rw [go_188, Option.bind_some, m0_size rfl, Option.bind_some]
  dsimp only
  rw [if_pos (by simp [gm_up, gm_I0]), p_1320]
  exact ⟨_, rfl, p_len (by simp)⟩
theorem p_op15 (hk : x0 &&& 31 = 15) : p_G x0 x1 x2 x3 x4 x5 := by
  unfold p_G
  rw [lw_law_23, if_neg p_l0, if_neg (by decide), p_e0, Option.bind_some, hk]
  rw [if_neg (by decide)]
  rw [if_neg (by decide)]
  rw [if_neg (by decide)]
  rw [if_neg (by decide)]
  rw [if_neg (by decide)]
  rw [if_neg (by decide)]
  rw [if_neg (by decide)]
  rw [if_neg (by decide)]
  rw [if_neg (by decide)]
  rw [if_neg (by decide)]
  rw [if_neg (by decide)]
  rw [if_neg (by decide)]
  rw [if_neg (by decide)]
  rw [if_neg (by decide)]
  rw [if_neg (by decide)]
  rw [if_pos rfl]
  rw [go_0, Option.bind_some, c_holders, Option.bind_some]
  rw [go_188, Option.bind_some, m_holders, Option.bind_some]
  dsimp only
  rw [if_pos (by simp [gm_up, gm_I0]), p_1320]
  exact ⟨_, rfl, p_len (by simp)⟩
theorem p_op18 (hk : x0 &&& 31 = 18) : p_G x0 x1 x2 x3 x4 x5 := by
  unfold p_G
  rw [lw_law_23, if_neg p_l0, if_neg (by decide), p_e0, Option.bind_some, hk]
  rw [if_neg (by decide)]
  rw [if_neg (by decide)]
  rw [if_neg (by decide)]
  rw [if_neg (by decide)]
  rw [if_neg (by decide)]
  rw [if_neg (by decide)]
  rw [if_neg (by decide)]
  rw [if_neg (by decide)]
  rw [if_neg (by decide)]
  rw [if_neg (by decide)]
  rw [if_neg (by decide)]
  rw [if_neg (by decide)]
  rw [if_neg (by decide)]
  rw [if_neg (by decide)]
  rw [if_neg (by decide)]
  rw [if_neg (by decide)]
  rw [if_neg (by decide)]
  rw [if_neg (by decide)]
  rw [if_pos rfl]
  rw [go_0, Option.bind_some, c_found, Option.bind_some]
  rw [go_188, Option.bind_some, m_found, Option.bind_some]
  dsimp only
  rw [if_pos (by simp [gm_up, gm_I0]), p_1320]
  exact ⟨_, rfl, p_len (by simp)⟩
theorem p_op22 (hk : x0 &&& 31 = 22) : p_G x0 x1 x2 x3 x4 x5 := by
  unfold p_G
  rw [lw_law_23, if_neg p_l0, if_neg (by decide), p_e0, Option.bind_some, hk]
  rw [if_neg (by decide)]
  rw [if_neg (by decide)]
  rw [if_neg (by decide)]
  rw [if_neg (by decide)]
  rw [if_neg (by decide)]
  rw [if_neg (by decide)]
  rw [if_neg (by decide)]
  rw [if_neg (by decide)]
  rw [if_neg (by decide)]
  rw [if_neg (by decide)]
  rw [if_neg (by decide)]
  rw [if_neg (by decide)]
  rw [if_neg (by decide)]
  rw [if_neg (by decide)]
  rw [if_neg (by decide)]
  rw [if_neg (by decide)]
  rw [if_neg (by decide)]
  rw [if_neg (by decide)]
  rw [if_neg (by decide)]
  rw [if_neg (by decide)]
  rw [if_neg (by decide)]
  rw [if_neg (by decide)]
  rw [if_pos rfl]
  rw [if_neg (by decide), p_e1, Option.bind_some]
  rw [go_0, Option.bind_some, c0_byteAt rfl, Option.bind_some]
  rw [if_neg (by decide), Option.bind_some]
  rw [go_188, Option.bind_some, m0_byteAt rfl, Option.bind_some]
  dsimp only
  rw [if_pos (by simp [gm_up, gm_I0]), p_1320]
  exact ⟨_, rfl, p_len (by simp)⟩
theorem p_op16 (hk : x0 &&& 31 = 16) : p_G x0 x1 x2 x3 x4 x5 := by
  unfold p_G
  rw [lw_law_23, if_neg p_l0, if_neg (by decide), p_e0, Option.bind_some, hk]
  rw [if_neg (by decide)]
  rw [if_neg (by decide)]
  rw [if_neg (by decide)]
  rw [if_neg (by decide)]
  rw [if_neg (by decide)]
  rw [if_neg (by decide)]
  rw [if_neg (by decide)]
  rw [if_neg (by decide)]
  rw [if_neg (by decide)]
  rw [if_neg (by decide)]
  rw [if_neg (by decide)]
  rw [if_neg (by decide)]
  rw [if_neg (by decide)]
  rw [if_neg (by decide)]
  rw [if_neg (by decide)]
  rw [if_neg (by decide)]
  rw [if_pos rfl]
  rw [if_neg (by decide), p_e1, Option.bind_some]
  rw [if_neg (by decide), p_e2, Option.bind_some]
  obtain ⟨I1, J1, z1, e1, f1, hz, hj⟩ := c0_write (I := gm_I0) (J := gm_J0) (z := []) (k := x1) (v := x2) rfl rfl
  rw [e1, Option.bind_some]
  dsimp only
  rw [if_neg (by decide), Option.bind_some]
  rw [if_neg (by decide), Option.bind_some]
  obtain ⟨I2, e2, g1⟩ := m0_write (I := I1) (J := J1) (z := z1) (k := x1) (v := x2) (f1 188 1 (by decide)) (f1 188 10 (by decide))
  rw [go_188, Option.bind_some, e2, Option.bind_some]
  dsimp only
  rw [go_188, Option.bind_some, m_thrown, Option.bind_some, if_pos g1]
  by_cases c : gw_R x1 x2 = 0
  · rw [if_pos c, ga_211 (by decide) (by decide), Option.bind_some, show Int32.toNatClampNeg 0 = 0 from rfl, if_pos (show J1 211 0 = Int32.toInt64 (if gw_R x1 x2 = 0 then Int32.ofNat (1 + (gw_V x1 x2).length) else 0) by rw [if_pos c]; exact hj c), p_1116]
    exact ⟨_, rfl, p_len hz⟩
  · rw [if_neg c, p_1116]
    exact ⟨_, rfl, p_len hz⟩
theorem p_op17 (hk : x0 &&& 31 = 17) : p_G x0 x1 x2 x3 x4 x5 := by
  unfold p_G
  rw [lw_law_23, if_neg p_l0, if_neg (by decide), p_e0, Option.bind_some, hk]
  rw [if_neg (by decide)]
  rw [if_neg (by decide)]
  rw [if_neg (by decide)]
  rw [if_neg (by decide)]
  rw [if_neg (by decide)]
  rw [if_neg (by decide)]
  rw [if_neg (by decide)]
  rw [if_neg (by decide)]
  rw [if_neg (by decide)]
  rw [if_neg (by decide)]
  rw [if_neg (by decide)]
  rw [if_neg (by decide)]
  rw [if_neg (by decide)]
  rw [if_neg (by decide)]
  rw [if_neg (by decide)]
  rw [if_neg (by decide)]
  rw [if_neg (by decide)]
  rw [if_pos rfl]
  obtain ⟨I1, z1, e1, f1, hz⟩ := c0_read (I := gm_I0) (J := gm_J0) (z := []) rfl rfl rfl
  rw [e1, Option.bind_some]
  dsimp only
  obtain ⟨I2, e2, g1⟩ := m0_read (I := I1) (J := gm_J0) (z := z1) (f1 188 1 (by decide)) (f1 188 12 (by decide)) (f1 188 15 (by decide))
  rw [go_188, Option.bind_some, e2, Option.bind_some]
  dsimp only
  rw [go_188, Option.bind_some, m_thrown, Option.bind_some, if_pos g1, if_neg (by decide), p_1160]
  exact ⟨_, rfl, p_len hz⟩
theorem p_op19 (hk : x0 &&& 31 = 19) : p_G x0 x1 x2 x3 x4 x5 := by
  unfold p_G
  rw [lw_law_23, if_neg p_l0, if_neg (by decide), p_e0, Option.bind_some, hk]
  rw [if_neg (by decide)]
  rw [if_neg (by decide)]
  rw [if_neg (by decide)]
  rw [if_neg (by decide)]
  rw [if_neg (by decide)]
  rw [if_neg (by decide)]
  rw [if_neg (by decide)]
  rw [if_neg (by decide)]
  rw [if_neg (by decide)]
  rw [if_neg (by decide)]
  rw [if_neg (by decide)]
  rw [if_neg (by decide)]
  rw [if_neg (by decide)]
  rw [if_neg (by decide)]
  rw [if_neg (by decide)]
  rw [if_neg (by decide)]
  rw [if_neg (by decide)]
  rw [if_neg (by decide)]
  rw [if_neg (by decide)]
  rw [if_pos rfl]
  rw [if_neg (by decide), p_e1, Option.bind_some]
  rw [if_neg (by decide), p_e2, Option.bind_some]
  rw [if_neg (by decide), p_e3, Option.bind_some]
  obtain ⟨I1, e1, f1⟩ := c0_feed (I := gm_I0) (J := gm_J0) (z := []) (w := ((Int32.toInt64 x1) <<< (Int32.toInt64 (32 : Int32) &&& 63)) ||| ((Int32.toInt64 x2) &&& (4294967295 : Int64))) (n := x3) rfl
  rw [go_0, Option.bind_some, e1, Option.bind_some]
  dsimp only
  rw [if_neg (by decide), Option.bind_some]
  rw [if_neg (by decide), Option.bind_some]
  rw [if_neg (by decide), Option.bind_some]
  obtain ⟨I2, e2⟩ := m0_feed (I := I1) (J := gm_J0) (z := []) (w := ((Int32.toInt64 x1) <<< (Int32.toInt64 (32 : Int32) &&& 63)) ||| ((Int32.toInt64 x2) &&& (4294967295 : Int64))) (n := x3) (f1 188 15 (by decide))
  rw [go_188, Option.bind_some, e2, Option.bind_some]
  dsimp only
  rw [if_pos rfl, p_1320]
  exact ⟨_, rfl, p_len (by simp)⟩
theorem p_six : p_G x0 x1 x2 x3 x4 x5 := by
  by_cases c0 : x0 &&& 31 = 0
  · exact p_op0 c0
  by_cases c1 : x0 &&& 31 = 1
  · exact p_op1 c1
  by_cases c2 : x0 &&& 31 = 2
  · exact p_op2 c2
  by_cases c3 : x0 &&& 31 = 3
  · exact p_op3 c3
  by_cases c4 : x0 &&& 31 = 4
  · exact p_op4 c4
  by_cases c5 : x0 &&& 31 = 5
  · exact p_op5 c5
  by_cases c6 : x0 &&& 31 = 6
  · exact p_op6 c6
  by_cases c7 : x0 &&& 31 = 7
  · exact p_op7 c7
  by_cases c8 : x0 &&& 31 = 8
  · exact p_op8 c8
  by_cases c9 : x0 &&& 31 = 9
  · exact p_op9 c9
  by_cases c10 : x0 &&& 31 = 10
  · exact p_op10 c10
  by_cases c11 : x0 &&& 31 = 11
  · exact p_op11 c11
  by_cases c12 : x0 &&& 31 = 12
  · exact p_op12 c12
  by_cases c13 : x0 &&& 31 = 13
  · exact p_op13 c13
  by_cases c14 : x0 &&& 31 = 14
  · exact p_op14 c14
  by_cases c15 : x0 &&& 31 = 15
  · exact p_op15 c15
  by_cases c16 : x0 &&& 31 = 16
  · exact p_op16 c16
  by_cases c17 : x0 &&& 31 = 17
  · exact p_op17 c17
  by_cases c18 : x0 &&& 31 = 18
  · exact p_op18 c18
  by_cases c19 : x0 &&& 31 = 19
  · exact p_op19 c19
  by_cases c20 : x0 &&& 31 = 20
  · exact p_op20 c20
  by_cases c21 : x0 &&& 31 = 21
  · exact p_op21 c21
  by_cases c22 : x0 &&& 31 = 22
  · exact p_op22 c22
  unfold p_G
  rw [lw_law_23, if_neg p_l0, if_neg (by decide), p_e0, Option.bind_some]
  rw [if_neg c0]
  rw [if_neg c1]
  rw [if_neg c2]
  rw [if_neg c3]
  rw [if_neg c4]
  rw [if_neg c5]
  rw [if_neg c6]
  rw [if_neg c7]
  rw [if_neg c8]
  rw [if_neg c9]
  rw [if_neg c10]
  rw [if_neg c11]
  rw [if_neg c12]
  rw [if_neg c13]
  rw [if_neg c14]
  rw [if_neg c15]
  rw [if_neg c16]
  rw [if_neg c17]
  rw [if_neg c18]
  rw [if_neg c19]
  rw [if_neg c20]
  rw [if_neg c21]
  rw [if_neg c22]
  rw [p_1320]
  exact ⟨_, rfl, p_len (by simp)⟩
end F
theorem gx_law : gx_Law 6 := gm_law fun xs hl => by
  match xs, hl with
  | [], _ => exact ⟨_, by rw [lw_law_23, if_pos (by exact (show ((0 : Nat).toInt32 - 6 : Int32) < 0 by decide))], p_len (by simp)⟩
  | [_], _ => exact ⟨_, by rw [lw_law_23, if_pos (by exact (show ((1 : Nat).toInt32 - 6 : Int32) < 0 by decide))], p_len (by simp)⟩
  | [_, _], _ => exact ⟨_, by rw [lw_law_23, if_pos (by exact (show ((2 : Nat).toInt32 - 6 : Int32) < 0 by decide))], p_len (by simp)⟩
  | [_, _, _], _ => exact ⟨_, by rw [lw_law_23, if_pos (by exact (show ((3 : Nat).toInt32 - 6 : Int32) < 0 by decide))], p_len (by simp)⟩
  | [_, _, _, _], _ => exact ⟨_, by rw [lw_law_23, if_pos (by exact (show ((4 : Nat).toInt32 - 6 : Int32) < 0 by decide))], p_len (by simp)⟩
  | [_, _, _, _, _], _ => exact ⟨_, by rw [lw_law_23, if_pos (by exact (show ((5 : Nat).toInt32 - 6 : Int32) < 0 by decide))], p_len (by simp)⟩
  | [x0, x1, x2, x3, x4, x5], _ => exact p_six
  | _ :: _ :: _ :: _ :: _ :: _ :: _ :: _, h => simp at h
theorem i_vc : Claimed_1_1 ∧ Claimed_1_2 := i_vc_open gx_law
