/-! the first object, and a read of no bytes -/
section F
variable {I : Nat → Nat → Int32} {J : Nat → Nat → Int64} {z : gx_H}
theorem c0_stamp {w : Int64} (h : I 1 1 = 0) : ∃ I' J', lw_stamp (some 0) w (some 211) (gm_mk I J z) = some (0, gm_mk I' J' z) ∧ (∀ a i, 188 ≤ a → I' a i = I a i) ∧ J' 211 0 = 0 := by
  obtain ⟨I1, J1, e1, f1⟩ := c0_begin (I := I) (J := J) (z := z) (s := 6) h
  unfold lw_stamp
  rw [go_0, Option.bind_some]
  unfold cG_stamp
  rw [go_0, Option.bind_some, e1, Option.bind_some]
  dsimp only
  rw [gr_0_0, Option.bind_some, gr_1_0, Option.bind_some, gT (by decide) (by decide), Option.bind_some, show (0 : Int32).toNatClampNeg = 0 from rfl, gqT_10 (by decide), Option.bind_some, Option.bind_some]
  dsimp only
  rw [gb_211 (by decide) (by decide), Option.bind_some]
  exact ⟨_, _, rfl, f1, by simp [gm_uj]⟩
def gb_T (n : Int32) : Int32 := if n < 0 then 1 else if 8 < n then 1 else 0
theorem c0_buffer {w : Int64} {n : Int32} (h : I 1 1 = 0) : ∃ I' J' z', lw_buffer (some 0) w n (some 211) (gm_mk I J z) = some (gb_T n, gm_mk I' J' z') ∧ (∀ a i, 188 ≤ a → I' a i = I a i) ∧ z'.length ≤ z.length + 1 ∧ (gb_T n = 0 → J' 211 0 = 0) := by
  unfold lw_buffer
  rw [go_0, Option.bind_some]
  unfold cG_buffer cG_buffer_10 gb_T
  by_cases c1 : n < 0
  · rw [if_pos c1, if_pos c1, gm_len, gm_thr, Option.bind_some]
    dsimp only
    rw [gm_exc, Option.bind_some]
    exact ⟨_, _, _, rfl, fun _ _ _ => rfl, by simp, fun q => absurd q (by decide)⟩
  · rw [if_neg c1, if_neg c1]
    by_cases c2 : 8 < n
    · rw [if_pos c2, if_pos c2, gm_len, gm_thr, Option.bind_some]
      dsimp only
      rw [gm_exc, Option.bind_some]
      exact ⟨_, _, _, rfl, fun _ _ _ => rfl, by simp, fun q => absurd q (by decide)⟩
    · obtain ⟨I1, J1, e1, f1⟩ := c0_begin (I := I) (J := J) (z := z) (s := 4) h
      rw [if_neg c2, if_neg c2, go_0, Option.bind_some, e1, Option.bind_some]
      dsimp only
      rw [gr_0_0, Option.bind_some, gr_1_0, Option.bind_some, gT (by decide) (by decide), Option.bind_some, show (0 : Int32).toNatClampNeg = 0 from rfl, go_T (by decide), Option.bind_some]
      unfold cT_holdBytes
      rw [gqT_10 (by decide), Option.bind_some, gpT_5 (by decide), Option.bind_some, Option.bind_some, Option.bind_some]
      dsimp only
      rw [gb_211 (by decide) (by decide), Option.bind_some]
      refine ⟨_, _, _, rfl, fun a i ha => ?_, by omega, fun _ => by simp [gm_uj]⟩
      have n2 : ¬ a = 3 := by omega
      rw [← f1 a i ha]; simp [gm_up, n2]
theorem m_ref0 : mM_refused (some 188) 0 0 (gm_mk I J z) = some (0, gm_mk (gm_up I 188 0 0) J z) := by rw [m_refused]; simp
theorem m_ref1 {b : Int32} : mM_refused (some 188) 1 b (gm_mk I J z) = some (1, gm_mk (gm_up I 188 0 1) J z) := by rw [m_refused]; simp
theorem m0_fresh {t : Int32} (h : I 188 1 = 0) : ∃ I' J', mM_fresh (some 188) t (gm_mk I J z) = some (0, gm_mk I' J' z) ∧ I' 188 0 = I 188 0 ∧ J' 211 0 = J 211 0 := by
  unfold mM_fresh mM_begin
  rw [gi_188_1, Option.bind_some, h, go_188, Option.bind_some, gr_188_2, Option.bind_some, gb_189 (by decide) (by decide), Option.bind_some, gr_188_3, Option.bind_some, gb_190 (by decide) (by decide), Option.bind_some, gr_188_4, Option.bind_some, gb_191 (by decide) (by decide), Option.bind_some, gr_188_5, Option.bind_some, gb_192 (by decide) (by decide), Option.bind_some, Option.bind_some, gi_188_1, Option.bind_some, gp_188_1, Option.bind_some, gi_188_1, Option.bind_some]
  refine ⟨_, _, congrArg some (Prod.ext ?_ rfl), ?_, ?_⟩
  · simp [gm_up, h]
  · simp [gm_up]
  · simp [gm_uj]
theorem m0_make {t : Int32} (h : I 188 1 = 0) : ∃ I' J', mM_make (some 188) t (gm_mk I J z) = some (0, gm_mk I' J' z) ∧ I' 188 0 = gk_T t ∧ J' 211 0 = J 211 0 := by
  have good : ∃ I' J', mM_make_15 (some 188) t (gm_mk I J z) = some (0, gm_mk I' J' z) ∧ I' 188 0 = 0 ∧ J' 211 0 = J 211 0 := by
    unfold mM_make_15 mM_make_20 mM_make_31
    rw [if_neg (by decide), gi_188_1, Option.bind_some, h, if_neg (by decide)]
    unfold mM_make_45
    rw [go_188, Option.bind_some, m_ref0, Option.bind_some]
    dsimp only
    rw [if_pos rfl, go_188, Option.bind_some]
    obtain ⟨I', J', e, f1, f2⟩ := m0_fresh (I := gm_up I 188 0 0) (J := J) (z := z) (t := t) (by simp [gm_up, h])
    rw [e, Option.bind_some]
    exact ⟨I', J', rfl, by rw [f1]; simp [gm_up], f2⟩
  have bad : ∃ I' J', mM_make_20 (some 188) t 0 (gm_mk I J z) = some (0, gm_mk I' J' z) ∧ I' 188 0 = 1 ∧ J' 211 0 = J 211 0 := by
    unfold mM_make_20 mM_make_31
    rw [if_pos rfl, gi_188_1, Option.bind_some, h, if_neg (by decide)]
    unfold mM_make_45
    rw [go_188, Option.bind_some, m_ref1, Option.bind_some]
    dsimp only
    rw [if_neg (by decide)]
    exact ⟨_, _, rfl, by simp [gm_up], rfl⟩
  unfold mM_make mM_make_9 gk_T
  by_cases c1 : t < 0
  · have c7 : ¬ t = 7 := fun q => by rw [q] at c1; exact absurd c1 (by decide)
    rw [if_pos c1, if_neg c7, if_pos c1]; exact bad
  · rw [if_neg c1, if_neg c1]
    by_cases c2 : 3 < t
    · rw [if_pos c2, if_pos c2]
      by_cases c7 : t = 7
      · rw [if_pos c7, if_pos c7]; exact good
      · rw [if_neg c7, if_neg c7]; exact bad
    · rw [if_neg c2, if_neg c2]; exact good
theorem m0_stamp {w : Int64} (h : I 188 1 = 0) : ∃ I' J', mM_stamp (some 188) w (gm_mk I J z) = some (0, gm_mk I' J' z) ∧ I' 188 0 = 0 ∧ J' 211 0 = J 211 0 := by
  unfold mM_stamp
  rw [gi_188_1, Option.bind_some, h, if_neg (by decide)]
  unfold mM_stamp_15
  rw [go_188, Option.bind_some, m_ref0, Option.bind_some]
  dsimp only
  rw [if_pos rfl, go_188, Option.bind_some]
  obtain ⟨I', J', e, f1, f2⟩ := m0_fresh (I := gm_up I 188 0 0) (J := J) (z := z) (t := 6) (by simp [gm_up, h])
  rw [e, Option.bind_some]
  dsimp only
  rw [gr_188_5, Option.bind_some, gb_192 (by decide) (by decide), Option.bind_some]
  exact ⟨_, _, rfl, by rw [f1]; simp [gm_up], by rw [← f2]; simp [gm_uj]⟩
theorem m_bufLoop {w : Int64} {n : Nat} (hn : n ≤ 8) : ∀ (m k f : Nat) (I : Nat → Nat → Int32), k + m = n → ∃ I', mM_buffer_56 (f + m + 1) (some 188) w (Int32.ofNat n) 0 (Int32.ofNat k) (gm_mk I J z) = some (0, gm_mk I' J z) ∧ ∀ i, I' 188 i = I 188 i := by
  intro m
  induction m with
  | zero =>
    intro k f I hk
    rw [mM_buffer_56, if_neg (fun q => by have := (n_lt (by omega) (by omega)).mp q; omega)]
    exact ⟨I, rfl, fun _ => rfl⟩
  | succ m ih =>
    intro k f I hk
    rw [show f + (m + 1) + 1 = (f + m + 1) + 1 by omega, mM_buffer_56, if_pos ((n_lt (by omega) (by omega)).mpr (by omega)), gr_188_9, Option.bind_some]
    generalize (Int64.toInt32 ((w >>> (Int32.toInt64 ((8 : Int32) * Int32.ofNat k) &&& 63)) &&& (255 : Int64))) = B
    rw [show ((8 : Int32) * 0) + Int32.ofNat k = Int32.ofNat k by rw [Int32.mul_zero, Int32.zero_add], gb_196 (n_nn (by omega)) (by rw [n_cl (by omega)]; omega), Option.bind_some, n_succ]
    obtain ⟨I', e, f1⟩ := ih (k + 1) f (gm_up I 196 (Int32.ofNat k).toNatClampNeg B) (by omega)
    exact ⟨I', e, fun i => by rw [f1 i]; simp [gm_up]⟩
theorem m0_buffer {w : Int64} {n : Int32} (h : I 188 1 = 0) : ∃ I' J', mM_buffer (some 188) w n (gm_mk I J z) = some (0, gm_mk I' J' z) ∧ I' 188 0 = gb_T n ∧ J' 211 0 = J 211 0 := by
  have bad : ∃ I' J', mM_buffer_11 (some 188) w n (some 188) (gm_mk I J z) = some (0, gm_mk I' J' z) ∧ I' 188 0 = 1 ∧ J' 211 0 = J 211 0 := by
    unfold mM_buffer_11 mM_buffer_16
    rw [gi_188_1, Option.bind_some, h, if_neg (by decide)]
    unfold mM_buffer_30
    rw [go_188, Option.bind_some, m_ref1, Option.bind_some]
    dsimp only
    rw [if_neg (by decide)]
    exact ⟨_, _, rfl, by simp [gm_up], rfl⟩
  unfold mM_buffer gb_T
  by_cases c1 : n < 0
  · rw [if_pos c1, if_pos c1]; exact bad
  · rw [if_neg c1, if_neg c1]
    by_cases c2 : 8 < n
    · rw [if_pos c2, if_pos c2]; exact bad
    · rw [if_neg c2, if_neg c2]
      unfold mM_buffer_16
      rw [gi_188_1, Option.bind_some, h, if_neg (by decide)]
      unfold mM_buffer_30
      rw [go_188, Option.bind_some, m_ref0, Option.bind_some]
      dsimp only
      rw [if_pos rfl, go_188, Option.bind_some]
      obtain ⟨I1, J1, e, f1, f2⟩ := m0_fresh (I := gm_up I 188 0 0) (J := J) (z := z) (t := 4) (by simp [gm_up, h])
      rw [e, Option.bind_some]
      dsimp only
      rw [gr_188_3, Option.bind_some, gb_190 (by decide) (by decide), Option.bind_some]
      have c3 : n < Int32.ofNat 9 := by
        have a2 : ¬ 8 < n.toInt := fun q => c2 (Int32.lt_iff_toInt_lt.mpr q)
        exact Int32.lt_iff_toInt_lt.mpr (show n.toInt < 9 by omega)
      obtain ⟨m, hm, rfl⟩ := n_of c1 c3 (by decide)
      obtain ⟨I', e2, g1⟩ := m_bufLoop (J := J1) (z := z) (w := w) (n := m) (by omega) m 0 (1999 - m) (gm_up I1 190 (0 : Int32).toNatClampNeg (Int32.ofNat m)) (by omega)
      rw [show 1999 - m + m + 1 = 2000 by omega] at e2
      exact ⟨I', J1, e2, by rw [g1 0]; simp [gm_up] at f1 ⊢; exact f1, f2⟩
/-! read -/
theorem c_nb (h : ¬ (I 187 1 = 0 ∧ I 187 0 < I 163 1)) : cR_nextByte (some 187) (some 163) (gm_mk I J z) = some (0, gm_mk (gm_up I 187 1 1) J z) := by
  unfold cR_nextByte
  rw [gi_187_1, Option.bind_some]
  by_cases c : I 187 1 = 0
  · rw [if_pos c, gi_187_0, Option.bind_some, gi_163_1, Option.bind_some, if_neg (fun q => h ⟨c, q⟩), gp_187_1]; rfl
  · rw [if_neg c, gp_187_1]; rfl
theorem c0_read (h1 : I 1 1 = 0) (h2 : I 163 1 = 0) (h3 : I 165 4 = 0) : ∃ I' z', lw_read (some 0) (some 211) (gm_mk I J z) = some (1, gm_mk I' J z') ∧ (∀ a i, 188 ≤ a → I' a i = I a i) ∧ z'.length ≤ z.length + 1 := by
  unfold lw_read
  rw [go_0, Option.bind_some]
  unfold cG_read
  rw [gr_0_4, Option.bind_some, gr_0_0, Option.bind_some, gr_0_1, Option.bind_some, gr_0_2, Option.bind_some, go_187, Option.bind_some]
  unfold cR_run
  rw [gi_1_1, Option.bind_some, gp_187_0, Option.bind_some, gp_187_1, Option.bind_some, go_187, Option.bind_some]
  unfold cR_makeHanded
  rw [gi_1_1, Option.bind_some, gp_187_4, Option.bind_some, gi_165_4, Option.bind_some, gp_187_5, Option.bind_some, cR_makeHanded_18, gi_187_5, Option.bind_some, if_neg (by simp [gm_up, h3]), gi_1_1, Option.bind_some, gp_187_6, Option.bind_some, Option.bind_some, go_187, Option.bind_some, c_nb (by simp [gm_up, h2]), Option.bind_some]
  dsimp only
  rw [if_neg (by decide), gp_187_1, Option.bind_some]
  unfold cR_run_37
  rw [go_187, Option.bind_some, cR_readValue, if_neg (by decide)]
  unfold cR_readValue_11
  rw [go_187, Option.bind_some]
  unfold cR_nextUpTo
  rw [go_187, Option.bind_some, c_nb (by simp [gm_up]), Option.bind_some]
  dsimp only
  rw [if_neg (by decide), Option.bind_some]
  dsimp only
  rw [gi_187_1, Option.bind_some, if_neg (by simp [gm_up]), Option.bind_some, gi_187_0, Option.bind_some, gi_163_1, Option.bind_some, if_pos (by simp [gm_up, h2])]
  unfold cR_run_60
  rw [gi_187_1, Option.bind_some, if_neg (by simp [gm_up]), gp_1_1, Option.bind_some]
  unfold cR_run_73
  rw [gi_187_1, Option.bind_some, if_neg (by simp [gm_up]), Option.bind_some]
  dsimp only
  rw [if_pos rfl, gm_len, gm_thr, Option.bind_some]
  dsimp only
  rw [gm_exc, Option.bind_some]
  refine ⟨_, _, rfl, fun a i ha => ?_, by simp⟩
  have n1 : ¬ a = 187 := by omega
  have n2 : ¬ a = 1 := by omega
  simp [gm_up, n1, n2]
theorem m0_read (h1 : I 188 1 = 0) (h2 : I 188 12 = 0) (h3 : I 188 15 = 0) : ∃ I', mM_read (some 188) (gm_mk I J z) = some (0, gm_mk I' J z) ∧ I' 188 0 = 1 := by
  unfold mM_read
  rw [go_188, Option.bind_some]
  unfold mM_takeAll
  rw [go_188, Option.bind_some]
  unfold mM_takeHolders
  rw [gi_188_1, Option.bind_some, gp_188_33, Option.bind_some, gi_188_1, Option.bind_some, gi_188_12, Option.bind_some, if_neg (by simp [gm_up, h1, h2])]
  unfold mM_takeHolders_28
  rw [if_neg (by decide), gp_188_31, Option.bind_some, mM_takeHolders_33, gi_188_12, Option.bind_some, if_neg (by simp [gm_up, h2]), Option.bind_some, gp_188_32, Option.bind_some, gp_188_29, Option.bind_some, gp_188_18, Option.bind_some, gi_188_31, Option.bind_some, if_neg (by simp [gm_up]), go_188, Option.bind_some]
  unfold mM_next
  rw [gi_188_31, Option.bind_some, if_neg (by simp [gm_up]), gi_188_32, Option.bind_some, gi_188_15, Option.bind_some, if_neg (by simp [gm_up, h3])]
  unfold mM_next_23 mM_next_24
  rw [if_neg (by decide), gp_188_31, Option.bind_some, gi_188_31, Option.bind_some, if_pos (by simp [gm_up])]
  unfold mM_next_47
  rw [gi_188_32, Option.bind_some, gp_188_32, Option.bind_some, Option.bind_some]
  dsimp only
  rw [if_neg (by decide)]
  unfold mM_takeAll_40 mM_takeAll_41
  rw [if_neg (by decide), gp_188_31, Option.bind_some, mM_takeAll_48, gi_188_31, Option.bind_some, if_pos (by simp [gm_up])]
  unfold mM_takeAll_145
  rw [gi_188_31, Option.bind_some, if_pos (by simp [gm_up]), gp_188_31, Option.bind_some, Option.bind_some, gi_188_31, Option.bind_some, if_pos (by simp [gm_up])]
  unfold mM_read_17
  rw [gp_188_0, Option.bind_some, gi_188_0, Option.bind_some, if_pos (by simp [gm_up])]
  exact ⟨_, rfl, by simp [gm_up]⟩
end F
