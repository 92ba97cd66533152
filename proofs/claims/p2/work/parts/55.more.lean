/-! stamp, buffer, pass, detach, feed -/
theorem gup_self {α : Type} {f : Nat → α} {k : Nat} : gup f k (f k) = f := by
  funext j; unfold gup; split
  · rename_i h; rw [h]
  · rfl
theorem gup_same {α : Type} {f : Nat → α} {k : Nat} {v : α} (h : f k = v) : gup f k v = f := by rw [← h, gup_self]
section H
variable {u : gU} {x : gX} {o : Nat → Int64} {z : gx_H}
theorem t_stamp {w : Int64} (h : gTT u x) : gAns u x o z (lw_stamp (some 0) w (some 211)) (mM_stamp (some 188) w) := by
  obtain ⟨n, m, p, q, T⟩ := h
  by_cases hn : n < 32
  · have O : gO (n + 1) 6 0 (((gq_new (u.1 n) 6).1, (gq_new (u.1 n) 6).2.1, (gq_new (u.1 n) 6).2.2.1, (gq_new (u.1 n) 6).2.2.2.1, (gq_new (u.1 n) 6).2.2.2.2.1, gup (gq_new (u.1 n) 6).2.2.2.2.2 10 w) : gQ) (((gp_new (x.1 n) 6).1, (gp_new (x.1 n) 6).2.1, (gp_new (x.1 n) 6).2.2.1, (gp_new (x.1 n) 6).2.2.2.1, (gp_new (x.1 n) 6).2.2.2.2.1, (gp_new (x.1 n) 6).2.2.2.2.2.1, (gp_new (x.1 n) 6).2.2.2.2.2.2.1, w) : gP) := ⟨(gO_new (n := n + 1) (s := 6) (q := u.1 n) (p := x.1 n) (by omega) (by omega)).s8, (gO_new (n := n + 1) (s := 6) (q := u.1 n) (p := x.1 n) (by omega) (by omega)).es, (gO_new (n := n + 1) (s := 6) (q := u.1 n) (p := x.1 n) (by omega) (by omega)).et, (gO_new (n := n + 1) (s := 6) (q := u.1 n) (p := x.1 n) (by omega) (by omega)).ec, (gO_new (n := n + 1) (s := 6) (q := u.1 n) (p := x.1 n) (by omega) (by omega)).c8, (gO_new (n := n + 1) (s := 6) (q := u.1 n) (p := x.1 n) (by omega) (by omega)).ed, (gO_new (n := n + 1) (s := 6) (q := u.1 n) (p := x.1 n) (by omega) (by omega)).d4, (gO_new (n := n + 1) (s := 6) (q := u.1 n) (p := x.1 n) (by omega) (by omega)).ep, (gO_new (n := n + 1) (s := 6) (q := u.1 n) (p := x.1 n) (by omega) (by omega)).e0, (gO_new (n := n + 1) (s := 6) (q := u.1 n) (p := x.1 n) (by omega) (by omega)).kE, (gO_new (n := n + 1) (s := 6) (q := u.1 n) (p := x.1 n) (by omega) (by omega)).kK, (gO_new (n := n + 1) (s := 6) (q := u.1 n) (p := x.1 n) (by omega) (by omega)).k4, (gO_new (n := n + 1) (s := 6) (q := u.1 n) (p := x.1 n) (by omega) (by omega)).vs, (gO_new (n := n + 1) (s := 6) (q := u.1 n) (p := x.1 n) (by omega) (by omega)).vv, (gO_new (n := n + 1) (s := 6) (q := u.1 n) (p := x.1 n) (by omega) (by omega)).kv, (gO_new (n := n + 1) (s := 6) (q := u.1 n) (p := x.1 n) (by omega) (by omega)).so, fun h => by omega, (gO_new (n := n + 1) (s := 6) (q := u.1 n) (p := x.1 n) (by omega) (by omega)).vw, fun _ => rfl⟩
    refine ⟨0, _, gup o 0 (Int32.toInt64 (Int32.ofNat n)), z, Int32.ofNat n, _, ?_, ?_, ?_, ?_, ⟨n + 1, m, p, q, gT_new T hn ⟨6, 0, O⟩⟩, by omega⟩
    · simp only [lw_stamp, ho_0, Option.bind_some, cG_stamp, k_bor T.un hn, hr_0_0, hr_1_0, hT hn, hqT_10 hn, gup_eq, gup_gup, hb0]
    · simp only [mM_stamp, mM_stamp_15, hi_188_1, Option.bind_some, T.xn, if_neg (n_32 hn), ho_188, r_ref]
      simp only [true_and, and_self, if_true, r_fresh (x := ((x.1, gup x.2.1 0 0, x.2.2.1, x.2.2.2.1, x.2.2.2.2.1, x.2.2.2.2.2.1, x.2.2.2.2.2.2.1, x.2.2.2.2.2.2.2.1, x.2.2.2.2.2.2.2.2.1, x.2.2.2.2.2.2.2.2.2.1, x.2.2.2.2.2.2.2.2.2.2.1, x.2.2.2.2.2.2.2.2.2.2.2.1, x.2.2.2.2.2.2.2.2.2.2.2.2.1, x.2.2.2.2.2.2.2.2.2.2.2.2.2.1, x.2.2.2.2.2.2.2.2.2.2.2.2.2.2.1, x.2.2.2.2.2.2.2.2.2.2.2.2.2.2.2) : gX)) (n := n) T.xn hn, Option.bind_some, hr_188_5, hb_192 hn, gup_eq, gup_gup]
    · rfl
    · intro _; rfl
  · obtain rfl : n = 32 := by have := T.hn; omega
    refine ⟨1, u, o, z ++ [(9, [])], 0, ((x.1, gup x.2.1 0 1, x.2.2.1, x.2.2.2.1, x.2.2.2.2.1, x.2.2.2.2.2.1, x.2.2.2.2.2.2.1, x.2.2.2.2.2.2.2.1, x.2.2.2.2.2.2.2.2.1, x.2.2.2.2.2.2.2.2.2.1, x.2.2.2.2.2.2.2.2.2.2.1, x.2.2.2.2.2.2.2.2.2.2.2.1, x.2.2.2.2.2.2.2.2.2.2.2.2.1, x.2.2.2.2.2.2.2.2.2.2.2.2.2.1, x.2.2.2.2.2.2.2.2.2.2.2.2.2.2.1, x.2.2.2.2.2.2.2.2.2.2.2.2.2.2.2) : gX), ?_, ?_, rfl, fun q => absurd q (by decide), gTT_0 ⟨_, m, p, q, T⟩, by simp⟩
    · simp only [lw_stamp, ho_0, Option.bind_some, cG_stamp, k_borF T.un, hexc] <;> rfl
    · simp only [mM_stamp, mM_stamp_15, hi_188_1, Option.bind_some, T.xn, show Int32.ofNat 32 = 32 from rfl, if_true, ho_188, r_ref] <;> rfl
theorem r_bufLoop {w : Int64} {c k : Nat} (hc : c ≤ 8) (hk : k < 32) : ∀ (m i f : Nat) (x : gX), i + m = c → ∃ b, mM_buffer_56 (f + m + 1) (some 188) w (Int32.ofNat c) (Int32.ofNat k) (Int32.ofNat i) (gH u x o z) = some (Int32.ofNat k, gH u ((gup x.1 k (((x.1 k).1, (x.1 k).2.1, (x.1 k).2.2.1, b, (x.1 k).2.2.2.2.1, (x.1 k).2.2.2.2.2.1, (x.1 k).2.2.2.2.2.2.1, (x.1 k).2.2.2.2.2.2.2) : gP), x.2.1, x.2.2.1, x.2.2.2.1, x.2.2.2.2.1, x.2.2.2.2.2.1, x.2.2.2.2.2.2.1, x.2.2.2.2.2.2.2.1, x.2.2.2.2.2.2.2.2.1, x.2.2.2.2.2.2.2.2.2.1, x.2.2.2.2.2.2.2.2.2.2.1, x.2.2.2.2.2.2.2.2.2.2.2.1, x.2.2.2.2.2.2.2.2.2.2.2.2.1, x.2.2.2.2.2.2.2.2.2.2.2.2.2.1, x.2.2.2.2.2.2.2.2.2.2.2.2.2.2.1, x.2.2.2.2.2.2.2.2.2.2.2.2.2.2.2) : gX) o z) ∧ ∀ j, b j = if i ≤ j ∧ j < c then gt_w w j else (x.1 k).2.2.2.1 j := by
  intro m
  induction m with
  | zero =>
    intro i f x h
    refine ⟨(x.1 k).2.2.2.1, ?_, fun j => by rw [if_neg (by omega)]⟩
    rw [mM_buffer_56, if_neg (n_nltl (by omega) (by omega) (by omega)), show ((((x.1 k).1, (x.1 k).2.1, (x.1 k).2.2.1, (x.1 k).2.2.2.1, (x.1 k).2.2.2.2.1, (x.1 k).2.2.2.2.2.1, (x.1 k).2.2.2.2.2.2.1, (x.1 k).2.2.2.2.2.2.2) : gP) : gP) = x.1 k from rfl, gup_self]
  | succ m ih =>
    intro i f x h
    obtain ⟨b, h1, h2⟩ := ih (i + 1) f ((gup x.1 k (((x.1 k).1, (x.1 k).2.1, (x.1 k).2.2.1, gup (x.1 k).2.2.2.1 i (gt_w w i), (x.1 k).2.2.2.2.1, (x.1 k).2.2.2.2.2.1, (x.1 k).2.2.2.2.2.2.1, (x.1 k).2.2.2.2.2.2.2) : gP), x.2.1, x.2.2.1, x.2.2.2.1, x.2.2.2.2.1, x.2.2.2.2.2.1, x.2.2.2.2.2.2.1, x.2.2.2.2.2.2.2.1, x.2.2.2.2.2.2.2.2.1, x.2.2.2.2.2.2.2.2.2.1, x.2.2.2.2.2.2.2.2.2.2.1, x.2.2.2.2.2.2.2.2.2.2.2.1, x.2.2.2.2.2.2.2.2.2.2.2.2.1, x.2.2.2.2.2.2.2.2.2.2.2.2.2.1, x.2.2.2.2.2.2.2.2.2.2.2.2.2.2.1, x.2.2.2.2.2.2.2.2.2.2.2.2.2.2.2) : gX) (by omega)
    refine ⟨b, ?_, fun j => ?_⟩
    · rw [show f + (m + 1) + 1 = (f + m + 1) + 1 by omega, mM_buffer_56, if_pos (n_ltl (by omega) (by omega) (by omega)), hr_188_9, Option.bind_some, n_8, hb_196 hk (by omega), Option.bind_some, gt_r (by omega), n_succ, h1]
      simp only [gup_eq, gup_gup]
    · rw [h2 j]
      simp only [gup_eq]
      by_cases c1 : j = i
      · subst c1; rw [if_neg (by omega), if_pos (by omega), gup_eq]
      · rw [gup_ne c1]
        by_cases c2 : i + 1 ≤ j ∧ j < c
        · rw [if_pos c2, if_pos (by omega)]
        · rw [if_neg c2, if_neg (by omega)]
theorem t_buffer {w : Int64} {v : Int32} (h : gTT u x) : gAns u x o z (lw_buffer (some 0) w v (some 211)) (mM_buffer (some 188) w v) := by
  obtain ⟨n, m, p, q, T⟩ := h
  by_cases g : ¬ v < 0 ∧ ¬ 8 < v
  · obtain ⟨g1, g2⟩ := g
    by_cases hn : n < 32
    · obtain ⟨c, hc, rfl⟩ := n_le (m := 8) g1 g2 (by omega)
      obtain ⟨b, hb1, hb2⟩ := r_bufLoop (u := ((gup u.1 n (((gq_new (u.1 n) 4).1, (gq_new (u.1 n) 4).2.1, (gq_new (u.1 n) 4).2.2.1, (gq_new (u.1 n) 4).2.2.2.1, gup (gq_new (u.1 n) 4).2.2.2.2.1 5 (Int32.ofNat c), gup (gq_new (u.1 n) 4).2.2.2.2.2 10 w) : gQ), u.2.1, gup u.2.2.1 1 (Int32.ofNat (n + 1)), u.2.2.2.1, u.2.2.2.2.1, u.2.2.2.2.2.1, u.2.2.2.2.2.2.1, u.2.2.2.2.2.2.2.1, u.2.2.2.2.2.2.2.2.1, u.2.2.2.2.2.2.2.2.2.1, u.2.2.2.2.2.2.2.2.2.2.1, u.2.2.2.2.2.2.2.2.2.2.2.1, u.2.2.2.2.2.2.2.2.2.2.2.2.1, u.2.2.2.2.2.2.2.2.2.2.2.2.2.1, u.2.2.2.2.2.2.2.2.2.2.2.2.2.2) : gU)) (o := gup o 0 (Int32.toInt64 (Int32.ofNat n))) (z := z) (w := w) hc hn c 0 (1000000000000000 - c - 1) ((gup x.1 n (((gp_new (x.1 n) 4).1, (gp_new (x.1 n) 4).2.1, (gp_new (x.1 n) 4).2.2.1, (gp_new (x.1 n) 4).2.2.2.1, (gp_new (x.1 n) 4).2.2.2.2.1, Int32.ofNat c, (gp_new (x.1 n) 4).2.2.2.2.2.2.1, (gp_new (x.1 n) 4).2.2.2.2.2.2.2) : gP), gup (gup x.2.1 0 0) 1 (Int32.ofNat (n + 1)), x.2.2.1, x.2.2.2.1, x.2.2.2.2.1, x.2.2.2.2.2.1, x.2.2.2.2.2.2.1, x.2.2.2.2.2.2.2.1, x.2.2.2.2.2.2.2.2.1, x.2.2.2.2.2.2.2.2.2.1, x.2.2.2.2.2.2.2.2.2.2.1, x.2.2.2.2.2.2.2.2.2.2.2.1, x.2.2.2.2.2.2.2.2.2.2.2.2.1, x.2.2.2.2.2.2.2.2.2.2.2.2.2.1, x.2.2.2.2.2.2.2.2.2.2.2.2.2.2.1, x.2.2.2.2.2.2.2.2.2.2.2.2.2.2.2) : gX) (by omega)
      rw [show 1000000000000000 - c - 1 + c + 1 = 1000000000000000 by omega] at hb1
      simp only [gup_eq, gup_gup] at hb1 hb2
      have O : gO (n + 1) 4 c (((gq_new (u.1 n) 4).1, (gq_new (u.1 n) 4).2.1, (gq_new (u.1 n) 4).2.2.1, (gq_new (u.1 n) 4).2.2.2.1, gup (gq_new (u.1 n) 4).2.2.2.2.1 5 (Int32.ofNat c), gup (gq_new (u.1 n) 4).2.2.2.2.2 10 w) : gQ) (((gp_new (x.1 n) 4).1, (gp_new (x.1 n) 4).2.1, (gp_new (x.1 n) 4).2.2.1, b, (gp_new (x.1 n) 4).2.2.2.2.1, Int32.ofNat c, (gp_new (x.1 n) 4).2.2.2.2.2.2.1, (gp_new (x.1 n) 4).2.2.2.2.2.2.2) : gP) :=
        ⟨by omega, rfl, rfl, rfl, hc, rfl, Or.inl rfl, fun _ => rfl, fun h => absurd rfl h, fun a => by omega, fun a => by omega, fun a => by omega, fun a => by omega, fun a => by omega, fun a => by omega, fun a => by omega, fun _ i hi => (hb2 i).trans (if_pos (by omega)), fun a => by omega, fun a => by omega⟩
      refine ⟨0, _, gup o 0 (Int32.toInt64 (Int32.ofNat n)), z, Int32.ofNat n, _, ?_, ?_, ?_, ?_, ⟨n + 1, m, p, q, gT_new T hn ⟨4, c, O⟩⟩, by omega⟩
      · simp only [lw_buffer, ho_0, Option.bind_some, cG_buffer, if_neg g1, if_neg g2, k_bor T.un hn, hr_0_0, hr_1_0, hT hn, ho_T hn, cT_holdBytes, hqT_10 hn, hpT_5 hn, gup_eq, gup_gup, hb0]
      · simp only [mM_buffer, mM_buffer_16, mM_buffer_30, if_neg g1, if_neg g2, hi_188_1, Option.bind_some, T.xn, if_neg (n_32 hn), ho_188, r_ref]
        simp only [true_and, and_self, if_true, r_fresh (x := ((x.1, gup x.2.1 0 0, x.2.2.1, x.2.2.2.1, x.2.2.2.2.1, x.2.2.2.2.2.1, x.2.2.2.2.2.2.1, x.2.2.2.2.2.2.2.1, x.2.2.2.2.2.2.2.2.1, x.2.2.2.2.2.2.2.2.2.1, x.2.2.2.2.2.2.2.2.2.2.1, x.2.2.2.2.2.2.2.2.2.2.2.1, x.2.2.2.2.2.2.2.2.2.2.2.2.1, x.2.2.2.2.2.2.2.2.2.2.2.2.2.1, x.2.2.2.2.2.2.2.2.2.2.2.2.2.2.1, x.2.2.2.2.2.2.2.2.2.2.2.2.2.2.2) : gX)) (n := n) T.xn hn, Option.bind_some, hr_188_3, hb_190 hn, gup_eq, gup_gup]
        exact hb1
      · rfl
      · intro _; rfl
    · obtain rfl : n = 32 := by have := T.hn; omega
      refine ⟨2, u, o, z ++ [(9, [])], 0, ((x.1, gup x.2.1 0 2, x.2.2.1, x.2.2.2.1, x.2.2.2.2.1, x.2.2.2.2.2.1, x.2.2.2.2.2.2.1, x.2.2.2.2.2.2.2.1, x.2.2.2.2.2.2.2.2.1, x.2.2.2.2.2.2.2.2.2.1, x.2.2.2.2.2.2.2.2.2.2.1, x.2.2.2.2.2.2.2.2.2.2.2.1, x.2.2.2.2.2.2.2.2.2.2.2.2.1, x.2.2.2.2.2.2.2.2.2.2.2.2.2.1, x.2.2.2.2.2.2.2.2.2.2.2.2.2.2.1, x.2.2.2.2.2.2.2.2.2.2.2.2.2.2.2) : gX), ?_, ?_, rfl, fun q => absurd q (by decide), gTT_0 ⟨_, m, p, q, T⟩, by simp⟩
      · simp only [lw_buffer, ho_0, Option.bind_some, cG_buffer, if_neg g1, if_neg g2, k_borF T.un, hexc] <;> rfl
      · simp only [mM_buffer, mM_buffer_16, mM_buffer_30, if_neg g1, if_neg g2, hi_188_1, Option.bind_some, T.xn, show Int32.ofNat 32 = 32 from rfl, if_true, ho_188, r_ref] <;> rfl
  · have e1 : ∀ h : gx_H, cG_buffer (some 0) w v h = some (.threw h.length, h ++ [(8, [])]) := by
      intro h
      unfold cG_buffer
      by_cases g1 : v < 0
      · rw [if_pos g1]; rfl
      · rw [if_neg g1, if_pos (Decidable.byContradiction fun g2 => g ⟨g1, g2⟩)]; rfl
    have e2 : ∀ h : gx_H, mM_buffer (some 188) w v h = mM_buffer_16 (some 188) w v (some 188) 1 h := by
      intro h
      unfold mM_buffer
      by_cases g1 : v < 0
      · rw [if_pos g1]; rfl
      · rw [if_neg g1, if_pos (Decidable.byContradiction fun g2 => g ⟨g1, g2⟩)]; rfl
    refine ⟨1, u, o, z ++ [(8, [])], 0, ((x.1, gup x.2.1 0 1, x.2.2.1, x.2.2.2.1, x.2.2.2.2.1, x.2.2.2.2.2.1, x.2.2.2.2.2.2.1, x.2.2.2.2.2.2.2.1, x.2.2.2.2.2.2.2.2.1, x.2.2.2.2.2.2.2.2.2.1, x.2.2.2.2.2.2.2.2.2.2.1, x.2.2.2.2.2.2.2.2.2.2.2.1, x.2.2.2.2.2.2.2.2.2.2.2.2.1, x.2.2.2.2.2.2.2.2.2.2.2.2.2.1, x.2.2.2.2.2.2.2.2.2.2.2.2.2.2.1, x.2.2.2.2.2.2.2.2.2.2.2.2.2.2.2) : gX), ?_, ?_, rfl, fun q => absurd q (by decide), gTT_0 ⟨n, m, p, q, T⟩, by simp⟩
    · simp only [lw_buffer, ho_0, Option.bind_some, e1, hl, hthr, hexc] <;> rfl
    · simp only [e2, mM_buffer_16, hi_188_1, Option.bind_some, T.xn]
      by_cases c : Int32.ofNat n = 32
      · simp only [if_pos c, mM_buffer_30, ho_188, Option.bind_some, r_ref] <;> rfl
      · simp only [if_neg c, mM_buffer_30, ho_188, Option.bind_some, r_ref] <;> rfl
theorem t_pass {v : Int32} (h : gTT u x) : gAns u x o z (lw_pass (some 0) v (some 211)) (mM_pass (some 188) v) := by
  obtain ⟨n, m, p, q, T⟩ := h
  have hn := T.hn
  have hp := T.hp
  rcases g_ob v n (by omega) with c | ⟨k, hk, rfl⟩
  · refine ⟨1, u, o, z ++ [(8, [])], 0, ((x.1, gup x.2.1 0 1, x.2.2.1, x.2.2.2.1, x.2.2.2.2.1, x.2.2.2.2.2.1, x.2.2.2.2.2.2.1, x.2.2.2.2.2.2.2.1, x.2.2.2.2.2.2.2.2.1, x.2.2.2.2.2.2.2.2.2.1, x.2.2.2.2.2.2.2.2.2.2.1, x.2.2.2.2.2.2.2.2.2.2.2.1, x.2.2.2.2.2.2.2.2.2.2.2.2.1, x.2.2.2.2.2.2.2.2.2.2.2.2.2.1, x.2.2.2.2.2.2.2.2.2.2.2.2.2.2.1, x.2.2.2.2.2.2.2.2.2.2.2.2.2.2.2) : gX), ?_, ?_, rfl, fun q => absurd q (by decide), gTT_0 ⟨n, m, p, q, T⟩, by simp⟩
    · simp only [lw_pass, ho_0, Option.bind_some, cG_pass, hr_0_0, ho_1, k_tout T.un c, if_true, hl, hthr, hexc] <;> rfl
    · simp only [mM_pass, ho_188, Option.bind_some, r_oout T.xn c, if_true, mM_pass_14, hi_188_10]
      by_cases c : x.2.1 10 = 4
      · simp only [if_pos c, mM_pass_27, ho_188, Option.bind_some, r_ref] <;> rfl
      · simp only [if_neg c, mM_pass_27, ho_188, Option.bind_some, r_ref] <;> rfl
  · by_cases hp4 : p < 4
    · have e1 : Int32.ofNat p < 4 := n_ltl (m := 4) (by omega) (by omega) hp4
      have e2 : ¬ Int32.ofNat p = 4 := fun q => by have := (n_eq (m := 4) (by omega) (by omega)).mp q; omega
      have x1 : gup x.2.1 0 0 10 = Int32.ofNat p := T.xp
      refine ⟨0, ((u.1, u.2.1, u.2.2.1, u.2.2.2.1, u.2.2.2.2.1, gup u.2.2.2.2.2.1 1 (Int32.ofNat (p + 1)), gup u.2.2.2.2.2.2.1 p (Int32.ofNat k), u.2.2.2.2.2.2.2.1, u.2.2.2.2.2.2.2.2.1, u.2.2.2.2.2.2.2.2.2.1, u.2.2.2.2.2.2.2.2.2.2.1, u.2.2.2.2.2.2.2.2.2.2.2.1, u.2.2.2.2.2.2.2.2.2.2.2.2.1, u.2.2.2.2.2.2.2.2.2.2.2.2.2.1, u.2.2.2.2.2.2.2.2.2.2.2.2.2.2) : gU), gup o 0 (Int32.toInt64 (Int32.ofNat (p + 1))), z, Int32.ofNat (p + 1), ((x.1, gup (gup x.2.1 0 0) 10 (Int32.ofNat (p + 1)), gup x.2.2.1 p (Int32.ofNat k), x.2.2.2.1, x.2.2.2.2.1, x.2.2.2.2.2.1, x.2.2.2.2.2.2.1, x.2.2.2.2.2.2.2.1, x.2.2.2.2.2.2.2.2.1, x.2.2.2.2.2.2.2.2.2.1, x.2.2.2.2.2.2.2.2.2.2.1, x.2.2.2.2.2.2.2.2.2.2.2.1, x.2.2.2.2.2.2.2.2.2.2.2.2.1, x.2.2.2.2.2.2.2.2.2.2.2.2.2.1, x.2.2.2.2.2.2.2.2.2.2.2.2.2.2.1, x.2.2.2.2.2.2.2.2.2.2.2.2.2.2.2) : gX), ?_, ?_, rfl, fun _ => rfl, ⟨n, m, p + 1, q, ?_⟩, by omega⟩
      · simp only [lw_pass, ho_0, Option.bind_some, cG_pass, hr_0_0, ho_1, k_tin T.un hn hk, reduceCtorEq, if_false, hr_0_2, ho_165, cH_appendPassed, hi_165_1, T.up, if_pos e1, hr_165_0, hb_166 hp4, n_succ, hp_165_1, gup_eq, hb0] <;> rfl
      · simp only [mM_pass, ho_188, Option.bind_some, r_oin T.xn hn hk, mM_pass_14, hi_188_10, T.xp, if_neg e2, mM_pass_27, r_ref]
        simp only [true_and, and_self, if_true, Option.bind_some, hr_188_11, hi_188_10, x1, hb_197 hp4, n_succ, hp_188_10, gup_eq] <;> rfl
      · refine ⟨T.hn, T.un, T.xn, T.ob, T.hm, T.um, T.xm, T.bs, T.b8, by omega, rfl, rfl, ?_, ?_, T.hq, T.uq, T.xq, T.ho, T.fo⟩
        · intro i hi
          show gup x.2.2.1 p _ i = gup u.2.2.2.2.2.2.1 p _ i
          by_cases c : i = p
          · subst c; rw [gup_eq, gup_eq]
          · rw [gup_ne c, gup_ne c, T.pa i (by omega)]
        · intro i hi
          show ∃ k, k < n ∧ gup u.2.2.2.2.2.2.1 p _ i = _
          by_cases c : i = p
          · subst c; rw [gup_eq]; exact ⟨k, hk, rfl⟩
          · rw [gup_ne c]; exact T.pb i (by omega)
    · obtain rfl : p = 4 := by omega
      have e3 : ¬ Int32.ofNat 4 < 4 := by decide
      refine ⟨2, u, o, z ++ [(9, [])], 0, ((x.1, gup x.2.1 0 2, x.2.2.1, x.2.2.2.1, x.2.2.2.2.1, x.2.2.2.2.2.1, x.2.2.2.2.2.2.1, x.2.2.2.2.2.2.2.1, x.2.2.2.2.2.2.2.2.1, x.2.2.2.2.2.2.2.2.2.1, x.2.2.2.2.2.2.2.2.2.2.1, x.2.2.2.2.2.2.2.2.2.2.2.1, x.2.2.2.2.2.2.2.2.2.2.2.2.1, x.2.2.2.2.2.2.2.2.2.2.2.2.2.1, x.2.2.2.2.2.2.2.2.2.2.2.2.2.2.1, x.2.2.2.2.2.2.2.2.2.2.2.2.2.2.2) : gX), ?_, ?_, rfl, fun q => absurd q (by decide), gTT_0 ⟨n, m, 4, q, T⟩, by simp⟩
      · simp only [lw_pass, ho_0, Option.bind_some, cG_pass, hr_0_0, ho_1, k_tin T.un hn hk, reduceCtorEq, if_false, hr_0_2, ho_165, cH_appendPassed, hi_165_1, T.up, if_neg e3, if_true, hl, hthr, hexc] <;> rfl
      · simp only [mM_pass, ho_188, Option.bind_some, r_oin T.xn hn hk, mM_pass_14, hi_188_10, T.xp, show Int32.ofNat 4 = 4 from rfl, if_true, mM_pass_27, r_ref] <;> rfl
/-- a buffer that is detached -/
def gq_det (q : gQ) : gQ := ((q.1, q.2.1, q.2.2.1, q.2.2.2.1, gup q.2.2.2.2.1 6 1, q.2.2.2.2.2) : gQ)
def gp_det (p : gP) : gP := ((p.1, p.2.1, p.2.2.1, p.2.2.2.1, p.2.2.2.2.1, 0, 1, p.2.2.2.2.2.2.2) : gP)
theorem gO_det {n c : Nat} {q : gQ} {p : gP} (O : gO n 4 c q p) : gO n 4 c (gq_det q) (gp_det p) :=
  ⟨O.s8, O.es, O.et, O.ec, O.c8, rfl, Or.inr ⟨rfl, rfl⟩, fun h => absurd h (by show ¬ (1 : Int32) = 0; decide), fun _ => rfl, O.kE, O.kK, O.k4, O.vs, O.vv, O.kv, O.so, O.bb, fun a => by omega, O.sT⟩
theorem gT_ob {n m p q k : Nat} {q' : gQ} {p' : gP} (T : gTi n m p q u x) (h : ∃ s c, gO n s c q' p') : gTi n m p q ((gup u.1 k q', u.2.1, u.2.2.1, u.2.2.2.1, u.2.2.2.2.1, u.2.2.2.2.2.1, u.2.2.2.2.2.2.1, u.2.2.2.2.2.2.2.1, u.2.2.2.2.2.2.2.2.1, u.2.2.2.2.2.2.2.2.2.1, u.2.2.2.2.2.2.2.2.2.2.1, u.2.2.2.2.2.2.2.2.2.2.2.1, u.2.2.2.2.2.2.2.2.2.2.2.2.1, u.2.2.2.2.2.2.2.2.2.2.2.2.2.1, u.2.2.2.2.2.2.2.2.2.2.2.2.2.2) : gU) ((gup x.1 k p', x.2.1, x.2.2.1, x.2.2.2.1, x.2.2.2.2.1, x.2.2.2.2.2.1, x.2.2.2.2.2.2.1, x.2.2.2.2.2.2.2.1, x.2.2.2.2.2.2.2.2.1, x.2.2.2.2.2.2.2.2.2.1, x.2.2.2.2.2.2.2.2.2.2.1, x.2.2.2.2.2.2.2.2.2.2.2.1, x.2.2.2.2.2.2.2.2.2.2.2.2.1, x.2.2.2.2.2.2.2.2.2.2.2.2.2.1, x.2.2.2.2.2.2.2.2.2.2.2.2.2.2.1, x.2.2.2.2.2.2.2.2.2.2.2.2.2.2.2) : gX) :=
  ⟨T.hn, T.un, T.xn, gob_up T.ob h, T.hm, T.um, T.xm, T.bs, T.b8, T.hp, T.up, T.xp, T.pa, T.pb, T.hq, T.uq, T.xq, T.ho, T.fo⟩
theorem k_free {n k s c : Nat} (hu : u.2.2.1 1 = Int32.ofNat n) (hn : n ≤ 32) (hk : k < n) (O : gO n s c (u.1 k) (x.1 k)) : cS_isFreeBuffer (some 1) (Int32.ofNat k) (gH u x o z) = some (if s = 4 ∧ (u.1 k).2.2.2.2.1 6 = 0 then 1 else 0) := by
  have hk2 : k < 32 := by omega
  obtain ⟨_, _, _, _, _, _, _, e4, _⟩ := n_s6 s O.s8
  unfold cS_isFreeBuffer
  simp only [ho_1, Option.bind_some, k_tin hu hn hk, hiT_4 hk2, hiT_6 hk2, O.es, e4]
  by_cases c1 : s = 4 <;> by_cases c2 : (u.1 k).2.2.2.2.1 6 = 0 <;> simp [c1, c2]
theorem k_free0 {n : Nat} {v : Int32} (hu : u.2.2.1 1 = Int32.ofNat n) (h : v < 0 ∨ ¬ v < Int32.ofNat n) : cS_isFreeBuffer (some 1) v (gH u x o z) = some 0 := by
  unfold cS_isFreeBuffer
  simp only [ho_1, Option.bind_some, k_tout hu h, if_true]
/-- detaching, on both sides: the number may be none -/
theorem k_det {n m p q : Nat} {v : Int32} (T : gTi n m p q u x) : ∃ r u' R', cS_detachBuffer (some 1) v (gH u x o z) = some (r, gH u' x o z) ∧ (r = 0 ∨ r = 1) ∧ gTi n m p q u' ((R', x.2.1, x.2.2.1, x.2.2.2.1, x.2.2.2.2.1, x.2.2.2.2.2.1, x.2.2.2.2.2.2.1, x.2.2.2.2.2.2.2.1, x.2.2.2.2.2.2.2.2.1, x.2.2.2.2.2.2.2.2.2.1, x.2.2.2.2.2.2.2.2.2.2.1, x.2.2.2.2.2.2.2.2.2.2.2.1, x.2.2.2.2.2.2.2.2.2.2.2.2.1, x.2.2.2.2.2.2.2.2.2.2.2.2.2.1, x.2.2.2.2.2.2.2.2.2.2.2.2.2.2.1, x.2.2.2.2.2.2.2.2.2.2.2.2.2.2.2) : gX) ∧ ((r = 0 ∧ u' = u ∧ R' = x.1 ∧ ∀ y : gX, y.1 = x.1 → y.2.1 1 = x.2.1 1 → ∀ u o z, ∃ t, mM_is (some 188) v 4 (gH u y o z) = some t ∧ (t = 0 ∨ (t = 1 ∧ ∃ k, k < n ∧ v = Int32.ofNat k ∧ (y.1 k).2.2.2.2.2.2.1 = 1))) ∨ (r = 1 ∧ ∃ k, k < n ∧ v = Int32.ofNat k ∧ (x.1 k).2.2.2.2.1 = 4 ∧ (x.1 k).2.2.2.2.2.2.1 = 0 ∧ u' = ((gup u.1 k (gq_det (u.1 k)), u.2.1, u.2.2.1, u.2.2.2.1, u.2.2.2.2.1, u.2.2.2.2.2.1, u.2.2.2.2.2.2.1, u.2.2.2.2.2.2.2.1, u.2.2.2.2.2.2.2.2.1, u.2.2.2.2.2.2.2.2.2.1, u.2.2.2.2.2.2.2.2.2.2.1, u.2.2.2.2.2.2.2.2.2.2.2.1, u.2.2.2.2.2.2.2.2.2.2.2.2.1, u.2.2.2.2.2.2.2.2.2.2.2.2.2.1, u.2.2.2.2.2.2.2.2.2.2.2.2.2.2) : gU) ∧ R' = gup x.1 k (gp_det (x.1 k)))) := by
  have hn := T.hn
  rcases g_ob v n (by omega) with c | ⟨k, hk, rfl⟩
  · refine ⟨0, u, x.1, ?_, Or.inl rfl, T, Or.inl ⟨rfl, rfl, rfl, ?_⟩⟩
    · simp only [cS_detachBuffer, ho_1, Option.bind_some, k_free0 T.un c, if_true]
    · intro y hy hy2 u o z
      exact ⟨0, r_isout (hy2.trans T.xn) c, Or.inl rfl⟩
  · obtain ⟨s, c, O⟩ := T.ob k hk
    have hk2 : k < 32 := by omega
    obtain ⟨_, _, _, _, _, _, _, e4, _⟩ := n_s6 s O.s8
    by_cases c1 : s = 4 ∧ (u.1 k).2.2.2.2.1 6 = 0
    · obtain ⟨rfl, c2⟩ := c1
      refine ⟨1, ((gup u.1 k (gq_det (u.1 k)), u.2.1, u.2.2.1, u.2.2.2.1, u.2.2.2.2.1, u.2.2.2.2.2.1, u.2.2.2.2.2.2.1, u.2.2.2.2.2.2.2.1, u.2.2.2.2.2.2.2.2.1, u.2.2.2.2.2.2.2.2.2.1, u.2.2.2.2.2.2.2.2.2.2.1, u.2.2.2.2.2.2.2.2.2.2.2.1, u.2.2.2.2.2.2.2.2.2.2.2.2.1, u.2.2.2.2.2.2.2.2.2.2.2.2.2.1, u.2.2.2.2.2.2.2.2.2.2.2.2.2.2) : gU), gup x.1 k (gp_det (x.1 k)), ?_, Or.inr rfl, gT_ob T ⟨4, c, gO_det O⟩, Or.inr ⟨rfl, k, hk, rfl, O.et, O.ed.trans c2, rfl, rfl⟩⟩
      simp only [cS_detachBuffer, ho_1, Option.bind_some, k_free T.un hn hk O, c2, and_self, if_true, hr_1_0, hT hk2, hpT_6 hk2] <;> rfl
    · refine ⟨0, u, x.1, ?_, Or.inl rfl, T, Or.inl ⟨rfl, rfl, rfl, ?_⟩⟩
      · simp only [cS_detachBuffer, ho_1, Option.bind_some, k_free T.un hn hk O, if_neg c1, if_true]
      · intro y hy hy2 u2 o z
        refine ⟨_, r_isin (hy2.trans T.xn) hn hk, ?_⟩
        rw [hy, O.et]
        by_cases c3 : s = 4
        · subst c3
          right
          refine ⟨by simp, k, hk, rfl, ?_⟩
          rw [O.ed]
          rcases O.d4 with h | h
          · exact absurd ⟨rfl, h⟩ c1
          · exact h.1
        · left
          rw [if_neg (fun q => c3 (e4.mp q))]
theorem r_detNow {k : Nat} (hk : k < 32) : mM_detachNow (some 188) (Int32.ofNat k) (gH u x o z) = some (gH u ((gup x.1 k (gp_det (x.1 k)), x.2.1, x.2.2.1, x.2.2.2.1, x.2.2.2.2.1, x.2.2.2.2.2.1, x.2.2.2.2.2.2.1, x.2.2.2.2.2.2.2.1, x.2.2.2.2.2.2.2.2.1, x.2.2.2.2.2.2.2.2.2.1, x.2.2.2.2.2.2.2.2.2.2.1, x.2.2.2.2.2.2.2.2.2.2.2.1, x.2.2.2.2.2.2.2.2.2.2.2.2.1, x.2.2.2.2.2.2.2.2.2.2.2.2.2.1, x.2.2.2.2.2.2.2.2.2.2.2.2.2.2.1, x.2.2.2.2.2.2.2.2.2.2.2.2.2.2.2) : gX) o z) := by
  simp only [mM_detachNow, hr_188_4, Option.bind_some, hb_191 hk, hr_188_3, hb_190 hk, gup_eq, gup_gup, show (1 : Int32) &&& 1 = 1 from rfl] <;> rfl
theorem t_detach {v : Int32} (h : gTT u x) : ∃ r u' x', cG_detach (some 0) v (gH u x o z) = some (r, gH u' x o z) ∧ mM_detach (some 188) v (gH u' x o z) = some (r, gH u' x' o z) ∧ x'.2.1 0 = 0 ∧ gTT u' x' := by
  obtain ⟨n, m, p, q, T⟩ := h
  have hn := T.hn
  obtain ⟨r, u', R', h1, h2, h3, h4⟩ := k_det (v := v) (o := o) (z := z) T
  refine ⟨r, u', ((R', gup x.2.1 0 0, x.2.2.1, x.2.2.2.1, x.2.2.2.2.1, x.2.2.2.2.2.1, x.2.2.2.2.2.2.1, x.2.2.2.2.2.2.2.1, x.2.2.2.2.2.2.2.2.1, x.2.2.2.2.2.2.2.2.2.1, x.2.2.2.2.2.2.2.2.2.2.1, x.2.2.2.2.2.2.2.2.2.2.2.1, x.2.2.2.2.2.2.2.2.2.2.2.2.1, x.2.2.2.2.2.2.2.2.2.2.2.2.2.1, x.2.2.2.2.2.2.2.2.2.2.2.2.2.2.1, x.2.2.2.2.2.2.2.2.2.2.2.2.2.2.2) : gX), ?_, ?_, rfl, gTT_0 (x := ((R', x.2.1, x.2.2.1, x.2.2.2.1, x.2.2.2.2.1, x.2.2.2.2.2.1, x.2.2.2.2.2.2.1, x.2.2.2.2.2.2.2.1, x.2.2.2.2.2.2.2.2.1, x.2.2.2.2.2.2.2.2.2.1, x.2.2.2.2.2.2.2.2.2.2.1, x.2.2.2.2.2.2.2.2.2.2.2.1, x.2.2.2.2.2.2.2.2.2.2.2.2.1, x.2.2.2.2.2.2.2.2.2.2.2.2.2.1, x.2.2.2.2.2.2.2.2.2.2.2.2.2.2.1, x.2.2.2.2.2.2.2.2.2.2.2.2.2.2.2) : gX)) ⟨n, m, p, q, h3⟩⟩
  · simp only [cG_detach, hr_0_0, Option.bind_some, ho_1, h1, h2, not_true, if_false]
  · rcases h4 with ⟨rfl, rfl, rfl, h5⟩ | ⟨rfl, k, hk, rfl, h5, h6, rfl, rfl⟩
    · obtain ⟨t, h6, h7⟩ := h5 ((x.1, gup x.2.1 0 0, x.2.2.1, x.2.2.2.1, x.2.2.2.2.1, x.2.2.2.2.2.1, x.2.2.2.2.2.2.1, x.2.2.2.2.2.2.2.1, x.2.2.2.2.2.2.2.2.1, x.2.2.2.2.2.2.2.2.2.1, x.2.2.2.2.2.2.2.2.2.2.1, x.2.2.2.2.2.2.2.2.2.2.2.1, x.2.2.2.2.2.2.2.2.2.2.2.2.1, x.2.2.2.2.2.2.2.2.2.2.2.2.2.1, x.2.2.2.2.2.2.2.2.2.2.2.2.2.2.1, x.2.2.2.2.2.2.2.2.2.2.2.2.2.2.2) : gX) rfl rfl u' o z
      simp only [mM_detach, hp_188_0, Option.bind_some, ho_188, h6]
      rcases h7 with rfl | ⟨rfl, k, hk, rfl, h8⟩
      · simp [mM_detach_27, mM_detach_28]
      · have h9 : (x.1 k).2.2.2.2.2.2.1 = 1 := h8
        simp [mM_detach_27, mM_detach_28, hr_188_4, ha_191 (k := k) (show k < 32 by omega), h9]
    · have x1 : gup x.2.1 0 0 1 = Int32.ofNat n := T.xn
      simp only [mM_detach, hp_188_0, Option.bind_some, ho_188, r_isin (x := ((x.1, gup x.2.1 0 0, x.2.2.1, x.2.2.2.1, x.2.2.2.2.1, x.2.2.2.2.2.1, x.2.2.2.2.2.2.1, x.2.2.2.2.2.2.2.1, x.2.2.2.2.2.2.2.2.1, x.2.2.2.2.2.2.2.2.2.1, x.2.2.2.2.2.2.2.2.2.2.1, x.2.2.2.2.2.2.2.2.2.2.2.1, x.2.2.2.2.2.2.2.2.2.2.2.2.1, x.2.2.2.2.2.2.2.2.2.2.2.2.2.1, x.2.2.2.2.2.2.2.2.2.2.2.2.2.2.1, x.2.2.2.2.2.2.2.2.2.2.2.2.2.2.2) : gX)) x1 hn hk, h5, if_true, hr_188_4, ha_191 (k := k) (show k < 32 by omega), h6, mM_detach_28, r_detNow (x := ((x.1, gup x.2.1 0 0, x.2.2.1, x.2.2.2.1, x.2.2.2.2.1, x.2.2.2.2.2.1, x.2.2.2.2.2.2.1, x.2.2.2.2.2.2.2.1, x.2.2.2.2.2.2.2.2.1, x.2.2.2.2.2.2.2.2.2.1, x.2.2.2.2.2.2.2.2.2.2.1, x.2.2.2.2.2.2.2.2.2.2.2.1, x.2.2.2.2.2.2.2.2.2.2.2.2.1, x.2.2.2.2.2.2.2.2.2.2.2.2.2.1, x.2.2.2.2.2.2.2.2.2.2.2.2.2.2.1, x.2.2.2.2.2.2.2.2.2.2.2.2.2.2.2) : gX)) (k := k) (show k < 32 by omega)]
      simp
theorem k_feedLoop {w : Int64} {n : Nat} (hn : n ≤ 8) : ∀ (m i c f : Nat) (u : gU), i + m = n → u.2.2.2.1 1 = Int32.ofNat c → c + m ≤ 300 → ∃ a b, cG_feed_31 (f + m + 1) (some 0) w (Int32.ofNat n) (Int32.ofNat i) (gH u x o z) = some (Int32.ofNat (c + m), gH ((u.1, u.2.1, u.2.2.1, a, b, u.2.2.2.2.2.1, u.2.2.2.2.2.2.1, u.2.2.2.2.2.2.2.1, u.2.2.2.2.2.2.2.2.1, u.2.2.2.2.2.2.2.2.2.1, u.2.2.2.2.2.2.2.2.2.2.1, u.2.2.2.2.2.2.2.2.2.2.2.1, u.2.2.2.2.2.2.2.2.2.2.2.2.1, u.2.2.2.2.2.2.2.2.2.2.2.2.2.1, u.2.2.2.2.2.2.2.2.2.2.2.2.2.2) : gU) x o z) ∧ a 1 = Int32.ofNat (c + m) ∧ ∀ j, b j = if c ≤ j ∧ j < c + m then gt_w w (i + (j - c)) else u.2.2.2.2.1 j := by
  intro m
  induction m with
  | zero =>
    intro i c f u h1 h2 h3
    refine ⟨u.2.2.2.1, u.2.2.2.2.1, ?_, h2, fun j => by rw [if_neg (by omega)]⟩
    rw [cG_feed_31, if_neg (n_nltl (by omega) (by omega) (by omega)), hr_0_1, Option.bind_some, hi_163_1, Option.bind_some, h2]
    rfl
  | succ m ih =>
    intro i c f u h1 h2 h3
    obtain ⟨a, b, h4, h5, h6⟩ := ih (i + 1) (c + 1) f ((u.1, u.2.1, u.2.2.1, gup u.2.2.2.1 1 (Int32.ofNat (c + 1)), gup u.2.2.2.2.1 c (gt_w w i), u.2.2.2.2.2.1, u.2.2.2.2.2.2.1, u.2.2.2.2.2.2.2.1, u.2.2.2.2.2.2.2.2.1, u.2.2.2.2.2.2.2.2.2.1, u.2.2.2.2.2.2.2.2.2.2.1, u.2.2.2.2.2.2.2.2.2.2.2.1, u.2.2.2.2.2.2.2.2.2.2.2.2.1, u.2.2.2.2.2.2.2.2.2.2.2.2.2.1, u.2.2.2.2.2.2.2.2.2.2.2.2.2.2) : gU) (by omega) rfl (by omega)
    refine ⟨a, b, ?_, by rw [h5]; congr 1; omega, fun j => ?_⟩
    · have e1 : Int32.ofNat c < 300 := n_ltl (m := 300) (by omega) (by omega) (by omega)
      rw [show f + (m + 1) + 1 = (f + m + 1) + 1 by omega, cG_feed_31, if_pos (n_ltl (by omega) (by omega) (by omega))]
      simp only [hr_0_1, Option.bind_some, k_byteOf, ho_163, cB_append, hi_163_1, h2, if_pos e1, hr_163_0, hb_164 (show c < 300 by omega), hp_163_1, n_succ]
      rw [h4, show c + 1 + m = c + (m + 1) by omega]
    · rw [h6 j]
      by_cases c1 : j = c
      · subst c1
        rw [if_neg (by omega), if_pos (by omega)]
        show gup u.2.2.2.2.1 j _ j = _
        rw [gup_eq, show i + (j - j) = i by omega]
      · by_cases c2 : c + 1 ≤ j ∧ j < c + 1 + m
        · rw [if_pos c2, if_pos (by omega), show i + 1 + (j - (c + 1)) = i + (j - c) by omega]
        · rw [if_neg c2, if_neg (by omega)]
          exact gup_ne c1
theorem r_feedLoop {w : Int64} {n : Nat} (hn : n ≤ 8) : ∀ (m i c f : Nat) (x : gX), i + m = n → x.2.1 15 = Int32.ofNat c → c + m ≤ 300 → ∃ a b, mM_feed_33 (f + m + 1) (some 188) w (Int32.ofNat n) (Int32.ofNat i) (gH u x o z) = some (Int32.ofNat (c + m), gH u ((x.1, a, x.2.2.1, x.2.2.2.1, x.2.2.2.2.1, b, x.2.2.2.2.2.2.1, x.2.2.2.2.2.2.2.1, x.2.2.2.2.2.2.2.2.1, x.2.2.2.2.2.2.2.2.2.1, x.2.2.2.2.2.2.2.2.2.2.1, x.2.2.2.2.2.2.2.2.2.2.2.1, x.2.2.2.2.2.2.2.2.2.2.2.2.1, x.2.2.2.2.2.2.2.2.2.2.2.2.2.1, x.2.2.2.2.2.2.2.2.2.2.2.2.2.2.1, x.2.2.2.2.2.2.2.2.2.2.2.2.2.2.2) : gX) o z) ∧ a 15 = Int32.ofNat (c + m) ∧ (∀ j, ¬ j = 15 → a j = x.2.1 j) ∧ ∀ j, b j = if c ≤ j ∧ j < c + m then gt_w w (i + (j - c)) else x.2.2.2.2.2.1 j := by
  intro m
  induction m with
  | zero =>
    intro i c f x h1 h2 h3
    refine ⟨x.2.1, x.2.2.2.2.2.1, ?_, h2, fun j _ => rfl, fun j => by rw [if_neg (by omega)]⟩
    rw [mM_feed_33, if_neg (n_nltl (by omega) (by omega) (by omega)), hi_188_15, Option.bind_some, h2]
    rfl
  | succ m ih =>
    intro i c f x h1 h2 h3
    obtain ⟨a, b, h4, h5, h7, h6⟩ := ih (i + 1) (c + 1) f ((x.1, gup x.2.1 15 (Int32.ofNat (c + 1)), x.2.2.1, x.2.2.2.1, x.2.2.2.2.1, gup x.2.2.2.2.2.1 c (gt_w w i), x.2.2.2.2.2.2.1, x.2.2.2.2.2.2.2.1, x.2.2.2.2.2.2.2.2.1, x.2.2.2.2.2.2.2.2.2.1, x.2.2.2.2.2.2.2.2.2.2.1, x.2.2.2.2.2.2.2.2.2.2.2.1, x.2.2.2.2.2.2.2.2.2.2.2.2.1, x.2.2.2.2.2.2.2.2.2.2.2.2.2.1, x.2.2.2.2.2.2.2.2.2.2.2.2.2.2.1, x.2.2.2.2.2.2.2.2.2.2.2.2.2.2.2) : gX) (by omega) rfl (by omega)
    refine ⟨a, b, ?_, by rw [h5]; congr 1; omega, fun j hj => (h7 j hj).trans (gup_ne hj), fun j => ?_⟩
    · rw [show f + (m + 1) + 1 = (f + m + 1) + 1 by omega, mM_feed_33, if_pos (n_ltl (by omega) (by omega) (by omega))]
      simp only [hr_188_16, Option.bind_some, hi_188_15, h2, gt_r (w := w) (i := i) (by omega), hb_200 (show c < 300 by omega), hp_188_15, n_succ]
      rw [h4, show c + 1 + m = c + (m + 1) by omega]
    · rw [h6 j]
      by_cases c1 : j = c
      · subst c1
        rw [if_neg (by omega), if_pos (by omega)]
        show gup x.2.2.2.2.2.1 j _ j = _
        rw [gup_eq, show i + (j - j) = i by omega]
      · by_cases c2 : c + 1 ≤ j ∧ j < c + 1 + m
        · rw [if_pos c2, if_pos (by omega), show i + 1 + (j - (c + 1)) = i + (j - c) by omega]
        · rw [if_neg c2, if_neg (by omega)]
          exact gup_ne c1
theorem t_feed {w : Int64} {v : Int32} (h : gTT u x) : ∃ r u' x', cG_feed (some 0) w v (gH u x o z) = some (r, gH u' x o z) ∧ mM_feed (some 188) w v (gH u' x o z) = some (r, gH u' x' o z) ∧ x'.2.1 0 = 0 ∧ gTT u' x' := by
  obtain ⟨n, m, p, q, T⟩ := h
  have hm := T.hm
  have x1 : gup x.2.1 0 0 15 = Int32.ofNat m := T.xm
  by_cases g1 : v < 1
  · exact ⟨-1, u, ((x.1, gup x.2.1 0 0, x.2.2.1, x.2.2.2.1, x.2.2.2.2.1, x.2.2.2.2.2.1, x.2.2.2.2.2.2.1, x.2.2.2.2.2.2.2.1, x.2.2.2.2.2.2.2.2.1, x.2.2.2.2.2.2.2.2.2.1, x.2.2.2.2.2.2.2.2.2.2.1, x.2.2.2.2.2.2.2.2.2.2.2.1, x.2.2.2.2.2.2.2.2.2.2.2.2.1, x.2.2.2.2.2.2.2.2.2.2.2.2.2.1, x.2.2.2.2.2.2.2.2.2.2.2.2.2.2.1, x.2.2.2.2.2.2.2.2.2.2.2.2.2.2.2) : gX), by simp only [cG_feed, if_pos g1], by simp only [mM_feed, hp_188_0, Option.bind_some, if_pos g1], rfl, gTT_0 ⟨n, m, p, q, T⟩⟩
  · by_cases g2 : 8 < v
    · exact ⟨-1, u, ((x.1, gup x.2.1 0 0, x.2.2.1, x.2.2.2.1, x.2.2.2.2.1, x.2.2.2.2.2.1, x.2.2.2.2.2.2.1, x.2.2.2.2.2.2.2.1, x.2.2.2.2.2.2.2.2.1, x.2.2.2.2.2.2.2.2.2.1, x.2.2.2.2.2.2.2.2.2.2.1, x.2.2.2.2.2.2.2.2.2.2.2.1, x.2.2.2.2.2.2.2.2.2.2.2.2.1, x.2.2.2.2.2.2.2.2.2.2.2.2.2.1, x.2.2.2.2.2.2.2.2.2.2.2.2.2.2.1, x.2.2.2.2.2.2.2.2.2.2.2.2.2.2.2) : gX), by simp only [cG_feed, if_neg g1, if_pos g2], by simp only [mM_feed, hp_188_0, Option.bind_some, if_neg g1, if_pos g2], rfl, gTT_0 ⟨n, m, p, q, T⟩⟩
    · have g0 : ¬ v < 0 := by
        rw [Int32.lt_iff_toInt_lt] at g1 ⊢
        have a1 : (1 : Int32).toInt = 1 := rfl
        have a0 : (0 : Int32).toInt = 0 := rfl
        omega
      obtain ⟨c, hc, rfl⟩ := n_le (m := 8) g0 g2 (by omega)
      by_cases g3 : 300 < m + c
      · have g4 : (300 : Int32) < Int32.ofNat m + Int32.ofNat c := by rw [n_add]; exact n_ltl (n := 300) (by omega) (by omega) g3
        exact ⟨-1, u, ((x.1, gup x.2.1 0 0, x.2.2.1, x.2.2.2.1, x.2.2.2.2.1, x.2.2.2.2.2.1, x.2.2.2.2.2.2.1, x.2.2.2.2.2.2.2.1, x.2.2.2.2.2.2.2.2.1, x.2.2.2.2.2.2.2.2.2.1, x.2.2.2.2.2.2.2.2.2.2.1, x.2.2.2.2.2.2.2.2.2.2.2.1, x.2.2.2.2.2.2.2.2.2.2.2.2.1, x.2.2.2.2.2.2.2.2.2.2.2.2.2.1, x.2.2.2.2.2.2.2.2.2.2.2.2.2.2.1, x.2.2.2.2.2.2.2.2.2.2.2.2.2.2.2) : gX), by simp only [cG_feed, if_neg g1, if_neg g2, hr_0_1, Option.bind_some, hi_163_1, T.um, if_pos g4], by simp only [mM_feed, hp_188_0, Option.bind_some, if_neg g1, if_neg g2, hi_188_15, x1, if_pos g4], rfl, gTT_0 ⟨n, m, p, q, T⟩⟩
      · have g4 : ¬ (300 : Int32) < Int32.ofNat m + Int32.ofNat c := by rw [n_add]; exact n_nltl (m := m + c) (n := 300) (by omega) (by omega) (by omega)
        obtain ⟨a, b, h1, h2, h3⟩ := k_feedLoop (x := x) (o := o) (z := z) (w := w) hc c 0 m (1000000000000000 - c - 1) u (by omega) T.um (by omega)
        obtain ⟨a2, b2, h4, h5, h6, h7⟩ := r_feedLoop (u := ((u.1, u.2.1, u.2.2.1, a, b, u.2.2.2.2.2.1, u.2.2.2.2.2.2.1, u.2.2.2.2.2.2.2.1, u.2.2.2.2.2.2.2.2.1, u.2.2.2.2.2.2.2.2.2.1, u.2.2.2.2.2.2.2.2.2.2.1, u.2.2.2.2.2.2.2.2.2.2.2.1, u.2.2.2.2.2.2.2.2.2.2.2.2.1, u.2.2.2.2.2.2.2.2.2.2.2.2.2.1, u.2.2.2.2.2.2.2.2.2.2.2.2.2.2) : gU)) (o := o) (z := z) (w := w) hc c 0 m (1000000000000000 - c - 1) ((x.1, gup x.2.1 0 0, x.2.2.1, x.2.2.2.1, x.2.2.2.2.1, x.2.2.2.2.2.1, x.2.2.2.2.2.2.1, x.2.2.2.2.2.2.2.1, x.2.2.2.2.2.2.2.2.1, x.2.2.2.2.2.2.2.2.2.1, x.2.2.2.2.2.2.2.2.2.2.1, x.2.2.2.2.2.2.2.2.2.2.2.1, x.2.2.2.2.2.2.2.2.2.2.2.2.1, x.2.2.2.2.2.2.2.2.2.2.2.2.2.1, x.2.2.2.2.2.2.2.2.2.2.2.2.2.2.1, x.2.2.2.2.2.2.2.2.2.2.2.2.2.2.2) : gX) (by omega) T.xm (by omega)
        rw [show 1000000000000000 - c - 1 + c + 1 = 1000000000000000 by omega] at h1 h4
        refine ⟨Int32.ofNat (m + c), ((u.1, u.2.1, u.2.2.1, a, b, u.2.2.2.2.2.1, u.2.2.2.2.2.2.1, u.2.2.2.2.2.2.2.1, u.2.2.2.2.2.2.2.2.1, u.2.2.2.2.2.2.2.2.2.1, u.2.2.2.2.2.2.2.2.2.2.1, u.2.2.2.2.2.2.2.2.2.2.2.1, u.2.2.2.2.2.2.2.2.2.2.2.2.1, u.2.2.2.2.2.2.2.2.2.2.2.2.2.1, u.2.2.2.2.2.2.2.2.2.2.2.2.2.2) : gU), ((x.1, a2, x.2.2.1, x.2.2.2.1, x.2.2.2.2.1, b2, x.2.2.2.2.2.2.1, x.2.2.2.2.2.2.2.1, x.2.2.2.2.2.2.2.2.1, x.2.2.2.2.2.2.2.2.2.1, x.2.2.2.2.2.2.2.2.2.2.1, x.2.2.2.2.2.2.2.2.2.2.2.1, x.2.2.2.2.2.2.2.2.2.2.2.2.1, x.2.2.2.2.2.2.2.2.2.2.2.2.2.1, x.2.2.2.2.2.2.2.2.2.2.2.2.2.2.1, x.2.2.2.2.2.2.2.2.2.2.2.2.2.2.2) : gX), ?_, ?_, ?_, n, m + c, p, q, ?_⟩
        · simp only [cG_feed, if_neg g1, if_neg g2, hr_0_1, Option.bind_some, hi_163_1, T.um, if_neg g4]
          exact h1
        · simp only [mM_feed, hp_188_0, Option.bind_some, if_neg g1, if_neg g2, hi_188_15, x1, if_neg g4]
          exact h4
        · exact (h6 0 (by omega)).trans rfl
        · have f : ∀ j, ¬ j = 15 → ¬ j = 0 → a2 j = x.2.1 j := fun j h8 h9 => (h6 j h8).trans (gup_ne h9)
          refine ⟨T.hn, T.un, (f 1 (by omega) (by omega)).trans T.xn, T.ob, by omega, h2, h5, ?_, ?_, T.hp, T.up, (f 10 (by omega) (by omega)).trans T.xp, T.pa, T.pb, T.hq, T.uq, (f 12 (by omega) (by omega)).trans T.xq, T.ho, T.fo.trans (f 17 (by omega) (by omega)).symm⟩
          · intro j hj
            show b2 j = b j
            rw [h7 j, h3 j]
            by_cases c1 : m ≤ j ∧ j < m + c
            · rw [if_pos c1, if_pos c1]
            · rw [if_neg c1, if_neg c1]; exact T.bs j (by omega)
          · intro j hj
            show ∃ t, t < 256 ∧ b j = _
            rw [h3 j]
            by_cases c1 : m ≤ j ∧ j < m + c
            · rw [if_pos c1]; exact gt_w8 _ _
            · rw [if_neg c1]; exact T.b8 j (by omega)
end H
