/-! the other calls on a fresh object -/
section F
variable {I : Nat → Nat → Int32} {J : Nat → Nat → Int64} {z : gx_H}
theorem m_fill {l1 l2 : Int32} : ∀ (m k f : Nat) (I : Nat → Nat → Int32), k + m = 32 → mM_write_42 (f + m) (some 188) l1 l2 (Int32.ofNat k) (gm_mk I J z) = mM_write_42 f (some 188) l1 l2 (Int32.ofNat 32) (gm_mk (gm_fill I 209 k 32 (-1)) J z) := by
  intro m
  induction m with
  | zero => intro k f I hk; obtain rfl : k = 32 := by omega
            rw [gm_fill0]; rfl
  | succ m ih =>
    intro k f I hk
    have hlt : Int32.ofNat k < 32 := (n_lt (m := 32) (by omega) (by omega)).mpr (by omega)
    rw [show f + (m + 1) = (f + m) + 1 by omega, mM_write_42, if_pos hlt, gr_188_30, Option.bind_some, gb_209 (n_nn (by omega)) (by rw [n_cl (by omega)]; omega), Option.bind_some, n_cl (by omega), n_succ, ih (k + 1) f _ (by omega), gm_fill1 (by omega)]
theorem m_copy {n : Nat} (hn : n ≤ 300) : ∀ (m k f : Nat) (I : Nat → Nat → Int32), k + m = n → I 188 27 = Int32.ofNat n → mM_write_168 (f + m + 1) (some 188) (Int32.ofNat k) (gm_mk I J z) = mM_write_194 (some 188) (gm_mk (gm_copy I 208 200 k n) J z) := by
  intro m
  induction m with
  | zero =>
    intro k f I hk hI; obtain rfl : k = n := by omega
    rw [gm_copy0, mM_write_168, gi_188_27, Option.bind_some, hI, if_neg (fun q => by have := (n_lt (by omega) (by omega)).mp q; omega)]
  | succ m ih =>
    intro k f I hk hI
    rw [show f + (m + 1) + 1 = (f + m + 1) + 1 by omega, mM_write_168, gi_188_27, Option.bind_some, hI, if_pos ((n_lt (by omega) (by omega)).mpr (by omega)), gr_188_16, Option.bind_some, gr_188_28, Option.bind_some, ga_208 (n_nn (by omega)) (by rw [n_cl (by omega)]; omega), Option.bind_some, gb_200 (n_nn (by omega)) (by rw [n_cl (by omega)]; omega), Option.bind_some, n_cl (by omega), n_succ, ih (k + 1) f _ (by omega) (by simp [gm_up, hI]), gm_copy1 (by omega) (by decide)]
/-- the write's end: none is passed, no object is open -/
theorem m0_end (h1 : I 188 10 = 0) (h2 : I 188 18 = 0) (h3 : I 188 26 = 0 ∨ I 188 26 = 1) {n : Nat} (hn : n ≤ 300) (h4 : I 188 27 = Int32.ofNat n) : ∃ I', mM_write_80 2000 (some 188) (gm_mk I J z) = some (if I 188 26 = 0 then Int32.ofNat n else 0, gm_mk I' J z) ∧ I' 188 0 = I 188 26 := by
  rw [mM_write_80, gi_188_26, Option.bind_some]
  rcases h3 with h3 | h3
  · rw [if_pos h3, gi_188_18, Option.bind_some, h2, if_neg (by decide)]
    unfold mM_write_101
    rw [mM_write_103, gi_188_10, Option.bind_some, h1, if_neg (by decide)]
    unfold mM_write_147
    rw [gi_188_26, Option.bind_some, if_pos h3, go_188, Option.bind_some]
    unfold mM_handOver
    rw [gi_188_10, Option.bind_some, gp_188_12, Option.bind_some, mM_handOver_10, gi_188_10, Option.bind_some, if_neg (by simp [gm_up, h1]), Option.bind_some, gi_188_27, Option.bind_some, gp_188_15, Option.bind_some]
    have e : (2000 : Nat) = (1999 - n) + n + 1 := by omega
    rw [e]
    have hI : gm_up (gm_up I 188 12 (I 188 10)) 188 15 (gm_up I 188 12 (I 188 10) 188 27) 188 27 = Int32.ofNat n := by simp [gm_up, h4]
    have K := m_copy (J := J) (z := z) hn n 0 (1999 - n) _ (by omega) hI
    rw [show (0 : Int32) = Int32.ofNat 0 from rfl, K]
    unfold mM_write_194
    rw [gp_188_10, Option.bind_some, gi_188_26, Option.bind_some, gp_188_0, Option.bind_some, gi_188_26, Option.bind_some]
    simp [gm_up, gm_copy, h3, gi_188_15, h4]
    exact ⟨_, rfl, by simp [gm_up]⟩
  · have h3' : ¬ I 188 26 = 0 := by rw [h3]; decide
    rw [if_neg h3']
    unfold mM_write_101
    rw [mM_write_103, gi_188_10, Option.bind_some, h1, if_neg (by decide)]
    unfold mM_write_147
    rw [gi_188_26, Option.bind_some, if_neg h3']
    unfold mM_write_194
    rw [gp_188_10, Option.bind_some, gi_188_26, Option.bind_some, gp_188_0, Option.bind_some, gi_188_26, Option.bind_some]
    simp [gm_up, h3]
    exact ⟨_, rfl, by simp [gm_up]⟩
theorem m0_write {k v : Int32} (h1 : I 188 1 = 0) (h2 : I 188 10 = 0) : ∃ I', mM_write (some 188) k v (gm_mk I J z) = some (if gw_R k v = 0 then Int32.ofNat (1 + (gw_V k v).length) else 0, gm_mk I' J z) ∧ I' 188 0 = gw_R k v := by
  have go : ∀ s : Int32, ((s = 1 ∧ gw_R k v = 1) ∨ (s = 0 ∧ ¬ gw_ok k v = 0)) → ∃ I', mM_write_22 (some 188) k v (some 188) s (gm_mk I J z) = some (if gw_R k v = 0 then Int32.ofNat (1 + (gw_V k v).length) else 0, gm_mk I' J z) ∧ I' 188 0 = gw_R k v := by
    intro s hs
    unfold mM_write_22
    rw [gp_188_26, Option.bind_some, gp_188_27, Option.bind_some, gp_188_29, Option.bind_some, gp_188_18, Option.bind_some]
    show ∃ I', mM_write_42 (1968 + 32) _ _ _ (Int32.ofNat 0) _ = _ ∧ _
    rw [m_fill 32 0 1968 _ rfl]
    have F26 : gm_fill (gm_up (gm_up (gm_up (gm_up I 188 26 s) 188 27 0) 188 29 0) 188 18 0) 209 0 32 (-1) 188 26 = s := by simp [gm_fill, gm_up]
    have F27 : gm_fill (gm_up (gm_up (gm_up (gm_up I 188 26 s) 188 27 0) 188 29 0) 188 18 0) 209 0 32 (-1) 188 27 = 0 := by simp [gm_fill, gm_up]
    have F18 : gm_fill (gm_up (gm_up (gm_up (gm_up I 188 26 s) 188 27 0) 188 29 0) 188 18 0) 209 0 32 (-1) 188 18 = 0 := by simp [gm_fill, gm_up]
    have F10 : gm_fill (gm_up (gm_up (gm_up (gm_up I 188 26 s) 188 27 0) 188 29 0) 188 18 0) 209 0 32 (-1) 188 10 = 0 := by simp [gm_fill, gm_up, h2]
    generalize gm_fill (gm_up (gm_up (gm_up (gm_up I 188 26 s) 188 27 0) 188 29 0) 188 18 0) 209 0 32 (-1) = I2 at F26 F27 F18 F10
    rw [mM_write_42, if_neg (by decide), gi_188_26, Option.bind_some]
    rcases hs with ⟨rfl, hR⟩ | ⟨rfl, hk⟩
    · rw [if_neg (by rw [F26]; decide)]
      obtain ⟨I', e, f⟩ := m0_end (I := I2) (J := J) (z := z) F10 F18 (Or.inr F26) (n := 0) (by omega) F27
      refine ⟨I', ?_, by rw [f, F26, hR]⟩
      rw [e, F26, hR]; rfl
    · rw [if_pos F26, go_188, Option.bind_some]
      have hok : mw_ok I2 := ⟨0, by omega, F27⟩
      rw [m_say hok, Option.bind_some, go_188, Option.bind_some]
      obtain ⟨L1, L2, L3⟩ := mw_l_ok (I := I2) (bs := [15]) (c := 0) F26 F27 (by simp)
      have L1 : mw_b I2 15 188 26 = 0 := L1
      have L2 : mw_b I2 15 188 27 = Int32.ofNat 1 := L2
      have L18 : mw_b I2 15 188 18 = 0 := (L3 188 18 (by decide) (by decide)).trans F18
      have L10 : mw_b I2 15 188 10 = 0 := (L3 188 10 (by decide) (by decide)).trans F10
      have h6 : ¬ k = 6 := fun q => hk (by rw [q]; rfl)
      have h8 : ¬ 7 < k := fun q => hk (by unfold gw_ok; by_cases c : k < 0; rw [if_pos c]; rw [if_neg c, if_pos q])
      by_cases c7 : k = 7
      · have hR : gw_R k v = 1 := by unfold gw_R; rw [if_pos (Or.inr c7)]
        unfold mM_sayValue
        rw [gi_188_18, Option.bind_some, L18, if_neg (by decide), if_pos c7, gp_188_26, Option.bind_some, Option.bind_some]
        obtain ⟨I', e, f⟩ := m0_end (I := gm_up (mw_b I2 15) 188 26 1) (J := J) (z := z) (by simp [gm_up, L10]) (by simp [gm_up, L18]) (Or.inr (by simp [gm_up])) (n := 1) (by omega) (by simp [gm_up, L2])
        refine ⟨I', ?_, by rw [f, hR]; simp [gm_up]⟩
        rw [e, hR]; simp [gm_up]
      · have hR : gw_R k v = 0 := by unfold gw_R; rw [if_neg (by simp [hk, c7])]
        have hlen := gw_V_len (k := k) (v := v)
        rw [m_sayValue (mw_ok_b hok) L18 h6 c7 h8, Option.bind_some]
        obtain ⟨M1, M2, M3⟩ := mw_l_ok (I := mw_b I2 15) (bs := gw_V k v) (c := 1) L1 L2 (by omega)
        obtain ⟨I', e, f⟩ := m0_end (I := mw_l (mw_b I2 15) (gw_V k v)) (J := J) (z := z) ((M3 188 10 (by decide) (by decide)).trans L10) ((M3 188 18 (by decide) (by decide)).trans L18) (Or.inl M1) (n := 1 + (gw_V k v).length) (by omega) M2
        refine ⟨I', ?_, by rw [f, hR, M1]⟩
        rw [e, hR, M1]
  unfold mM_write
  rw [go_188, Option.bind_some, m0_isValue h1, Option.bind_some]
  by_cases c1 : gw_ok k v = 0
  · rw [if_pos c1]
    unfold mM_write_21
    exact go 1 (Or.inl ⟨rfl, by unfold gw_R; rw [if_pos (Or.inl c1)]⟩)
  · rw [if_neg c1, Option.bind_some]
    have hcp : mM_canPass (some 188) (gm_mk I J z) = some 1 := by
      unfold mM_canPass
      rw [mM_canPass_4, gi_188_10, Option.bind_some, h2]; rfl
    rw [hcp, Option.bind_some, if_neg (by decide)]
    exact go 0 (Or.inr ⟨rfl, c1⟩)
/-! feed -/
theorem c_feedLoop {w : Int64} {n : Nat} (hn : n ≤ 8) : ∀ (m k c f : Nat) (I : Nat → Nat → Int32), k + m = n → I 163 1 = Int32.ofNat c → c + m ≤ 300 → ∃ I', cG_feed_31 (f + m + 1) (some 0) w (Int32.ofNat n) (Int32.ofNat k) (gm_mk I J z) = some (Int32.ofNat (c + m), gm_mk I' J z) ∧ ∀ a i, ¬ a = 163 → ¬ a = 164 → I' a i = I a i := by
  intro m
  induction m with
  | zero =>
    intro k c f I hk hc hl
    rw [cG_feed_31, if_neg (fun q => by have := (n_lt (by omega) (by omega)).mp q; omega), gr_0_1, Option.bind_some, gi_163_1, Option.bind_some, hc]
    exact ⟨I, rfl, fun _ _ _ _ => rfl⟩
  | succ m ih =>
    intro k c f I hk hc hl
    have hlt : Int32.ofNat c < 300 := (n_lt (m := 300) (by omega) (by omega)).mpr (by omega)
    rw [show f + (m + 1) + 1 = (f + m + 1) + 1 by omega, cG_feed_31, if_pos ((n_lt (by omega) (by omega)).mpr (by omega)), gr_0_1, Option.bind_some]
    obtain ⟨B, hB⟩ : ∃ B, cG_byteOf w (Int32.ofNat k) = some B := ⟨_, rfl⟩
    rw [hB, Option.bind_some, go_163, Option.bind_some]
    unfold cB_append
    rw [gi_163_1, Option.bind_some, hc, if_pos hlt, gr_163_0, Option.bind_some, Option.bind_some, gb_164 (n_nn (by omega)) (by rw [n_cl (by omega)]; omega), Option.bind_some, gi_163_1, Option.bind_some, gp_163_1, Option.bind_some, Option.bind_some, n_succ]
    obtain ⟨I', e, f1⟩ := ih (k + 1) (c + 1) f (gm_up (gm_up I 164 (Int32.ofNat c).toNatClampNeg B) 163 1 (gm_up I 164 (Int32.ofNat c).toNatClampNeg B 163 1 + 1)) (by omega) (by simp [gm_up, hc]) (by omega)
    refine ⟨I', e.trans (by rw [show c + 1 + m = c + (m + 1) by omega]), fun a i q1 q2 => ?_⟩
    rw [f1 a i q1 q2]; simp [gm_up, q1, q2]
theorem m_feedLoop {w : Int64} {n : Nat} (hn : n ≤ 8) : ∀ (m k c f : Nat) (I : Nat → Nat → Int32), k + m = n → I 188 15 = Int32.ofNat c → c + m ≤ 300 → ∃ I', mM_feed_33 (f + m + 1) (some 188) w (Int32.ofNat n) (Int32.ofNat k) (gm_mk I J z) = some (Int32.ofNat (c + m), gm_mk I' J z) := by
  intro m
  induction m with
  | zero =>
    intro k c f I hk hc hl
    rw [mM_feed_33, if_neg (fun q => by have := (n_lt (by omega) (by omega)).mp q; omega), gi_188_15, Option.bind_some, hc]
    exact ⟨I, rfl⟩
  | succ m ih =>
    intro k c f I hk hc hl
    rw [show f + (m + 1) + 1 = (f + m + 1) + 1 by omega, mM_feed_33, if_pos ((n_lt (by omega) (by omega)).mpr (by omega)), gr_188_16, Option.bind_some, gi_188_15, Option.bind_some, hc]
    generalize (Int64.toInt32 ((w >>> (Int32.toInt64 ((8 : Int32) * Int32.ofNat k) &&& 63)) &&& (255 : Int64))) = B
    rw [gb_200 (n_nn (by omega)) (by rw [n_cl (by omega)]; omega), Option.bind_some, gi_188_15, Option.bind_some, gp_188_15, Option.bind_some, n_succ]
    obtain ⟨I', e⟩ := ih (k + 1) (c + 1) f (gm_up (gm_up I 200 (Int32.ofNat c).toNatClampNeg B) 188 15 (gm_up I 200 (Int32.ofNat c).toNatClampNeg B 188 15 + 1)) (by omega) (by simp [gm_up, hc]) (by omega)
    exact ⟨I', e.trans (by rw [show c + 1 + m = c + (m + 1) by omega])⟩
/-- how many bytes a feed to none leaves -/
def gf_R (n : Int32) : Int32 := if n < 1 then -1 else if 8 < n then -1 else n
theorem gf_n {n : Int32} (h1 : ¬ n < 1) (h2 : ¬ 8 < n) : ∃ m, m ≤ 8 ∧ n = Int32.ofNat m := by
  have a1 : ¬ n.toInt < 1 := fun q => h1 (Int32.lt_iff_toInt_lt.mpr q)
  have a2 : ¬ 8 < n.toInt := fun q => h2 (Int32.lt_iff_toInt_lt.mpr q)
  refine ⟨n.toInt.toNat, by omega, ?_⟩
  rw [← Int32.toInt_inj, Int32.toInt_ofNat_of_lt (by omega)]; omega
theorem c0_feed {w : Int64} {n : Int32} (h : I 163 1 = 0) : ∃ I', cG_feed (some 0) w n (gm_mk I J z) = some (gf_R n, gm_mk I' J z) ∧ ∀ a i, 188 ≤ a → I' a i = I a i := by
  unfold cG_feed gf_R
  by_cases h1 : n < 1
  · rw [if_pos h1, if_pos h1]; exact ⟨I, rfl, fun _ _ _ => rfl⟩
  · rw [if_neg h1, if_neg h1]
    by_cases h2 : 8 < n
    · rw [if_pos h2, if_pos h2]; exact ⟨I, rfl, fun _ _ _ => rfl⟩
    · rw [if_neg h2, if_neg h2, gr_0_1, Option.bind_some, gi_163_1, Option.bind_some, h]
      obtain ⟨m, hm, rfl⟩ := gf_n h1 h2
      rw [Int32.zero_add, if_neg (fun q => by have := (n_lt (n := 300) (by omega) (by omega)).mp q; omega)]
      obtain ⟨I', e, f⟩ := c_feedLoop (J := J) (z := z) (w := w) hm m 0 0 (1999 - m) I (by omega) h (by omega)
      rw [show 1999 - m + m + 1 = 2000 by omega, Nat.zero_add] at e
      exact ⟨I', e, fun a i ha => f a i (by omega) (by omega)⟩
theorem m0_feed {w : Int64} {n : Int32} (h : I 188 15 = 0) : ∃ I', mM_feed (some 188) w n (gm_mk I J z) = some (gf_R n, gm_mk I' J z) := by
  unfold mM_feed gf_R
  rw [gp_188_0, Option.bind_some]
  by_cases h1 : n < 1
  · rw [if_pos h1, if_pos h1]; exact ⟨_, rfl⟩
  · rw [if_neg h1, if_neg h1]
    by_cases h2 : 8 < n
    · rw [if_pos h2, if_pos h2]; exact ⟨_, rfl⟩
    · have h' : gm_up I 188 0 0 188 15 = 0 := by simp [gm_up, h]
      rw [if_neg h2, if_neg h2, gi_188_15, Option.bind_some, h']
      obtain ⟨m, hm, rfl⟩ := gf_n h1 h2
      rw [Int32.zero_add, if_neg (fun q => by have := (n_lt (n := 300) (by omega) (by omega)).mp q; omega)]
      obtain ⟨I', e⟩ := m_feedLoop (J := J) (z := z) (w := w) hm m 0 0 (1999 - m) (gm_up I 188 0 0) (by omega) h' (by omega)
      rw [show 1999 - m + m + 1 = 2000 by omega, Nat.zero_add] at e
      exact ⟨I', e⟩
/-! make, buffer, stamp: the first object -/
theorem c0_begin {s : Int32} (h : I 1 1 = 0) : ∃ I' J', cG_beginOrRefuse (some 0) s (gm_mk I J z) = some (.returned (some (.int 0)), gm_mk I' J' z) ∧ ∀ a i, 188 ≤ a → I' a i = I a i := by
  unfold cG_beginOrRefuse
  rw [gr_0_0, Option.bind_some, go_1, Option.bind_some, c_Sbegin (c := 0) h (by decide), Option.bind_some]
  dsimp only
  rw [if_neg (by decide)]
  refine ⟨_, _, rfl, fun a i ha => ?_⟩
  have n1 : ¬ a = 1 := by omega
  have n2 : ¬ a = 3 := by omega
  simp [gm_up, n1, n2]
def gk_T (t : Int32) : Int32 := if t < 0 then 1 else if 3 < t then (if t = 7 then 0 else 1) else 0
theorem c0_make {t : Int32} (h : I 1 1 = 0) : ∃ I' J' z', lw_make (some 0) t (some 211) (gm_mk I J z) = some (gk_T t, gm_mk I' J' z') ∧ (∀ a i, 188 ≤ a → I' a i = I a i) ∧ z'.length ≤ z.length + 1 ∧ (gk_T t = 0 → J' 211 0 = 0) := by
  obtain ⟨I1, J1, e1, f1⟩ := c0_begin (I := I) (J := J) (z := z) (s := t) h
  have good : ∃ I' J' z', (match (.returned (some (.int 0)) : Outcome) with
      | .returned (some (.int v2)) => (gv_wJ (gm_mk I1 J1 z) (some 211) 0 (Int32.toInt64 v2)).bind fun h => some ((0 : Int32), h)
      | .threw x => (gx_ob (gm_mk I1 J1 z) x 8).bind fun _ => some ((1 : Int32), gm_mk I1 J1 z)
      | _ => none) = some ((0 : Int32), gm_mk I' J' z') ∧ (∀ a i, 188 ≤ a → I' a i = I a i) ∧ z'.length ≤ z.length + 1 ∧ J' 211 0 = 0 := by
    dsimp only
    rw [gb_211 (by decide) (by decide), Option.bind_some]
    exact ⟨_, _, _, rfl, f1, by omega, by simp [gm_uj]⟩
  have bad : ∃ I' J' z', (match (.threw (212 + z.length) : Outcome) with
      | .returned (some (.int v2)) => (gv_wJ (gm_mk I J (z ++ [(8, [])])) (some 211) 0 (Int32.toInt64 v2)).bind fun h => some ((0 : Int32), h)
      | .threw x => (gx_ob (gm_mk I J (z ++ [(8, [])])) x 8).bind fun _ => some ((1 : Int32), gm_mk I J (z ++ [(8, [])]))
      | _ => none) = some ((1 : Int32), gm_mk I' J' z') ∧ (∀ a i, 188 ≤ a → I' a i = I a i) ∧ z'.length ≤ z.length + 1 := by
    dsimp only
    rw [gm_exc, Option.bind_some]
    exact ⟨_, _, _, rfl, fun _ _ _ => rfl, by simp⟩
  have m25 : cG_make_25 (some 0) t (gm_mk I J z) = some (.returned (some (.int 0)), gm_mk I1 J1 z) := by
    unfold cG_make_25; rw [go_0, Option.bind_some, e1, Option.bind_some]
  unfold lw_make
  rw [go_0, Option.bind_some]
  unfold cG_make cG_make_9 gk_T
  by_cases c1 : t < 0
  · have c7 : ¬ t = 7 := fun q => by rw [q] at c1; exact absurd c1 (by decide)
    rw [if_pos c1, if_neg c7, if_pos c1, gm_len, gm_thr, Option.bind_some]
    obtain ⟨I', J', z', e, q1, q2⟩ := bad
    exact ⟨I', J', z', e, q1, q2, fun q => absurd q (by decide)⟩
  · rw [if_neg c1, if_neg c1]
    by_cases c2 : 3 < t
    · rw [if_pos c2, if_pos c2]
      by_cases c7 : t = 7
      · rw [if_pos c7, if_pos c7, m25, Option.bind_some]
        obtain ⟨I', J', z', e, q1, q2, q3⟩ := good
        exact ⟨I', J', z', e, q1, q2, fun _ => q3⟩
      · rw [if_neg c7, if_neg c7, gm_len, gm_thr, Option.bind_some]
        obtain ⟨I', J', z', e, q1, q2⟩ := bad
        exact ⟨I', J', z', e, q1, q2, fun q => absurd q (by decide)⟩
    · rw [if_neg c2, if_neg c2, m25, Option.bind_some]
      obtain ⟨I', J', z', e, q1, q2, q3⟩ := good
      exact ⟨I', J', z', e, q1, q2, fun _ => q3⟩
end F
