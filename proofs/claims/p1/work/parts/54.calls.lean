/-! copies, fills -/
theorem gx_sp_get (p : Nat) : ∀ (l : List Value) (s : Nat) (vs : List Value) (k : Nat), (gx_sp p (l.zipIdx s) vs)[k]? = if p + s ≤ k ∧ k < p + s + l.length ∧ k < vs.length then l[k - (p + s)]? else vs[k]? := by
  intro l
  induction l with
  | nil => intro s vs k; simp [gx_sp]; intro a b; omega
  | cons v l ih =>
    intro s vs k
    show (gx_sp p (l.zipIdx (s + 1)) (vs.set (p + s) v))[k]? = _
    rw [ih (s + 1) (vs.set (p + s) v) k, List.length_set, List.length_cons]
    by_cases h1 : p + (s + 1) ≤ k ∧ k < p + (s + 1) + l.length ∧ k < vs.length
    · rw [if_pos h1, if_pos ⟨by omega, by omega, h1.2.2⟩]
      obtain ⟨m, rfl⟩ : ∃ m, k = p + s + 1 + m := ⟨k - (p + s + 1), by omega⟩
      rw [show p + s + 1 + m - (p + s) = m + 1 by omega, show p + s + 1 + m - (p + (s + 1)) = m by omega]
      rfl
    · rw [if_neg h1, List.getElem?_set]
      by_cases h2 : p + s = k
      · subst h2
        by_cases h3 : p + s < vs.length
        · rw [if_pos rfl, if_pos h3, if_pos ⟨by omega, by omega, h3⟩]; simp
        · rw [if_pos rfl, if_neg h3, if_neg (by omega)]; simp; omega
      · rw [if_neg h2, if_neg (by omega)]
def gm_fill (I : Nat → Nat → Int32) (a k n : Nat) (v : Int32) : Nat → Nat → Int32 := fun b i => if b = a ∧ k ≤ i ∧ i < n then v else I b i
def gm_copy (I : Nat → Nat → Int32) (a0 a k n : Nat) : Nat → Nat → Int32 := fun b i => if b = a ∧ k ≤ i ∧ i < n then I a0 i else I b i
theorem gm_fill0 {I : Nat → Nat → Int32} {a n : Nat} {v : Int32} : gm_fill I a n n v = I := by
  funext b i; unfold gm_fill; rw [if_neg (by omega)]
theorem gm_fill1 {I : Nat → Nat → Int32} {a k n : Nat} {v : Int32} (h : k < n) : gm_fill (gm_up I a k v) a (k + 1) n v = gm_fill I a k n v := by
  funext b i; unfold gm_fill gm_up
  by_cases c1 : b = a
  · subst c1
    by_cases c2 : i = k
    · subst c2; simp [h]
    · by_cases c3 : k + 1 ≤ i ∧ i < n
      · rw [if_pos ⟨rfl, c3⟩, if_pos ⟨rfl, by omega, c3.2⟩]
      · rw [if_neg (fun q => c3 q.2), if_neg (fun q => c2 q.2), if_neg (by omega)]
  · simp [c1]
theorem gm_copy0 {I : Nat → Nat → Int32} {a0 a n : Nat} : gm_copy I a0 a n n = I := by
  funext b i; unfold gm_copy; rw [if_neg (by omega)]
theorem gm_copy1 {I : Nat → Nat → Int32} {a0 a k n : Nat} (h : k < n) (hne : ¬ a0 = a) : gm_copy (gm_up I a k (I a0 k)) a0 a (k + 1) n = gm_copy I a0 a k n := by
  funext b i; unfold gm_copy gm_up
  by_cases c1 : b = a
  · subst c1
    by_cases c2 : i = k
    · subst c2; simp [h]
    · by_cases c3 : k + 1 ≤ i ∧ i < n
      · rw [if_pos ⟨rfl, c3⟩, if_neg (fun q => hne q.1), if_pos ⟨rfl, by omega, c3.2⟩]
      · rw [if_neg (fun q => c3 q.2), if_neg (fun q => c2 q.2), if_neg (by omega)]
  · simp [c1]
section F
variable {I : Nat → Nat → Int32} {J : Nat → Nat → Int64} {z : gx_H}
theorem gm_cellA {a n : Nat} (h : gm_lay a = (100, List.replicate n (1, 0))) : gm_cell I J a = (100, (List.range n).map fun i => .int (I a i)) := by
  unfold gm_cell
  rw [h]
  congr 1
  apply List.ext_getElem?
  intro k
  rw [List.getElem?_mapIdx]
  by_cases hk : k < n
  · simp [hk, gm_v]
  · simp [hk]
theorem gm_cp {a0 a n0 n1 n : Nat} (ha0 : a0 < 212) (ha : a < 212) (h0 : gm_lay a0 = (100, List.replicate n0 (1, 0))) (h1 : gm_lay a = (100, List.replicate n1 (1, 0))) (hn0 : n ≤ n0) (hn1 : n ≤ n1) (hn : n < 2 ^ 31) : gv_cp (gm_mk I J z) (some a0) 0 (some a) 0 (Int32.ofNat n) = some (gm_mk (gm_copy I a0 a 0 n) J z) := by
  unfold gv_cp
  rw [Option.bind_some, Option.bind_some, gm_ob ha0 (by rw [h0]), Option.bind_some, gm_ob ha (by rw [h1]), Option.bind_some, gm_cellA h0, gm_cellA h1, n_cl hn]
  have e0 : (0 : Int32).toNatClampNeg = 0 := rfl
  rw [e0]
  rw [if_pos ⟨by decide, by decide, n_nn hn, by simpa using hn0, by simpa using hn1, by simp [gx_i1]⟩]
  rw [gm_set (I' := gm_copy I a0 a 0 n) (J' := J) ha]
  · rw [gm_cellA h1]
    congr 1
    apply List.ext_getElem?
    intro k
    unfold gx_cpy
    rw [gx_sp_get]
    by_cases hk : k < n1
    · by_cases hk2 : k < n
      · rw [if_pos ⟨by omega, by simp; omega, by simpa using hk⟩]
        simp [hk, hk2, gm_copy, List.getD, show k < n0 by omega]
      · rw [if_neg (by simp; omega)]
        simp [hk, hk2, gm_copy]
    · rw [if_neg (by simp; omega)]
      simp [hk]
  · intro b hb
    unfold gm_cell
    congr 2
    funext k s
    unfold gm_v gm_copy
    simp [hb]
/-! write, where there are no objects and none is passed -/
theorem c_fill {l3 l4 : Int32} : ∀ (m k f : Nat) (I : Nat → Nat → Int32), k + m = 32 → cW_run_16 (f + m) (some 169) (some 1) (some 165) l3 l4 (Int32.ofNat k) (gm_mk I J z) = cW_run_16 f (some 169) (some 1) (some 165) l3 l4 (Int32.ofNat 32) (gm_mk (gm_fill I 172 k 32 (-1)) J z) := by
  intro m
  induction m with
  | zero => intro k f I hk; obtain rfl : k = 32 := by omega
            rw [gm_fill0]; rfl
  | succ m ih =>
    intro k f I hk
    have hlt : Int32.ofNat k < 32 := (n_lt (m := 32) (by omega) (by omega)).mpr (by omega)
    rw [show f + (m + 1) = (f + m) + 1 by omega, cW_run_16, if_pos hlt, gr_169_1, Option.bind_some, gb_172 (n_nn (by omega)) (by rw [n_cl (by omega)]; omega), Option.bind_some, n_cl (by omega), n_succ, ih (k + 1) f _ (by omega), gm_fill1 (by omega)]
theorem c0_free (h : I 165 1 = 0) : cH_areFreeBuffers (some 165) (some 1) (gm_mk I J z) = some 1 := by
  unfold cH_areFreeBuffers
  rw [cH_areFreeBuffers_2, gi_165_1, Option.bind_some, h]; rfl
theorem c0_none (h : I 165 1 = 0) : cH_noneTwice (some 165) (gm_mk I J z) = some 1 := by
  unfold cH_noneTwice
  rw [cH_noneTwice_2, gi_165_1, Option.bind_some, h]; rfl
theorem c0_handOver (h : I 165 1 = 0) : cH_handOver (some 165) (some 1) (gm_mk I J z) = some (gm_mk (gm_up I 165 4 0) J z) := by
  unfold cH_handOver
  rw [cH_handOver_2, gi_165_1, Option.bind_some, h, if_neg (by decide), Option.bind_some, gp_165_4]; rfl
def gw_R (k v : Int32) : Int32 := if gw_ok k v = 0 ∨ k = 7 then 1 else 0
theorem c0_run80 {k v s : Int32} (h1 : I 1 1 = 0) (h2 : I 165 1 = 0) (h3 : I 170 1 = 0) (h5 : ¬ k = 6 ∨ s = 1) (hs : s = 0 ∨ s = 1) : ∃ I', cW_run_80 (some 169) (some 1) (some 165) k v (some 169) s (gm_mk I J z) = some (if s = 1 ∨ k = 7 then 1 else 0, gm_mk I' J z) ∧ (∀ a i, ¬ a = 169 → ¬ a = 170 → ¬ a = 171 → I' a i = I a i) ∧ (¬ (s = 1 ∨ k = 7) → I' 170 1 = Int32.ofNat (1 + (gw_V k v).length)) := by
  unfold cW_run_80
  rw [gp_169_4, Option.bind_some, go_169, Option.bind_some]
  have hok : cw_ok (gm_up I 169 4 s) := ⟨0, by omega, by simp [gm_up, h3]⟩
  rw [c_writeByte hok, Option.bind_some, go_169, Option.bind_some]
  by_cases c1 : s = 1
  · subst c1
    have e : cw_b (gm_up I 169 4 1) 15 = gm_up I 169 4 1 := by unfold cw_b; rw [if_neg (by simp [gm_up])]
    rw [e, cW_writeValue, gi_169_4, Option.bind_some, if_neg (by simp [gm_up]), Option.bind_some, gi_169_4, Option.bind_some, if_neg (by simp [gm_up]), Option.bind_some]
    refine ⟨gm_up I 169 4 1, by simp [gm_up], fun a i q1 _ _ => by simp [gm_up, q1], fun q => absurd (Or.inl rfl) q⟩
  · obtain rfl : s = 0 := by rcases hs with q | q; exact q; exact absurd q c1
    have L := cw_l_ok (I := gm_up I 169 4 0) (bs := [15]) (c := 0) (by simp [gm_up]) (by simp [gm_up, h3]) (by simp)
    obtain ⟨L1, L2, L3⟩ := L
    have L1 : cw_b (gm_up I 169 4 0) 15 169 4 = 0 := L1
    have L2 : cw_b (gm_up I 169 4 0) 15 170 1 = Int32.ofNat 1 := L2
    have L3 : ∀ a i, ¬ a = 170 → ¬ a = 171 → cw_b (gm_up I 169 4 0) 15 a i = gm_up I 169 4 0 a i := L3
    by_cases c2 : k = 7
    · subst c2
      rw [cW_writeValue, gi_169_4, Option.bind_some, if_pos L1, if_neg (by decide), if_pos rfl, gp_169_4, Option.bind_some, Option.bind_some, gi_169_4, Option.bind_some, if_neg (by simp [gm_up]), Option.bind_some]
      refine ⟨gm_up (cw_b (gm_up I 169 4 0) 15) 169 4 1, by rw [if_pos (Or.inr rfl)]; simp [gm_up], fun a i q1 q2 q3 => ?_, fun q => absurd (Or.inr rfl) q⟩
      rw [show gm_up (cw_b (gm_up I 169 4 0) 15) 169 4 1 a i = cw_b (gm_up I 169 4 0) 15 a i by simp [gm_up, q1], L3 a i q2 q3]
      simp [gm_up, q1]
    · have h6 : ¬ k = 6 := by rcases h5 with q | q; exact q; exact absurd q c1
      have hok2 := cw_ok_b (b := 15) hok
      rw [c_writeValue hok2 h6 c2, Option.bind_some]
      have M := cw_l_ok (I := cw_b (gm_up I 169 4 0) 15) (bs := gw_V k v) (c := 1) L1 L2 (by have := gw_V_len (k := k) (v := v); omega)
      obtain ⟨M1, M2, M3⟩ := M
      have M165 : cw_l (cw_b (gm_up I 169 4 0) 15) (gw_V k v) 165 1 = 0 := by
        rw [M3 165 1 (by decide) (by decide), L3 165 1 (by decide) (by decide)]; simp [gm_up, h2]
      rw [gi_169_4, Option.bind_some, if_pos M1, go_165, Option.bind_some, c0_free M165, Option.bind_some, if_neg (by decide), Option.bind_some, M1]
      refine ⟨_, by rw [if_neg (by simp [c2])], fun a i q1 q2 q3 => ?_, fun _ => M2⟩
      rw [M3 a i q2 q3, L3 a i q2 q3]; simp [gm_up, q1]
theorem c0_run {k v : Int32} (h1 : I 1 1 = 0) (h2 : I 165 1 = 0) : ∃ I', cW_run (some 169) (some 1) (some 165) k v (gm_mk I J z) = some (gw_R k v, gm_mk I' J z) ∧ (∀ a i, ¬ a = 169 → ¬ a = 170 → ¬ a = 171 → ¬ a = 172 → I' a i = I a i) ∧ (gw_R k v = 0 → I' 170 1 = Int32.ofNat (1 + (gw_V k v).length)) := by
  unfold cW_run
  rw [gr_169_0, Option.bind_some, gp_170_1, Option.bind_some, gp_169_2, Option.bind_some]
  show ∃ I', cW_run_16 (1968 + 32) _ _ _ _ _ (Int32.ofNat 0) _ = _ ∧ _
  rw [c_fill 32 0 1968 _ rfl]
  have F : ∀ a i, ¬ a = 169 → ¬ a = 170 → ¬ a = 172 → gm_fill (gm_up (gm_up I 170 1 0) 169 2 0) 172 0 32 (-1) a i = I a i := fun a i q1 q2 q3 => by simp [gm_fill, gm_up, q1, q2, q3]
  have F170 : gm_fill (gm_up (gm_up I 170 1 0) 169 2 0) 172 0 32 (-1) 170 1 = 0 := by simp [gm_fill, gm_up]
  generalize gm_fill (gm_up (gm_up I 170 1 0) 169 2 0) 172 0 32 (-1) = I2 at F F170
  have g1 : I2 1 1 = 0 := by rw [F 1 1 (by decide) (by decide) (by decide), h1]
  have g2 : I2 165 1 = 0 := by rw [F 165 1 (by decide) (by decide) (by decide), h2]
  rw [cW_run_16, if_neg (by decide), go_1, Option.bind_some, c0_isValue g1, Option.bind_some]
  by_cases c1 : gw_ok k v = 0
  · rw [if_pos c1]
    unfold cW_run_66 cW_run_67
    rw [if_pos rfl]
    obtain ⟨I', e, f1, f2⟩ := c0_run80 (I := I2) (J := J) (z := z) (k := k) (v := v) (s := 1) g1 g2 F170 (Or.inr rfl) (Or.inr rfl)
    refine ⟨I', by rw [e, if_pos (Or.inl rfl), gw_R, if_pos (Or.inl c1)], fun a i q1 q2 q3 q4 => by rw [f1 a i q1 q2 q3, F a i q1 q2 q4], fun q => ?_⟩
    rw [gw_R, if_pos (Or.inl c1)] at q
    exact absurd q (by decide)
  · rw [if_neg c1, go_165, Option.bind_some, c0_free g2, Option.bind_some, if_neg (by decide), Option.bind_some, c0_none g2, Option.bind_some, if_neg (by decide)]
    unfold cW_run_67
    rw [if_neg (by decide)]
    have h6 : ¬ k = 6 := fun q => c1 (by rw [q]; rfl)
    obtain ⟨I', e, f1, f2⟩ := c0_run80 (I := I2) (J := J) (z := z) (k := k) (v := v) (s := 0) g1 g2 F170 (Or.inl h6) (Or.inl rfl)
    have e2 : (if (0 : Int32) = 1 ∨ k = 7 then (1 : Int32) else 0) = gw_R k v := by
      unfold gw_R
      by_cases c2 : k = 7
      · rw [if_pos (Or.inr c2), if_pos (Or.inr c2)]
      · rw [if_neg (by simp [c2]), if_neg (by simp [c1, c2])]
    refine ⟨I', by rw [e, e2], fun a i q1 q2 q3 q4 => by rw [f1 a i q1 q2 q3, F a i q1 q2 q4], fun q => f2 (fun q2 => ?_)⟩
    rw [← e2, if_pos q2] at q
    exact absurd q (by decide)
/-- write, as the law calls it -/
theorem c0_write {k v : Int32} (h1 : I 1 1 = 0) (h2 : I 165 1 = 0) : ∃ I' J' z', lw_write (some 0) k v (some 211) (gm_mk I J z) = some (gw_R k v, gm_mk I' J' z') ∧ (∀ a i, 188 ≤ a → I' a i = I a i) ∧ z'.length ≤ z.length + 1 ∧ (gw_R k v = 0 → J' 211 0 = Int32.toInt64 (Int32.ofNat (1 + (gw_V k v).length))) := by
  obtain ⟨I1, e1, f1, g1⟩ := c0_run (I := I) (J := J) (z := z) (k := k) (v := v) h1 h2
  unfold lw_write
  rw [go_0, Option.bind_some]
  unfold cG_write
  rw [gr_0_3, Option.bind_some, gr_0_0, Option.bind_some, gr_0_2, Option.bind_some, go_169, Option.bind_some, e1, Option.bind_some]
  by_cases c : gw_R k v = 0
  · rw [if_pos c, gr_0_2, Option.bind_some, gr_0_0, Option.bind_some, go_165, Option.bind_some, c0_handOver (by rw [f1 165 1 (by decide) (by decide) (by decide) (by decide), h2]), Option.bind_some, gr_0_1, Option.bind_some, gr_0_3, Option.bind_some, gr_169_0, Option.bind_some, go_163, Option.bind_some]
    have hn : (gm_up I1 165 4 0) 170 1 = Int32.ofNat (1 + (gw_V k v).length) := by simp only [gm_up]; rw [if_neg (by decide)]; exact g1 c
    have hlen := gw_V_len (k := k) (v := v)
    unfold cB_becomeLike
    rw [gr_170_0, Option.bind_some, gr_163_0, Option.bind_some, gi_170_1, Option.bind_some, hn, gm_cp (a0 := 171) (a := 164) (n0 := 300) (n1 := 300) (by decide) (by decide) rfl rfl (by omega) (by omega) (by omega), Option.bind_some, gi_170_1, Option.bind_some, gp_163_1, Option.bind_some, Option.bind_some]
    unfold cG_write_47
    rw [gr_0_2, Option.bind_some, gp_165_1, Option.bind_some]
    dsimp only
    rw [c, if_neg (by decide), if_neg (by decide), gr_0_1, Option.bind_some, gi_163_1, Option.bind_some, Option.bind_some]
    dsimp only
    rw [gb_211 (by decide) (by decide), Option.bind_some]
    refine ⟨_, _, _, rfl, fun a i ha => ?_, by omega, fun _ => ?_⟩
    · have n1 : ¬ a = 165 := by omega
      have n2 : ¬ a = 163 := by omega
      have n3 : ¬ a = 164 := by omega
      simp only [gm_up, gm_copy, n1, n2, n3, false_and, if_false]
      exact f1 a i (by omega) (by omega) (by omega) (by omega)
    · have e3 : gm_copy (gm_up I1 165 4 0) 171 164 0 (1 + (gw_V k v).length) 170 1 = Int32.ofNat (1 + (gw_V k v).length) := by
        unfold gm_copy; rw [if_neg (by intro q; exact absurd q.1 (by decide))]; exact hn
      show gm_uj J 211 _ _ 211 0 = _
      unfold gm_uj
      rw [if_pos ⟨rfl, rfl⟩]
      congr 1
  · rw [if_neg c]
    have c1 : gw_R k v = 1 := by
      unfold gw_R at c ⊢
      split
      · rfl
      · rename_i q; rw [if_neg q] at c; exact absurd rfl c
    unfold cG_write_47
    rw [gr_0_2, Option.bind_some, gp_165_1, Option.bind_some, c1, if_pos rfl, gm_len, gm_thr, Option.bind_some]
    dsimp only
    rw [gm_exc, Option.bind_some]
    refine ⟨_, _, _, rfl, fun a i ha => ?_, by simp, fun q => absurd q (by decide)⟩
    have n1 : ¬ a = 165 := by omega
    simp only [gm_up, n1, false_and, if_false]
    exact f1 a i (by omega) (by omega) (by omega) (by omega)
end F
