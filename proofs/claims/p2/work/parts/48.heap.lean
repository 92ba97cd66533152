/-! the heap that the constructors make: its shape stands, its numbers are the functions I (ints) and J (longs), by cell and place; z is what was thrown since -/
def gm_lay (a : Nat) : Nat × List (Nat × Nat) :=
  if a < 3 then (match a with
    | 0 => (0, [(0, 1), (0, 163), (0, 165), (0, 169), (0, 187), (1, 0)])
    | 1 => (1, [(0, 2), (1, 0)])
    | _ => (103, (List.range 32).map fun i => (0, 3 + 5 * i)))
  else if a < 163 then (if (a - 3) % 5 = 0 then (2, [(0, a + 1), (0, a + 2), (0, a + 3), (0, a + 4), (1, 0), (1, 0), (1, 0), (1, 0), (1, 0), (1, 0), (2, 0)]) else (100, List.replicate 8 (1, 0)))
  else if a < 188 then (match a - 163 with
    | 0 => (3, [(0, 164), (1, 0)])
    | 1 => (100, List.replicate 300 (1, 0))
    | 2 => (4, [(0, 166), (1, 0), (0, 167), (0, 168), (1, 0)])
    | 3 => (100, List.replicate 4 (1, 0))
    | 4 => (101, List.replicate 4 (2, 0))
    | 5 => (100, List.replicate 4 (1, 0))
    | 6 => (5, [(0, 170), (0, 172), (1, 0), (0, 173), (1, 0)])
    | 7 => (3, [(0, 171), (1, 0)])
    | 8 => (100, List.replicate 300 (1, 0))
    | 9 => (100, List.replicate 32 (1, 0))
    | 10 => (104, (List.range 13).map fun i => (0, 174 + i))
    | 24 => (6, List.replicate 7 (1, 0))
    | _ => (100, List.replicate 6 (1, 0)))
  else (match a - 188 with
    | 0 => (7, [(1, 0), (1, 0), (0, 189), (0, 190), (0, 191), (0, 192), (0, 193), (0, 194), (0, 195), (0, 196), (1, 0), (0, 197), (1, 0), (0, 198), (0, 199), (1, 0), (0, 200), (1, 0), (1, 0), (0, 201), (0, 202), (0, 203), (0, 204), (0, 205), (0, 206), (0, 207), (1, 0), (1, 0), (0, 208), (1, 0), (0, 209), (1, 0), (1, 0), (1, 0), (0, 210), (1, 0), (1, 0)])
    | 1 => (100, List.replicate 32 (1, 0))
    | 2 => (100, List.replicate 32 (1, 0))
    | 3 => (102, List.replicate 32 (1, 0))
    | 4 => (101, List.replicate 32 (2, 0))
    | 5 => (100, List.replicate 256 (1, 0))
    | 6 => (100, List.replicate 256 (1, 0))
    | 7 => (100, List.replicate 256 (1, 0))
    | 8 => (100, List.replicate 256 (1, 0))
    | 9 => (100, List.replicate 4 (1, 0))
    | 10 => (100, List.replicate 4 (1, 0))
    | 11 => (100, List.replicate 32 (1, 0))
    | 12 => (100, List.replicate 300 (1, 0))
    | 13 => (100, List.replicate 14 (1, 0))
    | 14 => (100, List.replicate 14 (1, 0))
    | 15 => (100, List.replicate 14 (1, 0))
    | 16 => (100, List.replicate 84 (1, 0))
    | 17 => (100, List.replicate 14 (1, 0))
    | 18 => (100, List.replicate 14 (1, 0))
    | 19 => (100, List.replicate 14 (1, 0))
    | 20 => (100, List.replicate 300 (1, 0))
    | 21 => (100, List.replicate 32 (1, 0))
    | 22 => (100, List.replicate 32 (1, 0))
    | _ => (101, List.replicate 1 (2, 0)))
def gm_v (I : Nat → Nat → Int32) (J : Nat → Nat → Int64) (a i : Nat) (s : Nat × Nat) : Value := match s.1 with
  | 0 => .ref s.2
  | 1 => .int (I a i)
  | _ => .long (J a i)
def gm_cell (I : Nat → Nat → Int32) (J : Nat → Nat → Int64) (a : Nat) : gx_C := ((gm_lay a).1, (gm_lay a).2.mapIdx (gm_v I J a))
def gm_mk (I : Nat → Nat → Int32) (J : Nat → Nat → Int64) (z : gx_H) : gx_H := (List.range 212).map (gm_cell I J) ++ z
/-- one number written -/
def gm_up (I : Nat → Nat → Int32) (a i : Nat) (v : Int32) : Nat → Nat → Int32 := fun b k => if b = a ∧ k = i then v else I b k
def gm_uj (J : Nat → Nat → Int64) (a i : Nat) (v : Int64) : Nat → Nat → Int64 := fun b k => if b = a ∧ k = i then v else J b k
theorem gm_len {I : Nat → Nat → Int32} {J : Nat → Nat → Int64} {z : gx_H} : (gm_mk I J z).length = 212 + z.length := by simp [gm_mk]
theorem gm_at {I : Nat → Nat → Int32} {J : Nat → Nat → Int64} {z : gx_H} {a : Nat} (h : a < 212) : (gm_mk I J z)[a]? = some (gm_cell I J a) := by
  unfold gm_mk
  rw [List.getElem?_append_left (by simpa using h)]
  simp [h]
theorem gm_set {I I' : Nat → Nat → Int32} {J J' : Nat → Nat → Int64} {z : gx_H} {a : Nat} {c : gx_C} (h : a < 212) (h1 : gm_cell I' J' a = c) (h2 : ∀ b, ¬ b = a → gm_cell I' J' b = gm_cell I J b) : (gm_mk I J z).set a c = gm_mk I' J' z := by
  unfold gm_mk
  rw [List.set_append_left _ _ (by simpa using h)]
  congr 1
  apply List.ext_getElem?
  intro k
  rw [List.getElem?_set]
  by_cases hk : a = k
  · subst hk; simp [h, h1]
  · rw [if_neg hk]
    by_cases hk2 : k < 212
    · simp [hk2, h2 k (fun q => hk q.symm)]
    · simp [hk2]
theorem gm_cell_up {I : Nat → Nat → Int32} {J : Nat → Nat → Int64} {a i r : Nat} {v : Int32} (h : (gm_lay a).2[i]? = some (1, r)) : gm_cell (gm_up I a i v) J a = ((gm_lay a).1, (gm_cell I J a).2.set i (.int v)) := by
  unfold gm_cell
  congr 1
  apply List.ext_getElem?
  intro k
  rw [List.getElem?_set, List.getElem?_mapIdx, List.getElem?_mapIdx]
  by_cases hk : i = k
  · subst hk
    rw [h, if_pos rfl]
    have hl : i < (gm_lay a).2.length := by
      rcases Nat.lt_or_ge i (gm_lay a).2.length with q | q
      · exact q
      · rw [List.getElem?_eq_none q] at h; cases h
    simp [hl, gm_v, gm_up]
  · rw [if_neg hk]
    cases (gm_lay a).2[k]? with
    | none => rfl
    | some s =>
      simp only [Option.map_some]
      congr 1
      unfold gm_v gm_up
      split <;> first | rfl | (simp [show ¬ k = i from fun q => hk q.symm])
theorem gm_cell_uj {I : Nat → Nat → Int32} {J : Nat → Nat → Int64} {a i r : Nat} {v : Int64} (h : (gm_lay a).2[i]? = some (2, r)) : gm_cell I (gm_uj J a i v) a = ((gm_lay a).1, (gm_cell I J a).2.set i (.long v)) := by
  unfold gm_cell
  congr 1
  apply List.ext_getElem?
  intro k
  rw [List.getElem?_set, List.getElem?_mapIdx, List.getElem?_mapIdx]
  by_cases hk : i = k
  · subst hk
    rw [h, if_pos rfl]
    have hl : i < (gm_lay a).2.length := by
      rcases Nat.lt_or_ge i (gm_lay a).2.length with q | q
      · exact q
      · rw [List.getElem?_eq_none q] at h; cases h
    simp [hl, gm_v, gm_uj]
  · rw [if_neg hk]
    cases (gm_lay a).2[k]? with
    | none => rfl
    | some s =>
      simp only [Option.map_some]
      congr 1
      unfold gm_v gm_uj
      split <;> first | rfl | (simp [show ¬ k = i from fun q => hk q.symm])
theorem gm_cell_up2 {I : Nat → Nat → Int32} {J : Nat → Nat → Int64} {a i b : Nat} {v : Int32} (h : ¬ b = a) : gm_cell (gm_up I a i v) J b = gm_cell I J b := by
  unfold gm_cell
  congr 2
  funext k s
  unfold gm_v gm_up
  simp [h]
theorem gm_cell_uj2 {I : Nat → Nat → Int32} {J : Nat → Nat → Int64} {a i b : Nat} {v : Int64} (h : ¬ b = a) : gm_cell I (gm_uj J a i v) b = gm_cell I J b := by
  unfold gm_cell
  congr 2
  funext k s
  unfold gm_v gm_uj
  simp [h]
section GM
variable {I : Nat → Nat → Int32} {J : Nat → Nat → Int64} {z : gx_H}
theorem gm_ob {a c : Nat} (h : a < 212) (hc : (gm_lay a).1 = c) : gx_ob (gm_mk I J z) a c = some (gm_cell I J a).2 := by
  unfold gx_ob
  rw [gm_at h]
  show (if (gm_lay a).1 = c then _ else _) = _
  rw [if_pos hc]
theorem gm_is {a c : Nat} (h : Nat.blt a 212 = true) (hc : (gm_lay a).1 = c) : gv_is (gm_mk I J z) (some a) c = some a := by
  show (gx_ob _ a c).map _ = _
  rw [gm_ob (gv_lt h) hc]; rfl
theorem gm_get {a i r k : Nat} (hs : (gm_lay a).2[i]? = some (k, r)) : (gm_cell I J a).2[i]? = some (gm_v I J a i (k, r)) := by
  show ((gm_lay a).2.mapIdx _)[i]? = _
  rw [List.getElem?_mapIdx, hs]; rfl
theorem gm_gI {a c i r : Nat} (h : Nat.blt a 212 = true) (hc : (gm_lay a).1 = c) (hs : (gm_lay a).2[i]? = some (1, r)) : gv_gI (gm_mk I J z) (some a) c i = some (I a i) := by
  show (((gx_ob _ a c).bind _)).bind _ = _
  rw [gm_ob (gv_lt h) hc]
  show ((gm_cell I J a).2[i]?).bind _ = _
  rw [gm_get hs]; rfl
theorem gm_gJ {a c i r : Nat} (h : Nat.blt a 212 = true) (hc : (gm_lay a).1 = c) (hs : (gm_lay a).2[i]? = some (2, r)) : gv_gJ (gm_mk I J z) (some a) c i = some (J a i) := by
  show (((gx_ob _ a c).bind _)).bind _ = _
  rw [gm_ob (gv_lt h) hc]
  show ((gm_cell I J a).2[i]?).bind _ = _
  rw [gm_get hs]; rfl
theorem gm_gR {a c i r : Nat} (h : Nat.blt a 212 = true) (hc : (gm_lay a).1 = c) (hs : (gm_lay a).2[i]? = some (0, r)) : gv_gR (gm_mk I J z) (some a) c i = some (some r) := by
  show (((gx_ob _ a c).bind _)).bind _ = _
  rw [gm_ob (gv_lt h) hc]
  show ((gm_cell I J a).2[i]?).bind _ = _
  rw [gm_get hs]; rfl
theorem gm_lt {a i r k : Nat} (hs : (gm_lay a).2[i]? = some (k, r)) : i < (gm_cell I J a).2.length := by
  have hl : i < (gm_lay a).2.length := by
    rcases Nat.lt_or_ge i (gm_lay a).2.length with q | q
    · exact q
    · rw [List.getElem?_eq_none q] at hs; cases hs
  simpa [gm_cell] using hl
theorem gm_pI {a c i r : Nat} {v : Int32} (h : Nat.blt a 212 = true) (hc : (gm_lay a).1 = c) (hs : (gm_lay a).2[i]? = some (1, r)) : gv_pV (gm_mk I J z) (some a) c i (.int v) = some (gm_mk (gm_up I a i v) J z) := by
  show (gx_ob _ a c).bind _ = _
  rw [gm_ob (gv_lt h) hc]
  show (if i < (gm_cell I J a).2.length then _ else _) = _
  rw [if_pos (gm_lt hs), gm_set (gv_lt h) (by rw [gm_cell_up hs, hc]) (fun b hb => gm_cell_up2 hb)]
theorem gm_pJ {a c i r : Nat} {v : Int64} (h : Nat.blt a 212 = true) (hc : (gm_lay a).1 = c) (hs : (gm_lay a).2[i]? = some (2, r)) : gv_pV (gm_mk I J z) (some a) c i (.long v) = some (gm_mk I (gm_uj J a i v) z) := by
  show (gx_ob _ a c).bind _ = _
  rw [gm_ob (gv_lt h) hc]
  show (if i < (gm_cell I J a).2.length then _ else _) = _
  rw [if_pos (gm_lt hs), gm_set (gv_lt h) (by rw [gm_cell_uj hs, hc]) (fun b hb => gm_cell_uj2 hb)]
theorem gm_rd {a t r k : Nat} {i : Int32} (h : a < 212) (hc : (gm_lay a).1 = t) (h0 : ¬ i < 0) (hs : (gm_lay a).2[i.toNatClampNeg]? = some (k, r)) : gx_rd (gm_mk I J z) a t i = some (gm_v I J a i.toNatClampNeg (k, r)) := by
  unfold gx_rd
  rw [gm_at h]
  show (if (gm_cell I J a).1 = t ∧ _ then _ else _) = _
  rw [if_pos ⟨hc, h0⟩, gm_get hs]
theorem gm_lI {a r : Nat} {i : Int32} (h : Nat.blt a 212 = true) (hc : (gm_lay a).1 = 100) (h0 : ¬ i < 0) (hs : (gm_lay a).2[i.toNatClampNeg]? = some (1, r)) : gv_lI (gm_mk I J z) (some a) i = some (I a i.toNatClampNeg) := by
  show (gx_rd _ _ _ _).bind _ = _
  rw [gm_rd (gv_lt h) hc h0 hs]; rfl
theorem gm_lZ {a r : Nat} {i : Int32} (h : Nat.blt a 212 = true) (hc : (gm_lay a).1 = 102) (h0 : ¬ i < 0) (hs : (gm_lay a).2[i.toNatClampNeg]? = some (1, r)) : gv_lZ (gm_mk I J z) (some a) i = some (I a i.toNatClampNeg) := by
  show (gx_rd _ _ _ _).bind _ = _
  rw [gm_rd (gv_lt h) hc h0 hs]; rfl
theorem gm_lJ {a r : Nat} {i : Int32} (h : Nat.blt a 212 = true) (hc : (gm_lay a).1 = 101) (h0 : ¬ i < 0) (hs : (gm_lay a).2[i.toNatClampNeg]? = some (2, r)) : gv_lJ (gm_mk I J z) (some a) i = some (J a i.toNatClampNeg) := by
  show (gx_rd _ _ _ _).bind _ = _
  rw [gm_rd (gv_lt h) hc h0 hs]; rfl
theorem gm_lT {a r : Nat} {i : Int32} (h : Nat.blt a 212 = true) (hc : (gm_lay a).1 = 103) (h0 : ¬ i < 0) (hs : (gm_lay a).2[i.toNatClampNeg]? = some (0, r)) : gv_lT (gm_mk I J z) (some a) i = some (some r) := by
  show (gx_rd _ _ _ _).bind _ = _
  rw [gm_rd (gv_lt h) hc h0 hs]; rfl
theorem gm_lA {a r : Nat} {i : Int32} (h : Nat.blt a 212 = true) (hc : (gm_lay a).1 = 104) (h0 : ¬ i < 0) (hs : (gm_lay a).2[i.toNatClampNeg]? = some (0, r)) : gv_lA (gm_mk I J z) (some a) i = some (some r) := by
  show (gx_rd _ _ _ _).bind _ = _
  rw [gm_rd (gv_lt h) hc h0 hs]; rfl
theorem gm_wr {a t : Nat} {i : Int32} {v : Value} {I' : Nat → Nat → Int32} {J' : Nat → Nat → Int64} (h : a < 212) (hc : (gm_lay a).1 = t) (h0 : ¬ i < 0) (hl : i.toNatClampNeg < (gm_cell I J a).2.length) (h1 : gm_cell I' J' a = (t, (gm_cell I J a).2.set i.toNatClampNeg v)) (h2 : ∀ b, ¬ b = a → gm_cell I' J' b = gm_cell I J b) : gx_wr (gm_mk I J z) a t i v = some (gm_mk I' J' z) := by
  unfold gx_wr
  rw [gm_at h]
  show (if (gm_cell I J a).1 = t ∧ _ then _ else _) = _
  rw [if_pos ⟨hc, h0, hl⟩, gm_set h h1 h2]
theorem gm_wI {a r : Nat} {i v : Int32} (h : Nat.blt a 212 = true) (hc : (gm_lay a).1 = 100) (h0 : ¬ i < 0) (hs : (gm_lay a).2[i.toNatClampNeg]? = some (1, r)) : gv_wI (gm_mk I J z) (some a) i v = some (gm_mk (gm_up I a i.toNatClampNeg v) J z) :=
  gm_wr (gv_lt h) hc h0 (gm_lt hs) (by rw [gm_cell_up hs, hc]) (fun b hb => gm_cell_up2 hb)
theorem gm_wZ {a r : Nat} {i v : Int32} (h : Nat.blt a 212 = true) (hc : (gm_lay a).1 = 102) (h0 : ¬ i < 0) (hs : (gm_lay a).2[i.toNatClampNeg]? = some (1, r)) : gv_wZ (gm_mk I J z) (some a) i v = some (gm_mk (gm_up I a i.toNatClampNeg (v &&& 1)) J z) :=
  gm_wr (gv_lt h) hc h0 (gm_lt hs) (by rw [gm_cell_up hs, hc]) (fun b hb => gm_cell_up2 hb)
theorem gm_wJ {a r : Nat} {i : Int32} {v : Int64} (h : Nat.blt a 212 = true) (hc : (gm_lay a).1 = 101) (h0 : ¬ i < 0) (hs : (gm_lay a).2[i.toNatClampNeg]? = some (2, r)) : gv_wJ (gm_mk I J z) (some a) i v = some (gm_mk I (gm_uj J a i.toNatClampNeg v) z) :=
  gm_wr (gv_lt h) hc h0 (gm_lt hs) (by rw [gm_cell_uj hs, hc]) (fun b hb => gm_cell_uj2 hb)
theorem gm_rep {n i : Nat} {s : Nat × Nat} (h : i < n) : (List.replicate n s)[i]? = some s := by simp [h]
theorem gm_thr (e : gx_C) : gm_mk I J z ++ [e] = gm_mk I J (z ++ [e]) := by simp [gm_mk]
theorem gm_exc {e : Nat} : (gm_mk I J (z ++ [(e, [])]))[212 + z.length]? = some (e, []) := by
  rw [← gm_thr, List.getElem?_append_right (by rw [gm_len]; exact Nat.le_refl _), gm_len]; simp
theorem go_0 : gv_is (gm_mk I J z) (some 0) 0 = some 0 := gm_is rfl rfl
theorem gr_0_0 : gv_gR (gm_mk I J z) (some 0) 0 0 = some (some 1) := gm_gR rfl rfl rfl
theorem gr_0_1 : gv_gR (gm_mk I J z) (some 0) 0 1 = some (some 163) := gm_gR rfl rfl rfl
theorem gr_0_2 : gv_gR (gm_mk I J z) (some 0) 0 2 = some (some 165) := gm_gR rfl rfl rfl
theorem gr_0_3 : gv_gR (gm_mk I J z) (some 0) 0 3 = some (some 169) := gm_gR rfl rfl rfl
theorem gr_0_4 : gv_gR (gm_mk I J z) (some 0) 0 4 = some (some 187) := gm_gR rfl rfl rfl
theorem gi_0_5 : gv_gI (gm_mk I J z) (some 0) 0 5 = some (I 0 5) := gm_gI rfl rfl rfl
theorem gp_0_5 {v : Int32} : gv_pV (gm_mk I J z) (some 0) 0 5 (.int v) = some (gm_mk (gm_up I 0 5 v) J z) := gm_pI rfl rfl rfl
theorem go_1 : gv_is (gm_mk I J z) (some 1) 1 = some 1 := gm_is rfl rfl
theorem gr_1_0 : gv_gR (gm_mk I J z) (some 1) 1 0 = some (some 2) := gm_gR rfl rfl rfl
theorem gi_1_1 : gv_gI (gm_mk I J z) (some 1) 1 1 = some (I 1 1) := gm_gI rfl rfl rfl
theorem gp_1_1 {v : Int32} : gv_pV (gm_mk I J z) (some 1) 1 1 (.int v) = some (gm_mk (gm_up I 1 1 v) J z) := gm_pI rfl rfl rfl
theorem go_163 : gv_is (gm_mk I J z) (some 163) 3 = some 163 := gm_is rfl rfl
theorem gr_163_0 : gv_gR (gm_mk I J z) (some 163) 3 0 = some (some 164) := gm_gR rfl rfl rfl
theorem gi_163_1 : gv_gI (gm_mk I J z) (some 163) 3 1 = some (I 163 1) := gm_gI rfl rfl rfl
theorem gp_163_1 {v : Int32} : gv_pV (gm_mk I J z) (some 163) 3 1 (.int v) = some (gm_mk (gm_up I 163 1 v) J z) := gm_pI rfl rfl rfl
theorem go_165 : gv_is (gm_mk I J z) (some 165) 4 = some 165 := gm_is rfl rfl
theorem gr_165_0 : gv_gR (gm_mk I J z) (some 165) 4 0 = some (some 166) := gm_gR rfl rfl rfl
theorem gi_165_1 : gv_gI (gm_mk I J z) (some 165) 4 1 = some (I 165 1) := gm_gI rfl rfl rfl
theorem gp_165_1 {v : Int32} : gv_pV (gm_mk I J z) (some 165) 4 1 (.int v) = some (gm_mk (gm_up I 165 1 v) J z) := gm_pI rfl rfl rfl
theorem gr_165_2 : gv_gR (gm_mk I J z) (some 165) 4 2 = some (some 167) := gm_gR rfl rfl rfl
theorem gr_165_3 : gv_gR (gm_mk I J z) (some 165) 4 3 = some (some 168) := gm_gR rfl rfl rfl
theorem gi_165_4 : gv_gI (gm_mk I J z) (some 165) 4 4 = some (I 165 4) := gm_gI rfl rfl rfl
theorem gp_165_4 {v : Int32} : gv_pV (gm_mk I J z) (some 165) 4 4 (.int v) = some (gm_mk (gm_up I 165 4 v) J z) := gm_pI rfl rfl rfl
theorem go_169 : gv_is (gm_mk I J z) (some 169) 5 = some 169 := gm_is rfl rfl
theorem gr_169_0 : gv_gR (gm_mk I J z) (some 169) 5 0 = some (some 170) := gm_gR rfl rfl rfl
theorem gr_169_1 : gv_gR (gm_mk I J z) (some 169) 5 1 = some (some 172) := gm_gR rfl rfl rfl
theorem gi_169_2 : gv_gI (gm_mk I J z) (some 169) 5 2 = some (I 169 2) := gm_gI rfl rfl rfl
theorem gp_169_2 {v : Int32} : gv_pV (gm_mk I J z) (some 169) 5 2 (.int v) = some (gm_mk (gm_up I 169 2 v) J z) := gm_pI rfl rfl rfl
theorem gr_169_3 : gv_gR (gm_mk I J z) (some 169) 5 3 = some (some 173) := gm_gR rfl rfl rfl
theorem gi_169_4 : gv_gI (gm_mk I J z) (some 169) 5 4 = some (I 169 4) := gm_gI rfl rfl rfl
theorem gp_169_4 {v : Int32} : gv_pV (gm_mk I J z) (some 169) 5 4 (.int v) = some (gm_mk (gm_up I 169 4 v) J z) := gm_pI rfl rfl rfl
theorem go_170 : gv_is (gm_mk I J z) (some 170) 3 = some 170 := gm_is rfl rfl
theorem gr_170_0 : gv_gR (gm_mk I J z) (some 170) 3 0 = some (some 171) := gm_gR rfl rfl rfl
theorem gi_170_1 : gv_gI (gm_mk I J z) (some 170) 3 1 = some (I 170 1) := gm_gI rfl rfl rfl
theorem gp_170_1 {v : Int32} : gv_pV (gm_mk I J z) (some 170) 3 1 (.int v) = some (gm_mk (gm_up I 170 1 v) J z) := gm_pI rfl rfl rfl
theorem go_187 : gv_is (gm_mk I J z) (some 187) 6 = some 187 := gm_is rfl rfl
theorem gi_187_0 : gv_gI (gm_mk I J z) (some 187) 6 0 = some (I 187 0) := gm_gI rfl rfl rfl
theorem gp_187_0 {v : Int32} : gv_pV (gm_mk I J z) (some 187) 6 0 (.int v) = some (gm_mk (gm_up I 187 0 v) J z) := gm_pI rfl rfl rfl
theorem gi_187_1 : gv_gI (gm_mk I J z) (some 187) 6 1 = some (I 187 1) := gm_gI rfl rfl rfl
theorem gp_187_1 {v : Int32} : gv_pV (gm_mk I J z) (some 187) 6 1 (.int v) = some (gm_mk (gm_up I 187 1 v) J z) := gm_pI rfl rfl rfl
theorem gi_187_2 : gv_gI (gm_mk I J z) (some 187) 6 2 = some (I 187 2) := gm_gI rfl rfl rfl
theorem gp_187_2 {v : Int32} : gv_pV (gm_mk I J z) (some 187) 6 2 (.int v) = some (gm_mk (gm_up I 187 2 v) J z) := gm_pI rfl rfl rfl
theorem gi_187_3 : gv_gI (gm_mk I J z) (some 187) 6 3 = some (I 187 3) := gm_gI rfl rfl rfl
theorem gp_187_3 {v : Int32} : gv_pV (gm_mk I J z) (some 187) 6 3 (.int v) = some (gm_mk (gm_up I 187 3 v) J z) := gm_pI rfl rfl rfl
theorem gi_187_4 : gv_gI (gm_mk I J z) (some 187) 6 4 = some (I 187 4) := gm_gI rfl rfl rfl
theorem gp_187_4 {v : Int32} : gv_pV (gm_mk I J z) (some 187) 6 4 (.int v) = some (gm_mk (gm_up I 187 4 v) J z) := gm_pI rfl rfl rfl
theorem gi_187_5 : gv_gI (gm_mk I J z) (some 187) 6 5 = some (I 187 5) := gm_gI rfl rfl rfl
theorem gp_187_5 {v : Int32} : gv_pV (gm_mk I J z) (some 187) 6 5 (.int v) = some (gm_mk (gm_up I 187 5 v) J z) := gm_pI rfl rfl rfl
theorem gi_187_6 : gv_gI (gm_mk I J z) (some 187) 6 6 = some (I 187 6) := gm_gI rfl rfl rfl
theorem gp_187_6 {v : Int32} : gv_pV (gm_mk I J z) (some 187) 6 6 (.int v) = some (gm_mk (gm_up I 187 6 v) J z) := gm_pI rfl rfl rfl
theorem go_188 : gv_is (gm_mk I J z) (some 188) 7 = some 188 := gm_is rfl rfl
theorem gi_188_0 : gv_gI (gm_mk I J z) (some 188) 7 0 = some (I 188 0) := gm_gI rfl rfl rfl
theorem gp_188_0 {v : Int32} : gv_pV (gm_mk I J z) (some 188) 7 0 (.int v) = some (gm_mk (gm_up I 188 0 v) J z) := gm_pI rfl rfl rfl
theorem gi_188_1 : gv_gI (gm_mk I J z) (some 188) 7 1 = some (I 188 1) := gm_gI rfl rfl rfl
theorem gp_188_1 {v : Int32} : gv_pV (gm_mk I J z) (some 188) 7 1 (.int v) = some (gm_mk (gm_up I 188 1 v) J z) := gm_pI rfl rfl rfl
theorem gr_188_2 : gv_gR (gm_mk I J z) (some 188) 7 2 = some (some 189) := gm_gR rfl rfl rfl
theorem gr_188_3 : gv_gR (gm_mk I J z) (some 188) 7 3 = some (some 190) := gm_gR rfl rfl rfl
theorem gr_188_4 : gv_gR (gm_mk I J z) (some 188) 7 4 = some (some 191) := gm_gR rfl rfl rfl
theorem gr_188_5 : gv_gR (gm_mk I J z) (some 188) 7 5 = some (some 192) := gm_gR rfl rfl rfl
theorem gr_188_6 : gv_gR (gm_mk I J z) (some 188) 7 6 = some (some 193) := gm_gR rfl rfl rfl
theorem gr_188_7 : gv_gR (gm_mk I J z) (some 188) 7 7 = some (some 194) := gm_gR rfl rfl rfl
theorem gr_188_8 : gv_gR (gm_mk I J z) (some 188) 7 8 = some (some 195) := gm_gR rfl rfl rfl
theorem gr_188_9 : gv_gR (gm_mk I J z) (some 188) 7 9 = some (some 196) := gm_gR rfl rfl rfl
theorem gi_188_10 : gv_gI (gm_mk I J z) (some 188) 7 10 = some (I 188 10) := gm_gI rfl rfl rfl
theorem gp_188_10 {v : Int32} : gv_pV (gm_mk I J z) (some 188) 7 10 (.int v) = some (gm_mk (gm_up I 188 10 v) J z) := gm_pI rfl rfl rfl
theorem gr_188_11 : gv_gR (gm_mk I J z) (some 188) 7 11 = some (some 197) := gm_gR rfl rfl rfl
theorem gi_188_12 : gv_gI (gm_mk I J z) (some 188) 7 12 = some (I 188 12) := gm_gI rfl rfl rfl
theorem gp_188_12 {v : Int32} : gv_pV (gm_mk I J z) (some 188) 7 12 (.int v) = some (gm_mk (gm_up I 188 12 v) J z) := gm_pI rfl rfl rfl
theorem gr_188_13 : gv_gR (gm_mk I J z) (some 188) 7 13 = some (some 198) := gm_gR rfl rfl rfl
theorem gr_188_14 : gv_gR (gm_mk I J z) (some 188) 7 14 = some (some 199) := gm_gR rfl rfl rfl
theorem gi_188_15 : gv_gI (gm_mk I J z) (some 188) 7 15 = some (I 188 15) := gm_gI rfl rfl rfl
theorem gp_188_15 {v : Int32} : gv_pV (gm_mk I J z) (some 188) 7 15 (.int v) = some (gm_mk (gm_up I 188 15 v) J z) := gm_pI rfl rfl rfl
theorem gr_188_16 : gv_gR (gm_mk I J z) (some 188) 7 16 = some (some 200) := gm_gR rfl rfl rfl
theorem gi_188_17 : gv_gI (gm_mk I J z) (some 188) 7 17 = some (I 188 17) := gm_gI rfl rfl rfl
theorem gp_188_17 {v : Int32} : gv_pV (gm_mk I J z) (some 188) 7 17 (.int v) = some (gm_mk (gm_up I 188 17 v) J z) := gm_pI rfl rfl rfl
theorem gi_188_18 : gv_gI (gm_mk I J z) (some 188) 7 18 = some (I 188 18) := gm_gI rfl rfl rfl
theorem gp_188_18 {v : Int32} : gv_pV (gm_mk I J z) (some 188) 7 18 (.int v) = some (gm_mk (gm_up I 188 18 v) J z) := gm_pI rfl rfl rfl
theorem gr_188_19 : gv_gR (gm_mk I J z) (some 188) 7 19 = some (some 201) := gm_gR rfl rfl rfl
theorem gr_188_20 : gv_gR (gm_mk I J z) (some 188) 7 20 = some (some 202) := gm_gR rfl rfl rfl
theorem gr_188_21 : gv_gR (gm_mk I J z) (some 188) 7 21 = some (some 203) := gm_gR rfl rfl rfl
theorem gr_188_22 : gv_gR (gm_mk I J z) (some 188) 7 22 = some (some 204) := gm_gR rfl rfl rfl
theorem gr_188_23 : gv_gR (gm_mk I J z) (some 188) 7 23 = some (some 205) := gm_gR rfl rfl rfl
theorem gr_188_24 : gv_gR (gm_mk I J z) (some 188) 7 24 = some (some 206) := gm_gR rfl rfl rfl
theorem gr_188_25 : gv_gR (gm_mk I J z) (some 188) 7 25 = some (some 207) := gm_gR rfl rfl rfl
theorem gi_188_26 : gv_gI (gm_mk I J z) (some 188) 7 26 = some (I 188 26) := gm_gI rfl rfl rfl
theorem gp_188_26 {v : Int32} : gv_pV (gm_mk I J z) (some 188) 7 26 (.int v) = some (gm_mk (gm_up I 188 26 v) J z) := gm_pI rfl rfl rfl
theorem gi_188_27 : gv_gI (gm_mk I J z) (some 188) 7 27 = some (I 188 27) := gm_gI rfl rfl rfl
theorem gp_188_27 {v : Int32} : gv_pV (gm_mk I J z) (some 188) 7 27 (.int v) = some (gm_mk (gm_up I 188 27 v) J z) := gm_pI rfl rfl rfl
theorem gr_188_28 : gv_gR (gm_mk I J z) (some 188) 7 28 = some (some 208) := gm_gR rfl rfl rfl
theorem gi_188_29 : gv_gI (gm_mk I J z) (some 188) 7 29 = some (I 188 29) := gm_gI rfl rfl rfl
theorem gp_188_29 {v : Int32} : gv_pV (gm_mk I J z) (some 188) 7 29 (.int v) = some (gm_mk (gm_up I 188 29 v) J z) := gm_pI rfl rfl rfl
theorem gr_188_30 : gv_gR (gm_mk I J z) (some 188) 7 30 = some (some 209) := gm_gR rfl rfl rfl
theorem gi_188_31 : gv_gI (gm_mk I J z) (some 188) 7 31 = some (I 188 31) := gm_gI rfl rfl rfl
theorem gp_188_31 {v : Int32} : gv_pV (gm_mk I J z) (some 188) 7 31 (.int v) = some (gm_mk (gm_up I 188 31 v) J z) := gm_pI rfl rfl rfl
theorem gi_188_32 : gv_gI (gm_mk I J z) (some 188) 7 32 = some (I 188 32) := gm_gI rfl rfl rfl
theorem gp_188_32 {v : Int32} : gv_pV (gm_mk I J z) (some 188) 7 32 (.int v) = some (gm_mk (gm_up I 188 32 v) J z) := gm_pI rfl rfl rfl
theorem gi_188_33 : gv_gI (gm_mk I J z) (some 188) 7 33 = some (I 188 33) := gm_gI rfl rfl rfl
theorem gp_188_33 {v : Int32} : gv_pV (gm_mk I J z) (some 188) 7 33 (.int v) = some (gm_mk (gm_up I 188 33 v) J z) := gm_pI rfl rfl rfl
theorem gr_188_34 : gv_gR (gm_mk I J z) (some 188) 7 34 = some (some 210) := gm_gR rfl rfl rfl
theorem gi_188_35 : gv_gI (gm_mk I J z) (some 188) 7 35 = some (I 188 35) := gm_gI rfl rfl rfl
theorem gp_188_35 {v : Int32} : gv_pV (gm_mk I J z) (some 188) 7 35 (.int v) = some (gm_mk (gm_up I 188 35 v) J z) := gm_pI rfl rfl rfl
theorem gi_188_36 : gv_gI (gm_mk I J z) (some 188) 7 36 = some (I 188 36) := gm_gI rfl rfl rfl
theorem gp_188_36 {v : Int32} : gv_pV (gm_mk I J z) (some 188) 7 36 (.int v) = some (gm_mk (gm_up I 188 36 v) J z) := gm_pI rfl rfl rfl
theorem ga_164 {i : Int32} (h0 : ¬ i < 0) (h1 : i.toNatClampNeg < 300) : gv_lI (gm_mk I J z) (some 164) i = some (I 164 i.toNatClampNeg) := gm_lI rfl rfl h0 (gm_rep h1)
theorem gb_164 {i : Int32} {v : Int32} (h0 : ¬ i < 0) (h1 : i.toNatClampNeg < 300) : gv_wI (gm_mk I J z) (some 164) i v = some (gm_mk (gm_up I 164 i.toNatClampNeg v) J z) := gm_wI rfl rfl h0 (gm_rep h1)
theorem ga_166 {i : Int32} (h0 : ¬ i < 0) (h1 : i.toNatClampNeg < 4) : gv_lI (gm_mk I J z) (some 166) i = some (I 166 i.toNatClampNeg) := gm_lI rfl rfl h0 (gm_rep h1)
theorem gb_166 {i : Int32} {v : Int32} (h0 : ¬ i < 0) (h1 : i.toNatClampNeg < 4) : gv_wI (gm_mk I J z) (some 166) i v = some (gm_mk (gm_up I 166 i.toNatClampNeg v) J z) := gm_wI rfl rfl h0 (gm_rep h1)
theorem ga_167 {i : Int32} (h0 : ¬ i < 0) (h1 : i.toNatClampNeg < 4) : gv_lJ (gm_mk I J z) (some 167) i = some (J 167 i.toNatClampNeg) := gm_lJ rfl rfl h0 (gm_rep h1)
theorem gb_167 {i : Int32} {v : Int64} (h0 : ¬ i < 0) (h1 : i.toNatClampNeg < 4) : gv_wJ (gm_mk I J z) (some 167) i v = some (gm_mk I (gm_uj J 167 i.toNatClampNeg v) z) := gm_wJ rfl rfl h0 (gm_rep h1)
theorem ga_168 {i : Int32} (h0 : ¬ i < 0) (h1 : i.toNatClampNeg < 4) : gv_lI (gm_mk I J z) (some 168) i = some (I 168 i.toNatClampNeg) := gm_lI rfl rfl h0 (gm_rep h1)
theorem gb_168 {i : Int32} {v : Int32} (h0 : ¬ i < 0) (h1 : i.toNatClampNeg < 4) : gv_wI (gm_mk I J z) (some 168) i v = some (gm_mk (gm_up I 168 i.toNatClampNeg v) J z) := gm_wI rfl rfl h0 (gm_rep h1)
theorem ga_171 {i : Int32} (h0 : ¬ i < 0) (h1 : i.toNatClampNeg < 300) : gv_lI (gm_mk I J z) (some 171) i = some (I 171 i.toNatClampNeg) := gm_lI rfl rfl h0 (gm_rep h1)
theorem gb_171 {i : Int32} {v : Int32} (h0 : ¬ i < 0) (h1 : i.toNatClampNeg < 300) : gv_wI (gm_mk I J z) (some 171) i v = some (gm_mk (gm_up I 171 i.toNatClampNeg v) J z) := gm_wI rfl rfl h0 (gm_rep h1)
theorem ga_172 {i : Int32} (h0 : ¬ i < 0) (h1 : i.toNatClampNeg < 32) : gv_lI (gm_mk I J z) (some 172) i = some (I 172 i.toNatClampNeg) := gm_lI rfl rfl h0 (gm_rep h1)
theorem gb_172 {i : Int32} {v : Int32} (h0 : ¬ i < 0) (h1 : i.toNatClampNeg < 32) : gv_wI (gm_mk I J z) (some 172) i v = some (gm_mk (gm_up I 172 i.toNatClampNeg v) J z) := gm_wI rfl rfl h0 (gm_rep h1)
theorem ga_189 {i : Int32} (h0 : ¬ i < 0) (h1 : i.toNatClampNeg < 32) : gv_lI (gm_mk I J z) (some 189) i = some (I 189 i.toNatClampNeg) := gm_lI rfl rfl h0 (gm_rep h1)
theorem gb_189 {i : Int32} {v : Int32} (h0 : ¬ i < 0) (h1 : i.toNatClampNeg < 32) : gv_wI (gm_mk I J z) (some 189) i v = some (gm_mk (gm_up I 189 i.toNatClampNeg v) J z) := gm_wI rfl rfl h0 (gm_rep h1)
theorem ga_190 {i : Int32} (h0 : ¬ i < 0) (h1 : i.toNatClampNeg < 32) : gv_lI (gm_mk I J z) (some 190) i = some (I 190 i.toNatClampNeg) := gm_lI rfl rfl h0 (gm_rep h1)
theorem gb_190 {i : Int32} {v : Int32} (h0 : ¬ i < 0) (h1 : i.toNatClampNeg < 32) : gv_wI (gm_mk I J z) (some 190) i v = some (gm_mk (gm_up I 190 i.toNatClampNeg v) J z) := gm_wI rfl rfl h0 (gm_rep h1)
theorem ga_191 {i : Int32} (h0 : ¬ i < 0) (h1 : i.toNatClampNeg < 32) : gv_lZ (gm_mk I J z) (some 191) i = some (I 191 i.toNatClampNeg) := gm_lZ rfl rfl h0 (gm_rep h1)
theorem gb_191 {i : Int32} {v : Int32} (h0 : ¬ i < 0) (h1 : i.toNatClampNeg < 32) : gv_wZ (gm_mk I J z) (some 191) i v = some (gm_mk (gm_up I 191 i.toNatClampNeg (v &&& 1)) J z) := gm_wZ rfl rfl h0 (gm_rep h1)
theorem ga_192 {i : Int32} (h0 : ¬ i < 0) (h1 : i.toNatClampNeg < 32) : gv_lJ (gm_mk I J z) (some 192) i = some (J 192 i.toNatClampNeg) := gm_lJ rfl rfl h0 (gm_rep h1)
theorem gb_192 {i : Int32} {v : Int64} (h0 : ¬ i < 0) (h1 : i.toNatClampNeg < 32) : gv_wJ (gm_mk I J z) (some 192) i v = some (gm_mk I (gm_uj J 192 i.toNatClampNeg v) z) := gm_wJ rfl rfl h0 (gm_rep h1)
theorem ga_193 {i : Int32} (h0 : ¬ i < 0) (h1 : i.toNatClampNeg < 256) : gv_lI (gm_mk I J z) (some 193) i = some (I 193 i.toNatClampNeg) := gm_lI rfl rfl h0 (gm_rep h1)
theorem gb_193 {i : Int32} {v : Int32} (h0 : ¬ i < 0) (h1 : i.toNatClampNeg < 256) : gv_wI (gm_mk I J z) (some 193) i v = some (gm_mk (gm_up I 193 i.toNatClampNeg v) J z) := gm_wI rfl rfl h0 (gm_rep h1)
theorem ga_194 {i : Int32} (h0 : ¬ i < 0) (h1 : i.toNatClampNeg < 256) : gv_lI (gm_mk I J z) (some 194) i = some (I 194 i.toNatClampNeg) := gm_lI rfl rfl h0 (gm_rep h1)
theorem gb_194 {i : Int32} {v : Int32} (h0 : ¬ i < 0) (h1 : i.toNatClampNeg < 256) : gv_wI (gm_mk I J z) (some 194) i v = some (gm_mk (gm_up I 194 i.toNatClampNeg v) J z) := gm_wI rfl rfl h0 (gm_rep h1)
theorem ga_195 {i : Int32} (h0 : ¬ i < 0) (h1 : i.toNatClampNeg < 256) : gv_lI (gm_mk I J z) (some 195) i = some (I 195 i.toNatClampNeg) := gm_lI rfl rfl h0 (gm_rep h1)
theorem gb_195 {i : Int32} {v : Int32} (h0 : ¬ i < 0) (h1 : i.toNatClampNeg < 256) : gv_wI (gm_mk I J z) (some 195) i v = some (gm_mk (gm_up I 195 i.toNatClampNeg v) J z) := gm_wI rfl rfl h0 (gm_rep h1)
theorem ga_196 {i : Int32} (h0 : ¬ i < 0) (h1 : i.toNatClampNeg < 256) : gv_lI (gm_mk I J z) (some 196) i = some (I 196 i.toNatClampNeg) := gm_lI rfl rfl h0 (gm_rep h1)
theorem gb_196 {i : Int32} {v : Int32} (h0 : ¬ i < 0) (h1 : i.toNatClampNeg < 256) : gv_wI (gm_mk I J z) (some 196) i v = some (gm_mk (gm_up I 196 i.toNatClampNeg v) J z) := gm_wI rfl rfl h0 (gm_rep h1)
theorem ga_197 {i : Int32} (h0 : ¬ i < 0) (h1 : i.toNatClampNeg < 4) : gv_lI (gm_mk I J z) (some 197) i = some (I 197 i.toNatClampNeg) := gm_lI rfl rfl h0 (gm_rep h1)
theorem gb_197 {i : Int32} {v : Int32} (h0 : ¬ i < 0) (h1 : i.toNatClampNeg < 4) : gv_wI (gm_mk I J z) (some 197) i v = some (gm_mk (gm_up I 197 i.toNatClampNeg v) J z) := gm_wI rfl rfl h0 (gm_rep h1)
theorem ga_198 {i : Int32} (h0 : ¬ i < 0) (h1 : i.toNatClampNeg < 4) : gv_lI (gm_mk I J z) (some 198) i = some (I 198 i.toNatClampNeg) := gm_lI rfl rfl h0 (gm_rep h1)
theorem gb_198 {i : Int32} {v : Int32} (h0 : ¬ i < 0) (h1 : i.toNatClampNeg < 4) : gv_wI (gm_mk I J z) (some 198) i v = some (gm_mk (gm_up I 198 i.toNatClampNeg v) J z) := gm_wI rfl rfl h0 (gm_rep h1)
theorem ga_199 {i : Int32} (h0 : ¬ i < 0) (h1 : i.toNatClampNeg < 32) : gv_lI (gm_mk I J z) (some 199) i = some (I 199 i.toNatClampNeg) := gm_lI rfl rfl h0 (gm_rep h1)
theorem gb_199 {i : Int32} {v : Int32} (h0 : ¬ i < 0) (h1 : i.toNatClampNeg < 32) : gv_wI (gm_mk I J z) (some 199) i v = some (gm_mk (gm_up I 199 i.toNatClampNeg v) J z) := gm_wI rfl rfl h0 (gm_rep h1)
theorem ga_200 {i : Int32} (h0 : ¬ i < 0) (h1 : i.toNatClampNeg < 300) : gv_lI (gm_mk I J z) (some 200) i = some (I 200 i.toNatClampNeg) := gm_lI rfl rfl h0 (gm_rep h1)
theorem gb_200 {i : Int32} {v : Int32} (h0 : ¬ i < 0) (h1 : i.toNatClampNeg < 300) : gv_wI (gm_mk I J z) (some 200) i v = some (gm_mk (gm_up I 200 i.toNatClampNeg v) J z) := gm_wI rfl rfl h0 (gm_rep h1)
theorem ga_201 {i : Int32} (h0 : ¬ i < 0) (h1 : i.toNatClampNeg < 14) : gv_lI (gm_mk I J z) (some 201) i = some (I 201 i.toNatClampNeg) := gm_lI rfl rfl h0 (gm_rep h1)
theorem gb_201 {i : Int32} {v : Int32} (h0 : ¬ i < 0) (h1 : i.toNatClampNeg < 14) : gv_wI (gm_mk I J z) (some 201) i v = some (gm_mk (gm_up I 201 i.toNatClampNeg v) J z) := gm_wI rfl rfl h0 (gm_rep h1)
theorem ga_202 {i : Int32} (h0 : ¬ i < 0) (h1 : i.toNatClampNeg < 14) : gv_lI (gm_mk I J z) (some 202) i = some (I 202 i.toNatClampNeg) := gm_lI rfl rfl h0 (gm_rep h1)
theorem gb_202 {i : Int32} {v : Int32} (h0 : ¬ i < 0) (h1 : i.toNatClampNeg < 14) : gv_wI (gm_mk I J z) (some 202) i v = some (gm_mk (gm_up I 202 i.toNatClampNeg v) J z) := gm_wI rfl rfl h0 (gm_rep h1)
theorem ga_203 {i : Int32} (h0 : ¬ i < 0) (h1 : i.toNatClampNeg < 14) : gv_lI (gm_mk I J z) (some 203) i = some (I 203 i.toNatClampNeg) := gm_lI rfl rfl h0 (gm_rep h1)
theorem gb_203 {i : Int32} {v : Int32} (h0 : ¬ i < 0) (h1 : i.toNatClampNeg < 14) : gv_wI (gm_mk I J z) (some 203) i v = some (gm_mk (gm_up I 203 i.toNatClampNeg v) J z) := gm_wI rfl rfl h0 (gm_rep h1)
theorem ga_204 {i : Int32} (h0 : ¬ i < 0) (h1 : i.toNatClampNeg < 84) : gv_lI (gm_mk I J z) (some 204) i = some (I 204 i.toNatClampNeg) := gm_lI rfl rfl h0 (gm_rep h1)
theorem gb_204 {i : Int32} {v : Int32} (h0 : ¬ i < 0) (h1 : i.toNatClampNeg < 84) : gv_wI (gm_mk I J z) (some 204) i v = some (gm_mk (gm_up I 204 i.toNatClampNeg v) J z) := gm_wI rfl rfl h0 (gm_rep h1)
theorem ga_205 {i : Int32} (h0 : ¬ i < 0) (h1 : i.toNatClampNeg < 14) : gv_lI (gm_mk I J z) (some 205) i = some (I 205 i.toNatClampNeg) := gm_lI rfl rfl h0 (gm_rep h1)
theorem gb_205 {i : Int32} {v : Int32} (h0 : ¬ i < 0) (h1 : i.toNatClampNeg < 14) : gv_wI (gm_mk I J z) (some 205) i v = some (gm_mk (gm_up I 205 i.toNatClampNeg v) J z) := gm_wI rfl rfl h0 (gm_rep h1)
theorem ga_206 {i : Int32} (h0 : ¬ i < 0) (h1 : i.toNatClampNeg < 14) : gv_lI (gm_mk I J z) (some 206) i = some (I 206 i.toNatClampNeg) := gm_lI rfl rfl h0 (gm_rep h1)
theorem gb_206 {i : Int32} {v : Int32} (h0 : ¬ i < 0) (h1 : i.toNatClampNeg < 14) : gv_wI (gm_mk I J z) (some 206) i v = some (gm_mk (gm_up I 206 i.toNatClampNeg v) J z) := gm_wI rfl rfl h0 (gm_rep h1)
theorem ga_207 {i : Int32} (h0 : ¬ i < 0) (h1 : i.toNatClampNeg < 14) : gv_lI (gm_mk I J z) (some 207) i = some (I 207 i.toNatClampNeg) := gm_lI rfl rfl h0 (gm_rep h1)
theorem gb_207 {i : Int32} {v : Int32} (h0 : ¬ i < 0) (h1 : i.toNatClampNeg < 14) : gv_wI (gm_mk I J z) (some 207) i v = some (gm_mk (gm_up I 207 i.toNatClampNeg v) J z) := gm_wI rfl rfl h0 (gm_rep h1)
theorem ga_208 {i : Int32} (h0 : ¬ i < 0) (h1 : i.toNatClampNeg < 300) : gv_lI (gm_mk I J z) (some 208) i = some (I 208 i.toNatClampNeg) := gm_lI rfl rfl h0 (gm_rep h1)
theorem gb_208 {i : Int32} {v : Int32} (h0 : ¬ i < 0) (h1 : i.toNatClampNeg < 300) : gv_wI (gm_mk I J z) (some 208) i v = some (gm_mk (gm_up I 208 i.toNatClampNeg v) J z) := gm_wI rfl rfl h0 (gm_rep h1)
theorem ga_209 {i : Int32} (h0 : ¬ i < 0) (h1 : i.toNatClampNeg < 32) : gv_lI (gm_mk I J z) (some 209) i = some (I 209 i.toNatClampNeg) := gm_lI rfl rfl h0 (gm_rep h1)
theorem gb_209 {i : Int32} {v : Int32} (h0 : ¬ i < 0) (h1 : i.toNatClampNeg < 32) : gv_wI (gm_mk I J z) (some 209) i v = some (gm_mk (gm_up I 209 i.toNatClampNeg v) J z) := gm_wI rfl rfl h0 (gm_rep h1)
theorem ga_210 {i : Int32} (h0 : ¬ i < 0) (h1 : i.toNatClampNeg < 32) : gv_lI (gm_mk I J z) (some 210) i = some (I 210 i.toNatClampNeg) := gm_lI rfl rfl h0 (gm_rep h1)
theorem gb_210 {i : Int32} {v : Int32} (h0 : ¬ i < 0) (h1 : i.toNatClampNeg < 32) : gv_wI (gm_mk I J z) (some 210) i v = some (gm_mk (gm_up I 210 i.toNatClampNeg v) J z) := gm_wI rfl rfl h0 (gm_rep h1)
theorem ga_211 {i : Int32} (h0 : ¬ i < 0) (h1 : i.toNatClampNeg < 1) : gv_lJ (gm_mk I J z) (some 211) i = some (J 211 i.toNatClampNeg) := gm_lJ rfl rfl h0 (gm_rep h1)
theorem gb_211 {i : Int32} {v : Int64} (h0 : ¬ i < 0) (h1 : i.toNatClampNeg < 1) : gv_wJ (gm_mk I J z) (some 211) i v = some (gm_mk I (gm_uj J 211 i.toNatClampNeg v) z) := gm_wJ rfl rfl h0 (gm_rep h1)
theorem gm_layT {k : Nat} (h : k < 32) : gm_lay (3 + 5 * k) = (2, [(0, 3 + 5 * k + 1), (0, 3 + 5 * k + 2), (0, 3 + 5 * k + 3), (0, 3 + 5 * k + 4), (1, 0), (1, 0), (1, 0), (1, 0), (1, 0), (1, 0), (2, 0)]) := by
  unfold gm_lay
  rw [if_neg (by omega), if_pos (by omega), if_pos (by omega)]
theorem gm_layA {k m : Nat} (h : k < 32) (hm : 0 < m) (hm2 : m < 5) : gm_lay (3 + 5 * k + m) = (100, List.replicate 8 (1, 0)) := by
  unfold gm_lay
  rw [if_neg (by omega), if_pos (by omega), if_neg (by omega)]
theorem gm_blt {a b : Nat} (h : a < b) : Nat.blt a b = true := Nat.ble_eq_true_of_le h
theorem go_T {k : Nat} (h : k < 32) : gv_is (gm_mk I J z) (some (3 + 5 * k)) 2 = some (3 + 5 * k) := gm_is (gm_blt (by omega)) (by rw [gm_layT h])
theorem gT {i : Int32} (h0 : ¬ i < 0) (h1 : i.toNatClampNeg < 32) : gv_lT (gm_mk I J z) (some 2) i = some (some (3 + 5 * i.toNatClampNeg)) := gm_lT rfl rfl h0 (by show ((List.range 32).map fun i => ((0, 3 + 5 * i) : Nat × Nat))[i.toNatClampNeg]? = _; simp [h1])
theorem grT_0 {k : Nat} (h : k < 32) : gv_gR (gm_mk I J z) (some (3 + 5 * k)) 2 0 = some (some (3 + 5 * k + 1)) := gm_gR (gm_blt (by omega)) (by rw [gm_layT h]) (by rw [gm_layT h]; rfl)
theorem grT_1 {k : Nat} (h : k < 32) : gv_gR (gm_mk I J z) (some (3 + 5 * k)) 2 1 = some (some (3 + 5 * k + 2)) := gm_gR (gm_blt (by omega)) (by rw [gm_layT h]) (by rw [gm_layT h]; rfl)
theorem grT_2 {k : Nat} (h : k < 32) : gv_gR (gm_mk I J z) (some (3 + 5 * k)) 2 2 = some (some (3 + 5 * k + 3)) := gm_gR (gm_blt (by omega)) (by rw [gm_layT h]) (by rw [gm_layT h]; rfl)
theorem grT_3 {k : Nat} (h : k < 32) : gv_gR (gm_mk I J z) (some (3 + 5 * k)) 2 3 = some (some (3 + 5 * k + 4)) := gm_gR (gm_blt (by omega)) (by rw [gm_layT h]) (by rw [gm_layT h]; rfl)
theorem giT_4 {k : Nat} (h : k < 32) : gv_gI (gm_mk I J z) (some (3 + 5 * k)) 2 4 = some (I (3 + 5 * k) 4) := gm_gI (r := 0) (gm_blt (by omega)) (by rw [gm_layT h]) (by rw [gm_layT h]; rfl)
theorem gpT_4 {k : Nat} {v : Int32} (h : k < 32) : gv_pV (gm_mk I J z) (some (3 + 5 * k)) 2 4 (.int v) = some (gm_mk (gm_up I (3 + 5 * k) 4 v) J z) := gm_pI (r := 0) (gm_blt (by omega)) (by rw [gm_layT h]) (by rw [gm_layT h]; rfl)
theorem giT_5 {k : Nat} (h : k < 32) : gv_gI (gm_mk I J z) (some (3 + 5 * k)) 2 5 = some (I (3 + 5 * k) 5) := gm_gI (r := 0) (gm_blt (by omega)) (by rw [gm_layT h]) (by rw [gm_layT h]; rfl)
theorem gpT_5 {k : Nat} {v : Int32} (h : k < 32) : gv_pV (gm_mk I J z) (some (3 + 5 * k)) 2 5 (.int v) = some (gm_mk (gm_up I (3 + 5 * k) 5 v) J z) := gm_pI (r := 0) (gm_blt (by omega)) (by rw [gm_layT h]) (by rw [gm_layT h]; rfl)
theorem giT_6 {k : Nat} (h : k < 32) : gv_gI (gm_mk I J z) (some (3 + 5 * k)) 2 6 = some (I (3 + 5 * k) 6) := gm_gI (r := 0) (gm_blt (by omega)) (by rw [gm_layT h]) (by rw [gm_layT h]; rfl)
theorem gpT_6 {k : Nat} {v : Int32} (h : k < 32) : gv_pV (gm_mk I J z) (some (3 + 5 * k)) 2 6 (.int v) = some (gm_mk (gm_up I (3 + 5 * k) 6 v) J z) := gm_pI (r := 0) (gm_blt (by omega)) (by rw [gm_layT h]) (by rw [gm_layT h]; rfl)
theorem giT_7 {k : Nat} (h : k < 32) : gv_gI (gm_mk I J z) (some (3 + 5 * k)) 2 7 = some (I (3 + 5 * k) 7) := gm_gI (r := 0) (gm_blt (by omega)) (by rw [gm_layT h]) (by rw [gm_layT h]; rfl)
theorem gpT_7 {k : Nat} {v : Int32} (h : k < 32) : gv_pV (gm_mk I J z) (some (3 + 5 * k)) 2 7 (.int v) = some (gm_mk (gm_up I (3 + 5 * k) 7 v) J z) := gm_pI (r := 0) (gm_blt (by omega)) (by rw [gm_layT h]) (by rw [gm_layT h]; rfl)
theorem giT_8 {k : Nat} (h : k < 32) : gv_gI (gm_mk I J z) (some (3 + 5 * k)) 2 8 = some (I (3 + 5 * k) 8) := gm_gI (r := 0) (gm_blt (by omega)) (by rw [gm_layT h]) (by rw [gm_layT h]; rfl)
theorem gpT_8 {k : Nat} {v : Int32} (h : k < 32) : gv_pV (gm_mk I J z) (some (3 + 5 * k)) 2 8 (.int v) = some (gm_mk (gm_up I (3 + 5 * k) 8 v) J z) := gm_pI (r := 0) (gm_blt (by omega)) (by rw [gm_layT h]) (by rw [gm_layT h]; rfl)
theorem giT_9 {k : Nat} (h : k < 32) : gv_gI (gm_mk I J z) (some (3 + 5 * k)) 2 9 = some (I (3 + 5 * k) 9) := gm_gI (r := 0) (gm_blt (by omega)) (by rw [gm_layT h]) (by rw [gm_layT h]; rfl)
theorem gpT_9 {k : Nat} {v : Int32} (h : k < 32) : gv_pV (gm_mk I J z) (some (3 + 5 * k)) 2 9 (.int v) = some (gm_mk (gm_up I (3 + 5 * k) 9 v) J z) := gm_pI (r := 0) (gm_blt (by omega)) (by rw [gm_layT h]) (by rw [gm_layT h]; rfl)
theorem gjT_10 {k : Nat} (h : k < 32) : gv_gJ (gm_mk I J z) (some (3 + 5 * k)) 2 10 = some (J (3 + 5 * k) 10) := gm_gJ (r := 0) (gm_blt (by omega)) (by rw [gm_layT h]) (by rw [gm_layT h]; rfl)
theorem gqT_10 {k : Nat} {v : Int64} (h : k < 32) : gv_pV (gm_mk I J z) (some (3 + 5 * k)) 2 10 (.long v) = some (gm_mk I (gm_uj J (3 + 5 * k) 10 v) z) := gm_pJ (r := 0) (gm_blt (by omega)) (by rw [gm_layT h]) (by rw [gm_layT h]; rfl)
theorem gaT {k m : Nat} {i : Int32} (h : k < 32) (hm : 0 < m) (hm2 : m < 5) (h0 : ¬ i < 0) (h1 : i.toNatClampNeg < 8) : gv_lI (gm_mk I J z) (some (3 + 5 * k + m)) i = some (I (3 + 5 * k + m) i.toNatClampNeg) := gm_lI (gm_blt (by omega)) (by rw [gm_layA h hm hm2]) h0 (by rw [gm_layA h hm hm2]; exact gm_rep h1)
theorem gbT {k m : Nat} {i v : Int32} (h : k < 32) (hm : 0 < m) (hm2 : m < 5) (h0 : ¬ i < 0) (h1 : i.toNatClampNeg < 8) : gv_wI (gm_mk I J z) (some (3 + 5 * k + m)) i v = some (gm_mk (gm_up I (3 + 5 * k + m) i.toNatClampNeg v) J z) := gm_wI (gm_blt (by omega)) (by rw [gm_layA h hm hm2]) h0 (by rw [gm_layA h hm hm2]; exact gm_rep h1)
end GM
