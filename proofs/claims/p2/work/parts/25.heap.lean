/-! what a heap of the small machine says of the machine's own -/
def gx_ty : Nat → FieldType
  | 0 => .int
  | 1 => .long
  | 2 => .boolean
  | 3 => .object gx_elem
  | _ => .array .int
/-- the array classes' numbers -/
def gx_AK (U : State) (aC : Nat → ClassId) : Prop := ∀ t, t < 5 → ∃ (k : Class) (comp : ClassId), U.vm.classes[aC t]? = some k ∧ k.kind = .array comp (gx_ty t) ∧ U.vm.findClass ("[" ++ (gx_ty t).toString) = some (aC t) ∧ (t = 3 → U.vm.findClass gx_elem = some comp)
/-- the classes' numbers and their fields' slots -/
def gx_KN (U : State) (D : va_G) : Prop := ∀ (ci : Nat) (q : vw_C), gx_cl[ci]? = some q → u_Kn U q.1 q.2.1 q.2.2 (D.1 ci) (D.2 ci)
def gx_at (D : va_G) (aC : Nat → ClassId) (ba b a : Nat) (c : gx_C) (H : Heap) : Prop :=
  if c.1 < 100 then ∃ r : vw_C, gx_cl[c.1]? = some r ∧ r.2.2 = c.2.length ∧ t_OB a (D.1 c.1) r.2.2 (D.2 c.1) H (fun k => gx_v ba b (vp_V c.2 k))
  else ∃ cell : Cell, H[a]? = some cell ∧ cell.cls = aC (c.1 - 100) ∧ cell.vm = .none ∧ cell.slots = (gx_t ba b c.2).toArray
def gx_rel (D : va_G) (aC : Nat → ClassId) (ba b : Nat) (h : gx_H) (H : Heap) : Prop := H.size = ba + h.length ∧ ∀ (k : Nat) (c : gx_C), h[k]? = some c → gx_at D aC ba b (ba + k) c H
/-- the law's script -/
def gx_X (b : Nat) (xs : List Int32) (U : State) (H : Heap) : Prop := ∃ scr : Cell, H[b]? = some scr ∧ U.isArrayOf scr .int ∧ scr.vm ≠ .unknown ∧ scr.slots.size = xs.length ∧ ∀ (j : Nat) (x : Int32), xs[j]? = some x → scr.slots[j]? = some (.int x)
theorem gx_at.kept {D : va_G} {aC : Nat → ClassId} {ba b a : Nat} {c : gx_C} {H H1 : Heap} (h : gx_at D aC ba b a c H) (e : H1[a]? = H[a]?) : gx_at D aC ba b a c H1 := by
  unfold gx_at at h ⊢
  split at h
  · rename_i hc
    rw [if_pos hc]
    obtain ⟨r, h1, h2, h3⟩ := h
    exact ⟨r, h1, h2, h3.kept e⟩
  · rename_i hc
    rw [if_neg hc]
    obtain ⟨cell, h1, h2⟩ := h
    exact ⟨cell, e.trans h1, h2⟩
theorem gx_at.obj {D : va_G} {aC : Nat → ClassId} {ba b a ci : Nat} {fs : List Value} {H : Heap} (h : gx_at D aC ba b a (ci, fs) H) (hc : ci < 100) : ∃ r : vw_C, gx_cl[ci]? = some r ∧ r.2.2 = fs.length ∧ t_OB a (D.1 ci) r.2.2 (D.2 ci) H (fun k => gx_v ba b (vp_V fs k)) := by
  unfold gx_at at h
  rw [if_pos hc] at h
  exact h
theorem gx_at.arr {D : va_G} {aC : Nat → ClassId} {ba b a t : Nat} {vs : List Value} {H : Heap} (h : gx_at D aC ba b a (100 + t, vs) H) : ∃ cell : Cell, H[a]? = some cell ∧ cell.cls = aC t ∧ cell.vm = .none ∧ cell.slots = (gx_t ba b vs).toArray := by
  unfold gx_at at h
  rw [if_neg (show ¬ (100 + t) < 100 by omega)] at h
  obtain ⟨cell, h1, h2, h3⟩ := h
  exact ⟨cell, h1, by rw [h2]; congr 1; show 100 + t - 100 = t; omega, h3⟩
/-- a cell of the small machine is no cell of statics -/
theorem gx_at.vm {D : va_G} {aC : Nat → ClassId} {ba b a : Nat} {c : gx_C} {H : Heap} (h : gx_at D aC ba b a c H) : ∃ cell : Cell, H[a]? = some cell ∧ cell.vm = .none := by
  unfold gx_at at h
  split at h
  · obtain ⟨r, -, -, cell, h1, -, h3, -⟩ := h
    exact ⟨cell, h1, h3⟩
  · obtain ⟨cell, h1, -, h3, -⟩ := h
    exact ⟨cell, h1, h3⟩
theorem gx_size {ba b : Nat} {vs : List Value} {cell : Cell} (h : cell.slots = (gx_t ba b vs).toArray) : cell.slots.size = vs.length := by
  rw [h]; simp [gx_t]
theorem gx_slot {ba b : Nat} {vs : List Value} {cell : Cell} (h : cell.slots = (gx_t ba b vs).toArray) {i : Nat} {v : Value} (hv : vs[i]? = some v) : cell.slots[i]? = some (gx_v ba b v) := by
  rw [h]; simp [gx_t, hv]
theorem gx_arrOf {s : State} {aC : Nat → ClassId} (hA : gx_AK s aC) {t : Nat} (ht : t < 5) {cell : Cell} (h1 : cell.cls = aC t) (h2 : cell.vm = .none) : s.isArrayOf cell (gx_ty t) := by
  obtain ⟨k, comp, q1, q2, -⟩ := hA t ht
  exact ⟨fun z hz => (by rw [h2] at hz; cases hz), k, (by rw [h1]; exact q1), comp, q2⟩
theorem gx_known {cell : Cell} (h : cell.vm = .none) : cell.vm ≠ .unknown := by rw [h]; intro q; cases q
/-- one cell changes, no other does -/
theorem gx_rel.set {D : va_G} {aC : Nat → ClassId} {ba b : Nat} {h : gx_H} {H H1 : Heap} {k : Nat} {c : gx_C} (hr : gx_rel D aC ba b h H) (hs : H1.size = H.size) (ho : ∀ q, q ≠ ba + k → H1[q]? = H[q]?) (hc : gx_at D aC ba b (ba + k) c H1) : gx_rel D aC ba b (h.set k c) H1 := by
  refine ⟨by rw [hs, hr.1, List.length_set], fun j d hj => ?_⟩
  by_cases e : k = j
  · subst e
    rw [List.getElem?_set] at hj
    simp only [if_true] at hj
    split at hj
    · cases hj; exact hc
    · cases hj
  · rw [List.getElem?_set_ne e] at hj
    exact (hr.2 j d hj).kept (ho _ (by omega))
/-- a cell is made -/
theorem gx_rel.push {D : va_G} {aC : Nat → ClassId} {ba b : Nat} {h : gx_H} {H H1 : Heap} {c : gx_C} (hr : gx_rel D aC ba b h H) (hs : H1.size = H.size + 1) (ho : ∀ q, q < H.size → H1[q]? = H[q]?) (hc : gx_at D aC ba b H.size c H1) : gx_rel D aC ba b (h ++ [c]) H1 := by
  refine ⟨by rw [hs, hr.1]; simp; omega, fun j d hj => ?_⟩
  by_cases e : j < h.length
  · rw [List.getElem?_append_left e] at hj
    exact (hr.2 j d hj).kept (ho _ (by rw [hr.1]; omega))
  · rw [List.getElem?_append_right (by omega)] at hj
    have e2 : j - h.length = 0 := by
      rcases Nat.eq_zero_or_pos (j - h.length) with q | q
      · exact q
      · rw [List.getElem?_cons] at hj
        rw [if_neg (by omega)] at hj
        cases hj
    rw [e2] at hj
    cases hj
    have e3 : ba + j = H.size := by rw [hr.1]; omega
    rw [e3]
    exact hc
theorem gx_F_w {o idx ci k : Nat} (h : gx_F o idx = some (ci, k)) {r : vw_C} (hr : gx_cl[ci]? = some r) : Jvm.Cond.fieldLink (gx_o o) idx (r.2.1 k).1 (r.2.1 k).2.1 (r.2.1 k).2.2.1 ∈ gx_words := by
  refine gx_wF (List.mem_map.mpr ⟨_, gx_find h, ?_⟩)
  simp [gx_fw, hr]
section GXQ
variable {p : Program} {l : Launch} {e : Env} {R : Room} {s : State} {m : MethodId} {args : Array Value} {below : List Frame} {meth : Method} {c : Code} {H : Heap} {locs : List Loc} {cells slots : Nat} {Q : State → Prop}
variable {cc : ByteArray} {ls : Array Slot} {D : va_G} {aC : Nat → ClassId} {ba b : Nat} {h0 : gx_H}
theorem gx_inb {j : Int32} {n k : Nat} (h1 : ¬ j < 0) (h2 : j.toNatClampNeg < n) (h3 : k = n) : ¬ (j < 0 ∨ k ≤ j.toNatClampNeg) := by
  rintro (q | q)
  · exact h1 q
  · omega
theorem gx_ilt {vs : List Value} {i : Nat} {v : Value} (h : vs[i]? = some v) : i < vs.length := by
  rcases Nat.lt_or_ge i vs.length with q | q
  · exact q
  · rw [List.getElem?_eq_none q] at h; cases h
set_option maxHeartbeats 4000000 in
theorem gx_qW (hx : p.tables.exec = Jvm.exec) (hb : c.code = cc) {o nL : Nat} {xs : Option (List Int32)} (hown : s.vm.findClass (gx_o o) = some m.cls) (hw : ∀ w ∈ gx_words, w.before args s = true) (hK : gx_KN s D) (hA : gx_AK s aC) (hr : gx_rel D aC ba b h0 H) (hX : ∀ l, xs = some l → gx_X b l s H)
    {ins : Instr} {pc pc' : Nat} {L L' : gx_L} {st st' : List Value} (hd : ∃ len, decode cc pc = .ok (ins, len) ∧ gx_lok ins len = true) (hl : lv_has ls nL (gx_l ba b L)) (h : gx_q xs o h0 ins pc L st = some (pc', L', st'))
    (kk : ∀ ls' : Array Slot, lv_has ls' nL (gx_l ba b L') → W p l e R s m args below meth c H locs cells slots Q (F0 m pc' ls' (gx_t ba b st'))) :
    W p l e R s m args below meth c H locs cells slots Q (F0 m pc ls (gx_t ba b st)) := by
  obtain ⟨len, hd, hlen⟩ := hd
  cases ins with
  | getfield idx =>
    have e1 : len = 3 := by simpa [gx_lok, gx_len] using hlen
    subst e1
    obtain ⟨⟨a, r⟩, h1, h2⟩ := Option.bind_eq_some_iff.mp h
    have h5 := gx_r1_e h1
    subst h5
    obtain ⟨⟨ci, k⟩, h3, h4⟩ := Option.bind_eq_some_iff.mp h2
    obtain ⟨fs, h6, h7⟩ := Option.bind_eq_some_iff.mp h4
    obtain ⟨v, h8, h9⟩ := Option.map_eq_some_iff.mp h7
    cases h9
    have h10 := hr.2 _ _ (gx_ob_e h6)
    obtain ⟨r1, g1, g2, cell, q1, q2, q3, q4⟩ := h10.obj (gx_small h3)
    have hk : k < r1.2.2 := by rw [g2]; exact gx_ilt h8
    obtain ⟨hS, hfc, kC, hkC, hkind⟩ := hK ci _ g1
    obtain ⟨cf, kf, fi, f, hi, hsl⟩ := hS k hk
    refine W.getf hx hb hown (hw _ (gx_F_w h3 g1)) hi (u_facts hfc hkC (u_lays hw (gx_wC g1) hk) hi).1 q1 (gx_known q3) (v := gx_v ba b v) ?_ rfl rfl hd (kk _ hl)
    rw [hsl, q4 k hk]
    simp [vp_V, h8]
  | iaload =>
    have e1 : len = 1 := by simpa [gx_lok, gx_len] using hlen
    subst e1
    simp only [gx_q] at h
    split at h
    · rename_i q hq
      obtain ⟨i, a, r⟩ := q
      have h5 := gx_ar_e hq
      subst h5
      obtain ⟨x, h1, h2⟩ := Option.map_eq_some_iff.mp h
      obtain ⟨v, h3, h4⟩ := Option.bind_eq_some_iff.mp h1
      have h6 := gx_i1_e h4
      subst h6
      cases h2
      obtain ⟨vs, g1, g2, g3⟩ := gx_rd_e h3
      obtain ⟨cell, q1, q2, q3, q4⟩ := (hr.2 _ _ g1).arr (t := 0)
      exact W.iald hx hb q1 (gx_arrOf hA (t := 0) (by decide) q2 q3) (gx_known q3) (gx_inb g2 (gx_ilt g3) (gx_size q4)) (gx_slot q4 g3) rfl rfl hd (kk _ hl)
    · obtain ⟨⟨i, z, r⟩, h1, h2⟩ := Option.bind_eq_some_iff.mp h
      have h5 := gx_sc_e h1
      subst h5
      obtain ⟨lx, hlx, h2⟩ := Option.bind_eq_some_iff.mp h2
      dsimp only at h2
      split at h2
      · cases h2
      · rename_i hn
        obtain ⟨x, h3, h4⟩ := Option.map_eq_some_iff.mp h2
        cases h4
        obtain ⟨scr, q1, q2, q3, q4, q5⟩ := hX lx hlx
        have hlt : i.toNatClampNeg < lx.length := by
          rcases Nat.lt_or_ge i.toNatClampNeg lx.length with q | q
          · exact q
          · rw [List.getElem?_eq_none q] at h3; cases h3
        exact W.iald hx hb q1 q2 q3 (gx_inb hn hlt q4) (q5 _ _ h3) rfl rfl hd (kk _ hl)
  | laload =>
    have e1 : len = 1 := by simpa [gx_lok, gx_len] using hlen
    subst e1
    obtain ⟨⟨i, a, r⟩, h0', h0''⟩ := Option.bind_eq_some_iff.mp h
    have h5 := gx_ar_e h0'
    subst h5
    obtain ⟨x, h1, h2⟩ := Option.map_eq_some_iff.mp h0''
    obtain ⟨v, h3, h4⟩ := Option.bind_eq_some_iff.mp h1
    have h6 := gx_l1_e h4
    subst h6
    cases h2
    obtain ⟨vs, g1, g2, g3⟩ := gx_rd_e h3
    obtain ⟨cell, q1, q2, q3, q4⟩ := (hr.2 _ _ g1).arr (t := 1)
    exact W.lald hx hb q1 (gx_arrOf hA (t := 1) (by decide) q2 q3) (gx_known q3) (gx_inb g2 (gx_ilt g3) (gx_size q4)) (gx_slot q4 g3) rfl rfl hd (kk _ hl)
  | baload =>
    have e1 : len = 1 := by simpa [gx_lok, gx_len] using hlen
    subst e1
    obtain ⟨⟨i, a, r⟩, h0', h0''⟩ := Option.bind_eq_some_iff.mp h
    have h5 := gx_ar_e h0'
    subst h5
    obtain ⟨x, h1, h2⟩ := Option.map_eq_some_iff.mp h0''
    obtain ⟨v, h3, h4⟩ := Option.bind_eq_some_iff.mp h1
    have h6 := gx_i1_e h4
    subst h6
    cases h2
    obtain ⟨vs, g1, g2, g3⟩ := gx_rd_e h3
    obtain ⟨cell, q1, q2, q3, q4⟩ := (hr.2 _ _ g1).arr (t := 2)
    exact W.zald hx hb q1 (gx_arrOf hA (t := 2) (by decide) q2 q3) (gx_known q3) (gx_inb g2 (gx_ilt g3) (gx_size q4)) (gx_slot q4 g3) rfl rfl hd (kk _ hl)
  | aaload =>
    have e1 : len = 1 := by simpa [gx_lok, gx_len] using hlen
    subst e1
    obtain ⟨⟨i, a, r⟩, h0', h0''⟩ := Option.bind_eq_some_iff.mp h
    have h5 := gx_ar_e h0'
    subst h5
    dsimp only at h0''
    split at h0''
    · rename_i v h3
      split at h0''
      · cases h0''
        obtain ⟨vs, g1, g2, g3⟩ := gx_rd_e h3
        obtain ⟨cell, q1, q2, q3, q4⟩ := (hr.2 _ _ g1).arr (t := 3)
        exact W.aald hx hb q1 (gx_arrOf hA (t := 3) (by decide) q2 q3) rfl (gx_known q3) (gx_inb g2 (gx_ilt g3) (gx_size q4)) (gx_slot q4 g3) rfl rfl hd (kk _ hl)
      · cases h0''
    · obtain ⟨v, h3, h4⟩ := Option.bind_eq_some_iff.mp h0''
      split at h4
      · cases h4
        obtain ⟨vs, g1, g2, g3⟩ := gx_rd_e h3
        obtain ⟨cell, q1, q2, q3, q4⟩ := (hr.2 _ _ g1).arr (t := 4)
        exact W.aald hx hb q1 (gx_arrOf hA (t := 4) (by decide) q2 q3) rfl (gx_known q3) (gx_inb g2 (gx_ilt g3) (gx_size q4)) (gx_slot q4 g3) rfl rfl hd (kk _ hl)
      · cases h4
  | arraylength =>
    have e1 : len = 1 := by simpa [gx_lok, gx_len] using hlen
    subst e1
    simp only [gx_q] at h
    split at h
    · obtain ⟨lx, hlx, h2⟩ := Option.map_eq_some_iff.mp h
      cases h2
      obtain ⟨scr, q1, q2, q3, q4, q5⟩ := hX lx hlx
      exact W.alen hx hb q1 q2 (by rw [q4]) rfl rfl hd (kk _ hl)
    · cases h
  | _ => cases h
end GXQ
