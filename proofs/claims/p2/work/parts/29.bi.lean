/-! Object.<init>, System.arraycopy of ints, new int[n][k] -/
def gx_sp (at_ : Nat) (xs : List (Value × Nat)) (vs : List Value) : List Value := xs.foldl (fun vs q => vs.set (at_ + q.2) q.1) vs
def gx_cpy (src dst : List Value) (sp dp n : Nat) : List Value := gx_sp dp (((List.range n).map fun i => src.getD (sp + i) .null).zipIdx) dst
def gx_ot (o idx : Nat) : Bool := gx_OT.any (fun q => q.1 == o && q.2.1 == idx)
def gx_ac (o idx : Nat) : Bool := gx_AT.any (fun q => q.1 == o && q.2.1 == idx)
def gx_rt2 (o idx : Nat) : Bool := gx_RT.any (fun q => q.1 == o && q.2.1 == idx)
def gx_bi (o : Nat) (h : gx_H) (ins : Instr) (pc : Nat) (st : List Value) : gx_S := match ins with
  | .invokespecial idx => (gx_r1 st).bind fun q => if gx_ot o idx = true ∧ (q.2.map fun v => v.category).sum ≤ 8 then some (pc + 3, q.2, h) else none
  | .invokestatic idx => match st with
    | .int n :: .int dp :: .ref a :: .int sp :: .ref a0 :: r => (gx_ob h a0 100).bind fun vs => (gx_ob h a 100).bind fun ws =>
      if gx_ac o idx = true ∧ (r.map fun v => v.category).sum ≤ 8 ∧ ¬ sp < 0 ∧ ¬ dp < 0 ∧ ¬ n < 0 ∧ sp.toNatClampNeg + n.toNatClampNeg ≤ vs.length ∧ dp.toNatClampNeg + n.toNatClampNeg ≤ ws.length ∧ vs.all (fun v => (gx_i1 v).isSome) = true then some (pc + 3, r, h.set a (100, gx_cpy vs ws sp.toNatClampNeg dp.toNatClampNeg n.toNatClampNeg)) else none
    | _ => none
  | _ => none
def gx_mu (o : Nat) (h : gx_H) (ins : Instr) (pc : Nat) (st : List Value) : gx_M := match ins with
  | .multianewarray idx dims => (gx_a2 st).bind fun q => if gx_rt2 o idx = true ∧ dims = 2 ∧ ¬ q.2.1 < 0 ∧ ¬ q.1 < 0 ∧ q.2.1.toNatClampNeg ≤ 1000 ∧ q.1.toNatClampNeg ≤ 1000 then
      some (pc + 4, .ref h.length :: q.2.2, h ++ ((104, (List.range q.2.1.toNatClampNeg).map (fun i => Value.ref (h.length + 1 + i))) :: List.replicate q.2.1.toNatClampNeg (100, List.replicate q.1.toNatClampNeg (.int 0))), 1 + q.2.1.toNatClampNeg, q.2.1.toNatClampNeg + q.2.1.toNatClampNeg * q.1.toNatClampNeg) else none
  | _ => none
theorem gx_at_arr {D : va_G} {aC : Nat → ClassId} {ba b a t : Nat} {vs : List Value} {H : Heap} (h : ∃ ce : Cell, H[a]? = some ce ∧ ce.cls = aC t ∧ ce.vm = .none ∧ ce.slots = (gx_t ba b vs).toArray) : gx_at D aC ba b a (100 + t, vs) H := by
  unfold gx_at
  rw [if_neg (show ¬ (100 + t) < 100 by omega)]
  obtain ⟨ce, h1, h2, h3⟩ := h
  exact ⟨ce, h1, by rw [h2]; congr 1; show t = 100 + t - 100; omega, h3⟩
theorem gx_any {l : List (Nat × Nat × Unit)} {o idx : Nat} (h : l.any (fun q => q.1 == o && q.2.1 == idx) = true) : (o, idx, ()) ∈ l := by
  obtain ⟨⟨a, i, z⟩, h1, h2⟩ := List.any_eq_true.mp h
  simp only [Bool.and_eq_true, beq_iff_eq] at h2
  obtain ⟨rfl, rfl⟩ := h2
  exact h1
theorem gx_pairs {ba b at_ : Nat} : ∀ (xs : List (Value × Nat)) (vs : List Value) (cell : Cell), cell.slots = (gx_t ba b vs).toArray → (cell.storePairs at_ (xs.map (fun q => (gx_v ba b q.1, q.2)))).slots = (gx_t ba b (gx_sp at_ xs vs)).toArray ∧ (cell.storePairs at_ (xs.map (fun q => (gx_v ba b q.1, q.2)))).cls = cell.cls ∧ (cell.storePairs at_ (xs.map (fun q => (gx_v ba b q.1, q.2)))).vm = cell.vm
  | [], vs, ce, h => ⟨h, rfl, rfl⟩
  | x :: xs, vs, ce, h => gx_pairs xs (vs.set (at_ + x.2) x.1) (ce.setSlot (at_ + x.2) (gx_v ba b x.1)) (gx_setSlot h _ _)
theorem gx_zip {ba b : Nat} : ∀ (l : List Value) (i : Nat), (l.map (gx_v ba b)).zipIdx i = (l.zipIdx i).map (fun q => (gx_v ba b q.1, q.2))
  | [], _ => rfl
  | x :: l, i => by
    rw [List.map_cons, List.zipIdx_cons, List.zipIdx_cons, List.map_cons, gx_zip l (i + 1)]
theorem gx_stretch {ba b sp n : Nat} {vs : List Value} {cell : Cell} (h : cell.slots = (gx_t ba b vs).toArray) : cell.stretch sp n = ((List.range n).map fun i => vs.getD (sp + i) .null).map (gx_v ba b) := by
  unfold Cell.stretch
  rw [List.map_map]
  refine List.map_congr_left fun i _ => ?_
  rw [h]
  simp only [Function.comp, gx_t, Array.getD_eq_getD_getElem?, List.getElem?_toArray, List.getElem?_map, List.getD_eq_getElem?_getD]
  cases vs[sp + i]? <;> rfl
section GXB
variable {p : Program} {l : Launch} {e : Env} {R : Room} {s : State} {m : MethodId} {args : Array Value} {below : List Frame} {meth : Method} {c : Code} {H : Heap} {locs : List Loc} {cells slots : Nat} {Q : State → Prop}
variable {cc : ByteArray} {ls : Array Slot} {D : va_G} {aC : Nat → ClassId} {ba b : Nat} {h0 : gx_H}
theorem gx_nn {z : Int32} (hz : ¬ z < 0) : z.toInt = (z.toNatClampNeg : Int) := by
  have hz0 : (0 : Int) ≤ z.toInt := by
    have := Int32.not_lt.mp hz
    simpa using Int32.le_iff_toInt_le.mp this
  show z.toInt = ((z.toInt.toNat : Nat) : Int)
  omega
set_option maxHeartbeats 4000000 in
theorem gx_biW (hx : p.tables.exec = Jvm.exec) (hb : c.code = cc) {o : Nat} (hml : c.maxLocals = ls.size) (hown : s.vm.findClass (gx_o o) = some m.cls) (hw : ∀ w ∈ gx_words, w.before args s = true) (hA : gx_AK s aC) (hr : gx_rel D aC ba b h0 H) (hlo : ∀ q ∈ locs, ba ≤ q.base) (hR : 8 ≤ R.frames ∧ 300 ≤ R.locals)
    {ins : Instr} {pc pc' : Nat} {st st' : List Value} {h1 : gx_H} (hd : ∃ len, decode cc pc = .ok (ins, len) ∧ gx_lok ins len = true) (h : gx_bi o h0 ins pc st = some (pc', st', h1))
    (kk : ∀ (H1 : Heap) (locs1 : List Loc), gx_rel D aC ba b h1 H1 → (∀ q ∈ locs1, ba ≤ q.base) → (∀ q, q < ba → H1[q]? = H[q]?) → W p l e R s m args below meth c H1 locs1 cells slots Q (F0 m pc' ls (gx_t ba b st'))) :
    W p l e R s m args below meth c H locs cells slots Q (F0 m pc ls (gx_t ba b st)) := by
  obtain ⟨len, hd, hlen⟩ := hd
  cases ins with
  | invokespecial idx =>
    have e1 : len = 3 := by simpa [gx_lok, gx_len] using hlen
    subst e1
    obtain ⟨⟨a, r⟩, h2, h3⟩ := Option.bind_eq_some_iff.mp h
    have h5 := gx_r1_e h2
    subst h5
    dsimp only at h3
    split at h3
    · rename_i hc
      cases h3
      have w1 : Jvm.Cond.methodLink (gx_o o) idx objectInit ∈ gx_words := gx_pick gx_cOI.1 gx_cOI.2 (List.mem_append_left _ (List.mem_map.mpr ⟨_, gx_any hc.1, rfl⟩))
      have w2 : Jvm.Cond.instanceMethod objectInit ∈ gx_words := gx_pick gx_cOI.1 gx_cOI.2 (List.mem_append_right _ List.mem_cons_self)
      have w3 : Jvm.Cond.code objectInit ⟨#[0xb1]⟩ 1 none ∈ gx_words := gx_pick gx_cOI.1 gx_cOI.2 (List.mem_append_right _ (List.mem_cons_of_mem _ List.mem_cons_self))
      refine W.objInit hx hb hown (hw _ w1) (hw _ w2) (hw _ w3) rfl hml.symm rfl hd (by omega) ?_ (kk H locs hr hlo (fun q _ => rfl))
      have := hc.2
      show 2 * 0 + ((gx_t ba b st').map fun v => v.category).sum + 12 ≤ R.locals
      rw [gx_t_cat]
      omega
    · cases h3
  | invokestatic idx =>
    have e1 : len = 3 := by simpa [gx_lok, gx_len] using hlen
    subst e1
    simp only [gx_bi] at h
    split at h
    · rename_i n dp a sp a0 r
      obtain ⟨vs, h2, h3⟩ := Option.bind_eq_some_iff.mp h
      obtain ⟨ws, h4, h5⟩ := Option.bind_eq_some_iff.mp h3
      split at h5
      · rename_i hc
        cases h5
        obtain ⟨c1, c2, c3, c4, c5, c6, c7, c8⟩ := hc
        have w1 : Jvm.Cond.methodLink (gx_o o) idx arraycopyName ∈ gx_words := gx_pick gx_cAC.1 gx_cAC.2 (List.mem_append_left _ (List.mem_map.mpr ⟨_, gx_any c1, rfl⟩))
        have w2 : Jvm.Cond.native arraycopyName ∈ gx_words := gx_pick gx_cAC.1 gx_cAC.2 (List.mem_append_right _ List.mem_cons_self)
        have w3 : Jvm.Cond.static arraycopyName ∈ gx_words := gx_pick gx_cAC.1 gx_cAC.2 (List.mem_append_right _ (List.mem_cons_of_mem _ List.mem_cons_self))
        have w4 : Jvm.Cond.initialized "java/lang/System" ∈ gx_words := gx_pick gx_cAC.1 gx_cAC.2 (List.mem_append_right _ (List.mem_cons_of_mem _ (List.mem_cons_of_mem _ List.mem_cons_self)))
        obtain ⟨cs, s1, s2, s3, s4⟩ := (hr.2 _ _ (gx_ob_e h2)).arr (t := 0)
        obtain ⟨cd, d1, d2, d3, d4⟩ := (hr.2 _ _ (gx_ob_e h4)).arr (t := 0)
        obtain ⟨k, comp, k1, k2, -⟩ := hA 0 (by decide)
        have hst := gx_stretch (ba := ba) (b := b) (sp := sp.toNatClampNeg) (n := n.toNatClampNeg) s4
        intro T hT X
        obtain ⟨vm', X', step⟩ := X.arraycopy hx hown (hw _ w1) (hw _ w2) (hw _ w3) (hw _ w4) (src := ba + a0) (dst := ba + a) (cs := cs) (cd := cd) (srcPos := sp) (destPos := dp) (n := n) (by rw [hT]; exact s1) (by rw [hT]; exact d1)
          (fun _ h => by rw [s3] at h; cases h) (fun _ h => by rw [d3] at h; cases h) (gx_known s3) (gx_known d3) (by rw [s2]; exact k1) (by rw [d2]; exact k1) k2 k2 rfl c3 c4 c5
          (by rw [gx_nn c3, gx_nn c5, gx_size s4]; omega) (by rw [gx_nn c4, gx_nn c5, gx_size d4]; omega)
          (fun vm₁ _ i hi => by
            have hi2 : sp.toNatClampNeg + i < vs.length := by omega
            have e1 : cs.slots.getD (sp.toNatClampNeg + i) .null = gx_v ba b vs[sp.toNatClampNeg + i] := by
              rw [Array.getD_eq_getD_getElem?, gx_slot s4 (List.getElem?_eq_getElem hi2)]
              rfl
            obtain ⟨x, hx1⟩ := Option.isSome_iff_exists.mp (List.all_eq_true.mp c8 _ (List.getElem_mem hi2))
            rw [e1, gx_i1_e hx1]
            exact ⟨rfl, trivial⟩)
          (g := F0 m pc ls (.int n :: .int dp :: .ref (ba + a) :: .int sp :: .ref (ba + a0) :: gx_t ba b st')) rfl (by rw [hml]) (rest := gx_t ba b st') rfl (by rw [hb]; exact hd) (by omega) (by
            have e7 : nativeFrameWords "java/lang/System" "arraycopy" 5 ≤ 200 := by decide +kernel
            show 2 * 0 + ((gx_t ba b st').map fun v => v.category).sum + _ ≤ _
            rw [gx_t_cat]
            omega)
        have hl : ba + a < H.size := (Array.getElem?_eq_some_iff.mp d1).1
        have e5 : copied cs cd sp dp n = cd.storePairs dp.toNatClampNeg ((((List.range n.toNatClampNeg).map fun i => vs.getD (sp.toNatClampNeg + i) .null).zipIdx).map (fun q => (gx_v ba b q.1, q.2))) := by
          show cd.storeRun _ (cs.stretch _ _) = _
          rw [hst, Cell.storeRun, gx_zip]
        obtain ⟨p1, p2, p3⟩ := gx_pairs (at_ := dp.toNatClampNeg) (((List.range n.toNatClampNeg).map fun i => vs.getD (sp.toNatClampNeg + i) .null).zipIdx) ws cd d4
        have hheap : ((T.setVm vm').setCell (ba + a) (copied cs cd sp dp n)).heap = H.setIfInBounds (ba + a) (copied cs cd sp dp n) := by rw [← hT]; rfl
        obtain ⟨t, a1, b1⟩ := kk (H.setIfInBounds (ba + a) (copied cs cd sp dp n)) _ (hr.set (by simp) (fun q hq => by simp [Array.getElem?_setIfInBounds, Ne.symm hq]) (gx_at_arr (t := 0) ⟨copied cs cd sp dp n, by simp [Array.getElem?_setIfInBounds, hl], by rw [e5, p2]; exact d2, by rw [e5, p3]; exact d3, by rw [e5]; exact p1⟩))
          (fun q hq => by
            rcases List.mem_append.mp hq with g | g
            · exact hlo q g
            · obtain ⟨z, -, hz⟩ := List.mem_map.mp g
              rw [← hz]
              exact Nat.le_add_right _ _)
          (fun q hq => by simp [Array.getElem?_setIfInBounds, show ba + a ≠ q by omega]) _ hheap X'
        exact ⟨t, step t a1, b1⟩
      · cases h5
    · cases h
  | _ => cases h
end GXB
