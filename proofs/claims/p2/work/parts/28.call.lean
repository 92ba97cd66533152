/-! calls: of method j, arguments A (the receiver first), rest: what stays on the stack -/
def gx_mt (o idx : Nat) : Option (Nat × Bool) := (gx_MT.find? (fun q => q.1 == o && q.2.1 == idx)).map (fun q => q.2.2)
def gx_c (o : Nat) (h : gx_H) (ins : Instr) (st : List Value) : Option (Nat × List Value × List Value) := match ins with
  | .invokestatic idx => (gx_mt o idx).bind fun q => if gx_kd q.1 = 0 ∧ gx_np q.1 ≤ st.length then some (q.1, (st.take (gx_np q.1)).reverse, st.drop (gx_np q.1)) else none
  | .invokevirtual idx => (gx_mt o idx).bind fun q => if gx_kd q.1 = 1 ∧ gx_np q.1 ≤ st.length then (gx_r1 (st.drop (gx_np q.1))).bind fun z => (gx_ob h z.1 (gx_rc q.1)).map fun _ => (q.1, .ref z.1 :: (st.take (gx_np q.1)).reverse, z.2) else none
  | .invokespecial idx => (gx_mt o idx).bind fun q => if gx_kd q.1 = 2 ∧ gx_np q.1 ≤ st.length then (gx_r1 (st.drop (gx_np q.1))).map fun z => (q.1, .ref z.1 :: (st.take (gx_np q.1)).reverse, z.2) else none
  | _ => none
theorem gx_sw {o idx j : Nat} {n : Bool} (h : gx_mt o idx = some (j, n)) : (if n = true then Jvm.Cond.methodLinkNest (gx_o o) idx (gx_y j) gx_host else Jvm.Cond.methodLink (gx_o o) idx (gx_y j)) ∈ gx_words ∧ j < gx_nj := by
  have h1 := gx_find h
  exact ⟨gx_wS (List.mem_map.mpr ⟨_, h1, rfl⟩), gx_mtj h1⟩
section GXC
variable {p : Program} {l : Launch} {e : Env} {R : Room} {s : State} {m : MethodId} {args : Array Value} {below : List Frame} {meth : Method} {c : Code} {T : State} {locs : List Loc} {cells slots : Nat}
variable {cc : ByteArray} {ls : Array Slot} {D : va_G} {aC : Nat → ClassId} {ba b : Nat} {h0 : gx_H}
/-- what the tables say of method j -/
theorem gx_meth (hw : ∀ w ∈ gx_words, w.before args s = true) {j : Nat} (hj : j < gx_nj) (hk : gx_kd j ≠ 9) : ∃ (mk : MethodId) (mt : Method) (ct : Code), s.methodNamed? (gx_y j) = some mk ∧ s.vm.method? mk = some mt ∧ mt.code = some ct ∧ ct.code = gx_b j ∧ ct.maxLocals = gx_nl j ∧
    ct.exceptionTable.toList.map (fun h => (h.startPc, h.endPc, h.handlerPc, h.catchType)) = gx_hd j ∧ mt.sig.returnType = gx_rt j ∧ mt.locks = false ∧ mt.sig.parameters.length = gx_np j ∧ ∃ kk : Class, s.vm.classes[mk.cls]? = some kk ∧ kk.init = .initialized := by
  have hc := hw _ (gx_wM0 hj hk).1
  have hi := hw _ (gx_wM0 hj hk).2
  have hnp := gx_npok j hj
  by_cases he : gx_hd j = []
  · rw [if_pos he] at hc
    obtain ⟨mk, hn⟩ := Cond.code_named hc
    obtain ⟨mt, ct, h1, h2, h3, h4, h5, h6, h7, h8⟩ := Cond.code_spec hn hc
    obtain ⟨kP, hkP, -⟩ := className_of_methodNamed hn
    rw [h8] at hnp
    refine ⟨mk, mt, ct, hn, h1, h2, h3, h4, ?_, h5, h6, Option.some.inj hnp, kP, hkP, Cond.initialized_spec (findClass_of_methodNamed hn) hkP hi⟩
    have h0 : ct.exceptionTable.size = 0 := by simpa [Array.isEmpty] using h7
    have h9 : ct.exceptionTable.toList = [] := List.eq_nil_of_length_eq_zero (by simpa using h0)
    rw [h9, he]
    rfl
  · rw [if_neg he] at hc
    obtain ⟨mk, mt, ct, hn, h1, h2, h3, h4, h5, h6, h7, h8⟩ := Cond.codeWith_spec hc
    obtain ⟨kP, hkP, -⟩ := className_of_methodNamed hn
    rw [h8] at hnp
    exact ⟨mk, mt, ct, hn, h1, h2, h3, h4, h5, h6, h7, Option.some.inj hnp, kP, hkP, Cond.initialized_spec (findClass_of_methodNamed hn) hkP hi⟩
theorem gx_stk {st : List Value} {n : Nat} : gx_t ba b st = ((gx_t ba b (st.take n).reverse)).reverse ++ gx_t ba b (st.drop n) := by
  simp only [gx_t, List.map_reverse, List.reverse_reverse, ← List.map_append, List.take_append_drop]
set_option maxHeartbeats 4000000 in
theorem gx_into (X : Stand p l e R s m args below meth c T locs cells slots) (hx : p.tables.exec = Jvm.exec) (hb : c.code = cc) {o : Nat} (hown : s.vm.findClass (gx_o o) = some m.cls) (hw : ∀ w ∈ gx_words, w.before args s = true) (hK : gx_KN s D) (hr : gx_rel D aC ba b h0 T.heap)
    {ins : Instr} {pc j : Nat} {st A rest : List Value} (hd : ∃ len, decode cc pc = .ok (ins, len) ∧ gx_lok ins len = true) (h : gx_c o h0 ins st = some (j, A, rest)) :
    ∃ (vm₁ : Vm) (mk : MethodId), s.methodNamed? (gx_y j) = some mk ∧ j < gx_nj ∧ Stand p l e R s m args below meth c (T.setVm vm₁) locs cells slots ∧ decode cc pc = .ok (ins, 3) ∧
      ∀ target, (∀ acts, Steps p.tables e below (doInvoke e ((T.setVm vm₁).setTop (F0 m pc ls (gx_t ba b rest))) acts mk (gx_t ba b A).toArray).1 target) → Steps p.tables e below (T.setTop (F0 m pc ls (gx_t ba b st))) target := by
  obtain ⟨len, hd, hlen⟩ := hd
  cases ins with
  | invokestatic idx =>
    have e1 : len = 3 := by simpa [gx_lok, gx_len] using hlen
    subst e1
    obtain ⟨⟨j', n⟩, h1, h2⟩ := Option.bind_eq_some_iff.mp h
    dsimp only at h2
    split at h2
    · rename_i hc
      cases h2
      obtain ⟨hs1, hj⟩ := gx_sw h1
      obtain ⟨mk, mt, ct, q1, q2, q3, q4, q5, q6, q7, q8, q9, kP, q10, q11⟩ := gx_meth hw hj (by rw [hc.1]; decide)
      have hsta := hw _ (gx_w0 hj hc.1)
      have hstatic : mt.isStatic = true := Cond.static_spec q1 q2 hsta
      have hln : (gx_t ba b (st.take (gx_np j)).reverse).length = mt.sig.parameters.length := by rw [q9]; simp [gx_t, hc.2]
      have hsite := hw _ hs1
      cases n with
      | true =>
        obtain ⟨vm₁, X₁, st1⟩ := X.invokestaticNest hx hown hsite q1 q2 hstatic q10 q11 (gx_plain j hj).2 (g := F0 m pc ls (gx_t ba b st)) rfl hln (rest := gx_t ba b (st.drop (gx_np j))) gx_stk (by rw [hb]; exact hd)
        exact ⟨vm₁, mk, q1, hj, X₁, hd, st1⟩
      | false =>
        obtain ⟨vm₁, X₁, st1⟩ := X.invokestatic hx hown hsite q1 q2 hstatic q10 q11 (gx_plain j hj).2 (g := F0 m pc ls (gx_t ba b st)) rfl hln (rest := gx_t ba b (st.drop (gx_np j))) gx_stk (by rw [hb]; exact hd)
        exact ⟨vm₁, mk, q1, hj, X₁, hd, st1⟩
    · cases h2
  | invokevirtual idx =>
    have e1 : len = 3 := by simpa [gx_lok, gx_len] using hlen
    subst e1
    obtain ⟨⟨j', n⟩, h1, h2⟩ := Option.bind_eq_some_iff.mp h
    dsimp only at h2
    split at h2
    · rename_i hc
      obtain ⟨⟨a, z⟩, h3, h4⟩ := Option.bind_eq_some_iff.mp h2
      obtain ⟨fs, h5, h6⟩ := Option.map_eq_some_iff.mp h4
      cases h6
      have h7 := gx_r1_e h3
      obtain ⟨hs1, hj⟩ := gx_sw h1
      obtain ⟨mk, mt, ct, q1, q2, q3, q4, q5, q6, q7, q8, q9, kP, q10, q11⟩ := gx_meth hw hj (by rw [hc.1]; decide)
      have hln : (gx_t ba b (st.take (gx_np j)).reverse).length = mt.sig.parameters.length := by rw [q9]; simp [gx_t, hc.2]
      have hstk : gx_t ba b st = (gx_t ba b (st.take (gx_np j)).reverse).reverse ++ .ref (ba + a) :: gx_t ba b z := by
        rw [gx_stk (ba := ba) (b := b) (st := st) (n := gx_np j), h7]
        rfl
      obtain ⟨r1, g1, g2, cell, w1, w2, w3, -⟩ := (hr.2 _ _ (gx_ob_e h5)).obj (gx_rc_lt hj hc.1)
      have hcl := (hK _ _ g1).2.1
      rw [gx_rc_nm hj hc.1 g1] at hcl
      have hinst := hw _ (gx_w1 hj hc.1).1
      have hsel := hw _ (gx_w1 hj hc.1).2
      obtain ⟨mk', mt', i1, i2, i3, i4⟩ := Cond.instanceMethod_spec hinst
      cases q1.symm.trans i1
      cases q2.symm.trans i2
      obtain ⟨c2, r2, m2, s1, s2, s3, s4, kQ, s5, s6⟩ := Cond.selects_spec hsel
      cases hcl.symm.trans s1
      cases (State.methodFound?_of_named q1 (gx_plain j hj).2).symm.trans s2
      cases q1.symm.trans s3
      have hselP : selectMethod e.platform s.vm cell.cls mk = .method mk := by rw [Launch.admits_selectMethod X.admits, w2]; exact s4
      have hsite := hw _ hs1
      cases n with
      | true =>
        obtain ⟨vm₁, X₁, st1⟩ := X.invokevirtualNest hx hown hsite q1 q2 i3 s5 s6 (gx_plain j hj).2 w1 (fun z h => by rw [w3] at h; cases h) hselP q2 i4 s5 s6 (g := F0 m pc ls (gx_t ba b st)) rfl hln (rest := gx_t ba b z) hstk (by rw [hb]; exact hd)
        exact ⟨vm₁, mk, q1, hj, X₁, hd, st1⟩
      | false =>
        obtain ⟨vm₁, X₁, st1⟩ := X.invokevirtual hx hown hsite q1 q2 i3 s5 s6 (gx_plain j hj).2 w1 (fun z h => by rw [w3] at h; cases h) hselP q2 i4 s5 s6 (g := F0 m pc ls (gx_t ba b st)) rfl hln (rest := gx_t ba b z) hstk (by rw [hb]; exact hd)
        exact ⟨vm₁, mk, q1, hj, X₁, hd, st1⟩
    · cases h2
  | invokespecial idx =>
    have e1 : len = 3 := by simpa [gx_lok, gx_len] using hlen
    subst e1
    obtain ⟨⟨j', n⟩, h1, h2⟩ := Option.bind_eq_some_iff.mp h
    dsimp only at h2
    split at h2
    · rename_i hc
      obtain ⟨⟨a, z⟩, h3, h6⟩ := Option.map_eq_some_iff.mp h2
      cases h6
      have h7 := gx_r1_e h3
      obtain ⟨hs1, hj⟩ := gx_sw h1
      obtain ⟨i1, i2, i3, i4⟩ := gx_w2 hj hc.1
      have hinst := hw _ i1
      have hcode := hw _ i2
      have hpl : e.platform.magicAccessors = ({} : Platform).magicAccessors := by rw [X.admits.platform]
      have hln : ∀ sig, parseMethodDescriptor (gx_y j).desc = some sig → (gx_t ba b (st.take (gx_np j)).reverse).length = sig.parameters.length := fun sig hsig => by
        have hnp := gx_npok j hj
        rw [hsig] at hnp
        have hnp : sig.parameters.length = gx_np j := Option.some.inj hnp
        rw [hnp]
        simp [gx_t, hc.2]
      have hstk : gx_t ba b st = (gx_t ba b (st.take (gx_np j)).reverse).reverse ++ .ref (ba + a) :: gx_t ba b z := by
        rw [gx_stk (ba := ba) (b := b) (st := st) (n := gx_np j), h7]
        rfl
      have hsite := hw _ hs1
      cases n with
      | true =>
        obtain ⟨mk, mt, ct, kP, vm₁, q1, -, -, -, -, -, -, -, hW₁, st1⟩ := Steps.initColdArgsNest (e := e) X.here hx X.warmed hpl hown i3 (gx_plain j hj).2 hsite hinst hcode (f := F0 m pc ls (gx_t ba b st)) rfl hln hstk (by rw [hb]; exact hd)
        exact ⟨vm₁, mk, q1, hj, X.noted hW₁, hd, st1⟩
      | false =>
        obtain ⟨mk, mt, ct, kP, vm₁, q1, -, -, -, -, -, -, -, hW₁, st1⟩ := Steps.initColdArgs (e := e) X.here hx X.warmed hpl hown i3 (gx_plain j hj).2 hsite hinst hcode (f := F0 m pc ls (gx_t ba b st)) rfl hln hstk (by rw [hb]; exact hd)
        exact ⟨vm₁, mk, q1, hj, X.noted hW₁, hd, st1⟩
    · cases h2
  | _ => cases h
end GXC
