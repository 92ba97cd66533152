section
def gx_xtw (z : Nat × Nat × Nat) : List Jvm.Cond := [.classLink (gx_o z.1) z.2.1 (gx_xn z.2.2), .castable (gx_xn z.2.2) (gx_xn z.2.2)]
set_option maxRecDepth 100000 in
theorem gx_cXT : gx_XT.flatMap gx_xtw = [(11, 29), (12, 5), (11, 30), (14, 22), (12, 3), (12, 5), (14, 20), (14, 22), (19, 11), (19, 22), (19, 20), (19, 22), (21, 6), (24, 27), (24, 25), (24, 27)].filterMap gx_pt ∧ (gx_XT.flatMap gx_xtw).all gx_mv = true := ⟨rfl, by decide +kernel⟩
theorem gx_XTok : ∀ z ∈ gx_XT, z.2.1 ≠ 0 ∧ z.2.2 < 100 := by decide +kernel
end
section
theorem gx_args {ba b : Nat} : ∀ (A : List Value) (i : Nat), lv_args i (gx_t ba b A) = gx_l ba b (lv_args i A)
  | [], _ => rfl
  | v :: A, i => by
    show (i, gx_v ba b v) :: lv_args (if (gx_v ba b v).category = 2 then i + 2 else i + 1) (gx_t ba b A) = (i, gx_v ba b v) :: gx_l ba b (lv_args (if v.category = 2 then i + 2 else i + 1) A)
    rw [gx_v_cat, gx_args A]
theorem gx_sl {ba b : Nat} : ∀ (A : List Value), (lg_sl (gx_t ba b A)).length = (lg_sl A).length
  | [] => rfl
  | v :: A => by
    show (lg_sl (gx_v ba b v :: gx_t ba b A)).length = _
    unfold lg_sl
    rw [List.flatMap_cons, List.flatMap_cons, List.length_append, List.length_append, gx_v_cat]
    have := gx_sl (ba := ba) (b := b) A
    unfold lg_sl at this
    rw [this]
    congr 1
    split <;> rfl
theorem gx_c_kd {o j : Nat} {h : gx_H} {ins : Instr} {st A rest : List Value} (hc : gx_c o h ins st = some (j, A, rest)) : gx_kd j ≠ 9 := by
  unfold gx_c at hc
  split at hc
  · obtain ⟨⟨j', n⟩, h1, h2⟩ := Option.bind_eq_some_iff.mp hc
    dsimp only at h2
    split at h2
    · rename_i hk; cases h2; rw [hk.1]; decide
    · cases h2
  · obtain ⟨⟨j', n⟩, h1, h2⟩ := Option.bind_eq_some_iff.mp hc
    dsimp only at h2
    split at h2
    · rename_i hk
      obtain ⟨z, h3, h4⟩ := Option.bind_eq_some_iff.mp h2
      obtain ⟨fs, h5, h6⟩ := Option.map_eq_some_iff.mp h4
      cases h6; rw [hk.1]; decide
    · cases h2
  · obtain ⟨⟨j', n⟩, h1, h2⟩ := Option.bind_eq_some_iff.mp hc
    dsimp only at h2
    split at h2
    · rename_i hk
      obtain ⟨z, h3, h4⟩ := Option.map_eq_some_iff.mp h2
      cases h4; rw [hk.1]; decide
    · cases h2
  · cases hc
section GXR
variable {p : Program} {l : Launch} {e : Env} {R : Room} {s : State} {m : MethodId} {args : Array Value} {below : List Frame} {meth : Method} {c : Code} {H : Heap} {locs : List Loc} {cells slots : Nat}
variable {ls : Array Slot} {s₀ : State} {D : va_G} {aC : Nat → ClassId} {ba b : Nat} {h0 : gx_H} {xs : Option (List Int32)} {j : Nat}
theorem gx_endQ {v : Option Value} (hr : gx_rel D aC ba b h0 H) (hH : ∀ q, q < ba → H[q]? = s.heap[q]?) (t : State) (h : MQ below (fun _ _ o t => o = .returned (v.map (gx_v ba b)) ∧ t.heap = H) args s cells slots (fun q => ba ≤ q) t) : gx_Q D aC ba b s below (.returned v) h0 cells slots t := by
  obtain ⟨o, h1, h2, ⟨rfl, h4⟩, L, ⟨-, h5, h6⟩, h7⟩ := h
  exact ⟨h1, h2, h5, ⟨L, h6, h7⟩, by rw [h4]; exact hr, fun q hq => by rw [h4]; exact hH q hq⟩
set_option maxHeartbeats 4000000 in
theorem gx_eW (C0 : gx_cx p e s₀ D aC ba b xs j s m meth c) (hr : gx_rel D aC ba b h0 H) (hH : ∀ q, q < ba → H[q]? = s.heap[q]?) (hlo : ∀ q ∈ locs, ba ≤ q.base)
    {ins : Instr} {pc : Nat} {st : List Value} {v : Option Value} (hi : gx_I j pc = some ins) (h : gx_e j ins st = some v) :
    W p l e R s m args below meth c H locs cells slots (gx_Q D aC ba b s below (.returned v) h0 cells slots) (F0 m pc ls (gx_t ba b st)) := by
  obtain ⟨hx, htr, hb, hnl, hhand, hret, hlocks, hini, hown, hs0, hle, hrel0⟩ := C0
  obtain ⟨len, hd, hlen⟩ := gx_dec hi
  cases ins with
  | return_ =>
    have e1 : len = 1 := by simpa [gx_lok, gx_len] using hlen
    subst e1
    simp only [gx_e] at h
    split at h
    · split at h
      · rename_i hn
        cases h
        refine W.mono ?_ (gx_endQ (args := args) hr hH)
        exact W.vret hx hb (hret.trans hn) (fun t ht _ => ⟨rfl, ht⟩) hlo hd hlocks
      · cases h
    · cases h
  | ireturn =>
    have e1 : len = 1 := by simpa [gx_lok, gx_len] using hlen
    subst e1
    simp only [gx_e] at h
    split at h
    · split at h
      · rename_i ty hty
        split at h
        · rename_i hn
          cases h
          refine W.mono ?_ (gx_endQ (args := args) hr hH)
          exact W.zret hx hb (hret.trans hty) hn (fun t ht _ => ⟨rfl, ht⟩) hlo hd hlocks
        · cases h
      · cases h
    · cases h
  | lreturn =>
    have e1 : len = 1 := by simpa [gx_lok, gx_len] using hlen
    subst e1
    simp only [gx_e] at h
    split at h
    · split at h
      · rename_i hn
        cases h
        refine W.mono ?_ (gx_endQ (args := args) hr hH)
        exact W.lret hx hb (hret.trans hn) (fun t ht _ => ⟨rfl, ht⟩) hlo hd hlocks
      · cases h
    · cases h
  | areturn =>
    have e1 : len = 1 := by simpa [gx_lok, gx_len] using hlen
    subst e1
    simp only [gx_e] at h
    split at h
    · rename_i v0
      split at h
      · rename_i hn
        cases h
        refine W.mono ?_ (gx_endQ (args := args) hr hH)
        have hv : gx_v ba b v0 = .null ∨ ∃ a, gx_v ba b v0 = .ref a := by
          have := hn.1
          cases v0 <;> simp_all [Value.isRef, gx_v]
        cases hrt : gx_rt j with
        | none => rw [hrt] at hn; cases hn.2
        | some rt =>
          have hrr : (∃ n, rt = .object n) ∨ ∃ t, rt = .array t := by
            have h2 := hn.2
            rw [hrt] at h2
            cases rt <;> simp_all [gx_rr]
          exact W.aret hx hb (hret.trans hrt) hrr hv (fun t ht _ => ⟨rfl, ht⟩) hlo hd hlocks
      · cases h
    · cases h
  | _ => cases h
end GXR
end
section
/-- what the run of n steps gives, said of the machine -/
def gx_IH (xs : Option (List Int32)) (n : Nat) : Prop := ∀ (d j pc : Nat) (L : gx_L) (st : List Value) (h : gx_H) (k u : Nat) (o : Outcome) (h' : gx_H) (k' u' : Nat), gx_run xs n d j pc L st h k u = some (o, h', k', u') →
    ∀ {p : Program} {l : Launch} {e : Env} {R : Room} {s : State} {m : MethodId} {args : Array Value} {below : List Frame} {meth : Method} {c : Code} {H : Heap} {locs : List Loc} {ls : Array Slot} {s₀ : State} {D : va_G} {aC : Nat → ClassId} {ba b : Nat},
      gx_cx p e s₀ D aC ba b xs j s m meth c → gx_rel D aC ba b h H → (∀ q ∈ locs, ba ≤ q.base) → (∀ q, q < ba → H[q]? = s₀.heap[q]?) → lv_has ls (gx_nl j) (gx_l ba b L) → gx_rm d R → k' ≤ R.cells → u' ≤ R.slots →
      W p l e R s m args below meth c H locs k u (gx_Q D aC ba b s below o h' k' u') (F0 m pc ls (gx_t ba b st))
theorem gx_catN {o pc : Nat} {h : gx_H} {x : Nat} : ∀ (l : List (Nat × Nat × Nat × Nat)) (seen : Bool), gx_catL o pc h x l seen = some none → seen = false ∧ ∀ q ∈ l, gx_cov q pc = false := by
  intro l
  induction l with
  | nil =>
    intro seen hc
    rw [gx_catL] at hc
    split at hc
    · cases hc
    · rename_i hs
      exact ⟨by simpa using hs, fun q hq => by cases hq⟩
  | cons y l ih =>
    intro seen hc
    rw [gx_catL] at hc
    split at hc
    · obtain ⟨t, -, hc1⟩ := Option.bind_eq_some_iff.mp hc
      obtain ⟨z, -, hc2⟩ := Option.bind_eq_some_iff.mp hc1
      split at hc2
      · cases hc2
      · split at hc2
        · have := (ih true hc2).1; cases this
        · cases hc2
    · rename_i hcov
      obtain ⟨h1, h2⟩ := ih seen hc
      refine ⟨h1, fun q hq => ?_⟩
      rcases List.mem_cons.mp hq with rfl | hq
      · simpa using hcov
      · exact h2 q hq
theorem gx_catS {o pc pc' : Nat} {h : gx_H} {x : Nat} : ∀ (l : List (Nat × Nat × Nat × Nat)) (seen : Bool), gx_catL o pc h x l seen = some (some pc') → ∃ t fs idx, h[x]? = some (t, fs) ∧ gx_xt o idx = some t := by
  intro l
  induction l with
  | nil =>
    intro seen hc
    rw [gx_catL] at hc
    split at hc <;> cases hc
  | cons y l ih =>
    intro seen hc
    rw [gx_catL] at hc
    split at hc
    · obtain ⟨t, ht, hc1⟩ := Option.bind_eq_some_iff.mp hc
      obtain ⟨⟨t1, fs⟩, hz, hc2⟩ := Option.bind_eq_some_iff.mp hc1
      split at hc2
      · rename_i he
        exact ⟨t1, fs, _, hz, by rw [ht]; exact congrArg some he.symm⟩
      · split at hc2
        · exact ih true hc2
        · cases hc2
    · exact ih seen hc
set_option maxHeartbeats 8000000 in
theorem gx_callW {xs : Option (List Int32)} {n : Nat} (ih : gx_IH xs n) {p : Program} {l : Launch} {e : Env} {R : Room} {s : State} {m : MethodId} {args : Array Value} {below : List Frame} {meth : Method} {c : Code} {H : Heap} {locs : List Loc} {ls : Array Slot} {s₀ : State} {D : va_G} {aC : Nat → ClassId} {ba b : Nat}
    {d' j pc : Nat} {L : gx_L} {st : List Value} {h : gx_H} {k u : Nat} {o : Outcome} {h' : gx_H} {k' u' : Nat} (C0 : gx_cx p e s₀ D aC ba b xs j s m meth c) (hr : gx_rel D aC ba b h H) (hlo : ∀ q ∈ locs, ba ≤ q.base) (hH : ∀ q, q < ba → H[q]? = s₀.heap[q]?) (hl : lv_has ls (gx_nl j) (gx_l ba b L)) (hrm : gx_rm (d' + 1) R) (hk : k' ≤ R.cells) (hu : u' ≤ R.slots) (hmo : k ≤ k' ∧ u ≤ u')
    {ins : Instr} (hi : gx_I j pc = some ins) {j' : Nat} {A rest : List Value} (hq : gx_c (gx_mo j) h ins st = some (j', A, rest)) (hgd : (rest.map fun v => v.category).sum ≤ 8 ∧ (lg_sl A).length ≤ gx_nl j')
    (er : (match gx_run xs n d' j' 0 (lv_args 0 A) [] h 0 0 with
      | some (.returned v, h', kc, uc) => gx_run xs n (d' + 1) j (pc + 3) L (v.toList ++ rest) h' (k + kc) (u + uc)
      | some (.threw x, h', kc, uc) => (match gx_cat j pc h' x with
        | some none => some (.threw x, h', k + kc, u + uc)
        | some (some pc') => gx_run xs n (d' + 1) j pc' L [.ref x] h' (k + kc) (u + uc)
        | none => none)
      | none => none) = some (o, h', k', u')) :
    W p l e R s m args below meth c H locs k u (gx_Q D aC ba b s below o h' k' u') (F0 m pc ls (gx_t ba b st)) := by
  have C0' := C0
  obtain ⟨hx, htr, hb, hnl, hhand, hret, hlocks, hini, hown, hs0, hle, hrel0⟩ := C0
  have hw := gx_wat (A := args) hs0 hle
  have hKN := gx_KNm hs0.2.2.2.2.1 hle.1.alike
  have hml : c.maxLocals = ls.size := hnl.trans hl.1.symm
  intro T hT X
  obtain ⟨vm₁, mk, hnm, hj', X₁, hdec, hstep⟩ := gx_into (ls := ls) X hx hb hown hw hKN (by rw [hT]; exact hr) (gx_dec hi) hq
  obtain ⟨mk', mt, ct, q1, q2, q3, q4, q5, q6, q7, q8, q9, kk, q10, q11⟩ := gx_meth hw hj' (gx_c_kd hq)
  cases hnm.symm.trans q1
  have hpt := gx_parts hj'
  have hnl80 : gx_nl j' ≤ 80 := hpt.2.2.2.2.2.2.2
  have hmk : (T.setVm vm₁).vm.method? mk = some mt := by rw [X₁.warmed.alike.method?]; exact q2
  have hpk : (T.setVm vm₁).plainMethod mk := State.plainMethod.of_named hpt.2.1 (X₁.named q1) hmk
  have hr1 := hrm.1
  have hr2 := hrm.2
  have hwt : ((gx_t ba b rest).map fun v => v.category).sum ≤ 8 := by rw [gx_t_cat]; exact hgd.1
  obtain ⟨Y₀, hin⟩ := X₁.into (g := F0 m pc ls (gx_t ba b rest)) rfl hml.symm (by rw [hb]; exact hdec) (gx_t ba b A).toArray (R' := { frames := R.frames - 1, cells := R.cells - k, slots := R.slots - u, locals := R.locals - (8 + (gx_nl j' + 11)) }) hmk q3 q8 hpk
    (by show R.frames - 1 + 1 ≤ R.frames; omega) (by
      rw [q5]
      show 2 * 0 + ((gx_t ba b rest).map fun v => v.category).sum + (gx_nl j' + 11) + (R.locals - (8 + (gx_nl j' + 11))) ≤ R.locals
      omega) (by show k + (R.cells - k) ≤ R.cells; omega) (by show u + (R.slots - u) ≤ R.slots; omega)
  have hHT : T.heap = H := hT
  have C1 : gx_cx p e s₀ D aC ba b xs j' ((T.setVm vm₁).calling (F0 m pc ls (gx_t ba b rest)) mk (gx_t ba b A).toArray) mk mt ct := by
    refine ⟨hx, htr, q4, q5, q6, q7, q8, fun hin2 => ?_, ?_, hs0, ⟨State.WarmedH.trans hle.1 X₁.warmed, fun z hz => ?_⟩, h, ?_⟩
    · have hk2 : gx_kd j' = 2 := by simpa [gx_in] using hin2
      rw [(name_of_methodNamed q1 q2).1]
      exact (hpt.2.2.2.2.2.2.1 hk2).1
    · show vm₁.findClass _ = _
      have a1 := findClass_of_methodNamed q1
      rw [hpt.2.2.2.2.1] at a1
      have a2 : (T.setVm vm₁).vm.findClass (gx_o (gx_mo j')) = s.vm.findClass (gx_o (gx_mo j')) := X₁.warmed.alike.findClass _ _
      exact a2.trans a1
    · show T.heap[z]? = _
      rw [hHT]
      exact hH z (by rw [hs0.1]; exact hz)
    · show gx_rel D aC ba b h T.heap
      rw [hHT]
      exact hr
  have hl1 : lv_has ((lg_sl (gx_t ba b A) ++ List.replicate (gx_nl j' - (lg_sl (gx_t ba b A)).length) Slot.unset).toArray) (gx_nl j') (gx_l ba b (lv_args 0 A)) := by
    rw [← gx_args]
    exact lv_entry (gx_t ba b A) (by rw [gx_sl]; exact hgd.2)
  have hrm' : gx_rm d' { frames := R.frames - 1, cells := R.cells - k, slots := R.slots - u, locals := R.locals - (8 + (gx_nl j' + 11)) } := ⟨by show d' + 8 ≤ R.frames - 1; omega, by show d' * 100 + 300 ≤ R.locals - (8 + (gx_nl j' + 11)); omega⟩
  -- the callee's run
  have callee : ∀ (oc : Outcome) (hc : gx_H) (kc uc : Nat), gx_run xs n d' j' 0 (lv_args 0 A) [] h 0 0 = some (oc, hc, kc, uc) → kc ≤ R.cells - k → uc ≤ R.slots - u →
      ∃ t, Steps p.tables e below (doInvoke e ((T.setVm vm₁).setTop (F0 m pc ls (gx_t ba b rest))) [] mk (gx_t ba b A).toArray).1 t ∧ gx_Q D aC ba b ((T.setVm vm₁).calling (F0 m pc ls (gx_t ba b rest)) mk (gx_t ba b A).toArray) (.java (F0 m pc ls (gx_t ba b rest)) :: below) oc hc kc uc t := by
    intro oc hc kc uc hrun hkc huc
    have K := ih d' j' 0 (lv_args 0 A) [] h 0 0 oc hc kc uc hrun (l := l) (e := e) (args := (gx_t ba b A).toArray) (below := .java (F0 m pc ls (gx_t ba b rest)) :: below) (H := H) (locs := []) C1 hr (fun z hz => by cases hz) hH hl1 hrm' hkc huc
    obtain ⟨t, a1, a2⟩ := K _ (by show T.heap = H; exact hHT) Y₀
    refine ⟨t, ?_, a2⟩
    rw [hin [], q5, lg_entry_eq]
    rw [q5, lg_entry_eq] at a1
    exact gx_under a1
  split at er
  · rename_i v hc kc uc hrun
    have hm2 := gx_mono xs _ _ _ _ _ _ _ _ _ _ _ _ _ er
    obtain ⟨t, a1, t1, t2, t3, ⟨L2, t4, t5⟩, t6, t7⟩ := callee _ _ _ _ hrun (by omega) (by omega)
    obtain ⟨T', X', hW', hB', ht⟩ := X₁.outOf (g := F0 m pc ls (gx_t ba b rest)) rfl (by rw [hb]; exact hdec) t2 t3 t4
    have hheap : T'.heap = t.heap := by
      have := congrArg State.heap ht
      simpa using this.symm
    have K2 := ih (d' + 1) j (pc + 3) L (v.toList ++ rest) hc (k + kc) (u + uc) o h' k' u' er (l := l) (e := e) (args := args) (below := below) (H := T'.heap) (locs := locs ++ L2) C0' (by rw [hheap]; exact t6)
      (fun z hz => (List.mem_append.mp hz).elim (hlo z) (t5 z)) (fun z hz => by
        rw [hheap, t7 z hz]
        show T.heap[z]? = _
        rw [hHT]
        exact hH z hz) hl hrm hk hu
    obtain ⟨t2', b1, b2⟩ := K2 T' rfl X'
    refine ⟨t2', hstep t2' fun acts => ?_, b2⟩
    rw [doInvoke_state]
    refine a1.trans ?_
    rw [ht]
    have e9 : gx_t ba b (v.toList ++ rest) = (v.map (gx_v ba b)).toList ++ gx_t ba b rest := by cases v <;> rfl
    rw [e9] at b1
    exact b1
  · rename_i x hc kc uc hrun
    split at er
    · rename_i hcat
      cases er
      obtain ⟨t, a1, t1, t2, t3, ⟨L2, t4, t5⟩, t6, t7⟩ := callee _ _ _ _ hrun (by omega) (by omega)
      obtain ⟨T', X', hW', hB', ht⟩ := X₁.outOfThrown (g := F0 m pc ls (gx_t ba b rest)) rfl t2 t3 t4
      have hheap : T'.heap = t.heap := by
        have := congrArg State.heap ht
        rw [Stand.throwing_heap] at this
        exact this.symm
      have hout : ∀ y ∈ c.exceptionTable.toList, covers y pc = false := fun y hy => (gx_catN _ _ hcat).2 (y.startPc, y.endPc, y.handlerPc, y.catchType) (by rw [← hhand]; exact List.mem_map.mpr ⟨y, hy, rfl⟩)
      obtain ⟨s1, s2, s3, s4, s5⟩ := X'.leaveThrown (ba + x) (g := F0 m pc ls (gx_t ba b rest)) rfl rfl rfl hout hlocks
      refine ⟨_, hstep _ fun acts => ?_, s2, s3, s4, ⟨locs ++ L2, s5, fun z hz => (List.mem_append.mp hz).elim (hlo z) (t5 z)⟩, ?_, fun z hz => ?_⟩
      · rw [doInvoke_state]
        refine a1.trans ?_
        rw [ht]
        exact s1
      · show gx_rel D aC ba b _ T'.heap
        rw [hheap]; exact t6
      · show T'.heap[z]? = _
        rw [hheap, t7 z hz]
        show T.heap[z]? = _
        rw [hHT, hH z hz, hle.2 z (by rw [← hs0.1]; exact hz)]
    · rename_i pc' hcat
      have hm2 := gx_mono xs _ _ _ _ _ _ _ _ _ _ _ _ _ er
      obtain ⟨t, a1, t1, t2, t3, ⟨L2, t4, t5⟩, t6, t7⟩ := callee _ _ _ _ hrun (by omega) (by omega)
      obtain ⟨T', X', hW', hB', ht⟩ := X₁.outOfThrown (g := F0 m pc ls (gx_t ba b rest)) rfl t2 t3 t4
      have hheap : T'.heap = t.heap := by
        have := congrArg State.heap ht
        rw [Stand.throwing_heap] at this
        exact this.symm
      obtain ⟨tg, fs, idx, g4, g3⟩ := gx_catS _ _ hcat
      have hxt := gx_find g3
      obtain ⟨z1, z2⟩ := gx_XTok _ hxt
      have wxt : ∀ (ix tx : Nat), gx_xt (gx_mo j) ix = some tx → ∀ w ∈ gx_xtw (gx_mo j, ix, tx), w.before args s = true := fun ix tx hq w hw2 => hw w (gx_pick gx_cXT.1 gx_cXT.2 (List.mem_flatMap.mpr ⟨_, gx_find hq, hw2⟩))
      obtain ⟨r1, y1, y2, ce, y3, y4, y5, -⟩ := (t6.2 _ _ g4).obj z2
      have hat := (hKN tg r1 y1).2
      have hnm2 : gx_xn tg = r1.1 := by unfold gx_xn; rw [y1]; rfl
      obtain ⟨kC, hkC, -⟩ := hat.2
      have hcat2 : gx_catL (gx_mo j) pc hc x (c.exceptionTable.toList.map (fun h => (h.startPc, h.endPc, h.handlerPc, h.catchType))) false = some (some pc') := by rw [hhand]; exact hcat
      obtain ⟨vm₂, X₂, st2⟩ := gx_caught X' (own := gx_o (gx_mo j)) hown (a := ba + x) (ce := ce) (t0 := tg) (by rw [hheap]; exact y3) y5 (by rw [hnm2, y4]; exact hat.1) ⟨kC, by rw [y4]; exact hkC⟩ (g := F0 m pc ls (gx_t ba b rest)) rfl g4 (wxt _ _ g3 _ (List.mem_cons_of_mem _ List.mem_cons_self))
        (fun t hany => by
          obtain ⟨n, hn, hn2⟩ := List.any_eq_true.mp hany
          rw [Bool.and_eq_true, beq_iff_eq, beq_iff_eq] at hn2
          obtain ⟨rfl, rfl⟩ := hn2
          exact gx_ncm hle.1.alike (hs0.2.2.2.2.2.2.2.2 n hn)) (fun ix tx hq => ⟨(gx_XTok _ (gx_find hq)).1, wxt _ _ hq _ List.mem_cons_self⟩) hcat2
      have K2 := ih (d' + 1) j pc' L [.ref x] hc (k + kc) (u + uc) o h' k' u' er (l := l) (e := e) (args := args) (below := below) (H := T'.heap) (locs := locs ++ L2) C0' (by rw [hheap]; exact t6)
        (fun z hz => (List.mem_append.mp hz).elim (hlo z) (t5 z)) (fun z hz => by
          rw [hheap, t7 z hz]
          show T.heap[z]? = _
          rw [hHT]
          exact hH z hz) hl hrm hk hu
      obtain ⟨t2', b1, b2⟩ := K2 (T'.setVm vm₂) rfl X₂
      refine ⟨t2', hstep t2' fun acts => ?_, b2⟩
      rw [doInvoke_state]
      refine a1.trans ?_
      rw [ht]
      exact st2 _ b1
    · cases er
  · cases er
end
section
set_option maxHeartbeats 8000000 in
theorem gx_sim (xs : Option (List Int32)) : ∀ (n d j pc : Nat) (L : gx_L) (st : List Value) (h : gx_H) (k u : Nat) (o : Outcome) (h' : gx_H) (k' u' : Nat), gx_run xs n d j pc L st h k u = some (o, h', k', u') →
    ∀ {p : Program} {l : Launch} {e : Env} {R : Room} {s : State} {m : MethodId} {args : Array Value} {below : List Frame} {meth : Method} {c : Code} {H : Heap} {locs : List Loc} {ls : Array Slot} {s₀ : State} {D : va_G} {aC : Nat → ClassId} {ba b : Nat},
      gx_cx p e s₀ D aC ba b xs j s m meth c → gx_rel D aC ba b h H → (∀ q ∈ locs, ba ≤ q.base) → (∀ q, q < ba → H[q]? = s₀.heap[q]?) → lv_has ls (gx_nl j) (gx_l ba b L) → gx_rm d R → k' ≤ R.cells → u' ≤ R.slots →
      W p l e R s m args below meth c H locs k u (gx_Q D aC ba b s below o h' k' u') (F0 m pc ls (gx_t ba b st)) := by
  intro n
  induction n with
  | zero => intro d j pc L st h k u o h' k' u' e; cases e
  | succ n ih =>
    intro d j pc L st h k u o h' k' u' er p l e R s m args below meth c H locs ls s₀ D aC ba b C0 hr hlo hH hl hrm hk hu
    have hmo := gx_mono xs (n + 1) d j pc L st h k u o h' k' u' er
    rw [gx_run] at er
    have C0' := C0
    obtain ⟨hx, htr, hb, hnl, hhand, hret, hlocks, hini, hown, hs0, hle, hrel0⟩ := C0
    have hw := gx_wat (A := args) hs0 hle
    have hKN := gx_KNm hs0.2.2.2.2.1 hle.1.alike
    have hAK := gx_AKm hs0.2.2.2.2.2.1 hle.1.alike
    have hXs := gx_Xm (s := s) (H := H) hs0 hle.1.alike hH
    have hml : c.maxLocals = ls.size := hnl.trans hl.1.symm
    have hR : 8 ≤ R.frames ∧ 300 ≤ R.locals := ⟨by have := hrm.1; omega, by have := hrm.2; omega⟩
    have hHs : ∀ q, q < ba → H[q]? = s.heap[q]? := fun q hq => (hH q hq).trans (hle.2 q (by rw [← hs0.1]; exact hq)).symm
    split at er
    · cases er
    · rename_i ins hi
      have hd := gx_dec hi
      split at er
      · rename_i q hq
        exact gx_pW hx hb hown hw hd hl hq (fun ls' hl' => ih _ _ _ _ _ _ _ _ _ _ _ _ er C0' hr hlo hH hl' hrm hk hu)
      · split at er
        · rename_i q hq
          exact gx_qW hx hb hown hw hKN hAK hr hXs hd hl hq (fun ls' hl' => ih _ _ _ _ _ _ _ _ _ _ _ _ er C0' hr hlo hH hl' hrm hk hu)
        · split at er
          · rename_i q hq
            exact gx_wW hx hb hini hown hw hKN hAK hr hlo hd hq (fun H1 locs1 hr1 hlo1 ho1 => ih _ _ _ _ _ _ _ _ _ _ _ _ er C0' hr1 hlo1 (fun z hz => (ho1 z hz).trans (hH z hz)) hl hrm hk hu)
          · split at er
            · rename_i q hq
              have hm2 := gx_mono xs _ _ _ _ _ _ _ _ _ _ _ _ _ er
              exact gx_nW hx hb hown hw hKN hAK hr hd hq (Nat.le_trans hm2.1 hk) (Nat.le_trans hm2.2 hu) (fun H1 hr1 ho1 => ih _ _ _ _ _ _ _ _ _ _ _ _ er C0' hr1 hlo (fun z hz => (ho1 z hz).trans (hH z hz)) hl hrm hk hu)
            · split at er
              · rename_i q hq
                have hm2 := gx_mono xs _ _ _ _ _ _ _ _ _ _ _ _ _ er
                exact gx_muW hx hb hown hw hAK hr hd hq (Nat.le_trans hm2.1 hk) (Nat.le_trans hm2.2 hu) (fun H1 hr1 ho1 => ih _ _ _ _ _ _ _ _ _ _ _ _ er C0' hr1 hlo (fun z hz => (ho1 z hz).trans (hH z hz)) hl hrm hk hu)
              · split at er
                · rename_i v hv
                  cases er
                  exact gx_eW C0' hr hHs hlo hi hv
                · split at er
                  · rename_i q hq
                    exact gx_biW hx hb hml hown hw hAK hr hlo hR hd hq (fun H1 locs1 hr1 hlo1 ho1 => ih _ _ _ _ _ _ _ _ _ _ _ _ er C0' hr1 hlo1 (fun z hz => (ho1 z hz).trans (hH z hz)) hl hrm hk hu)
                  · split at er
                    · rename_i t ht
                      cases er
                      exact gx_thW C0' hml hr hH hlo hR hi ht hk hu
                    · split at er
                      · rename_i d' q hq
                        obtain ⟨j', A, rest⟩ := q
                        dsimp only at er
                        split at er
                        · rename_i hgd
                          exact gx_callW (ih := ih) C0' hr hlo hH hl hrm hk hu hmo hi hq hgd er
                        · cases er
                      · cases er
end
section
def R_law : String := "CopiedGraphsLaw"
def lw_P (b : Addr) (xs : List Int32) (args : Array Value) (s : State) : Prop := args = #[.ref b] ∧ s.IntsAt b xs ∧ xs.length ≤ 3072 ∧ (Jvm.Cond.and given_1 narrow_1).before args s = true
def lw_Q (_ : Array Value) (s : State) (o : Outcome) (t : State) : Prop := o = .returned (some (.int 1)) ∧ Framed s o t [] 601024 7293034
def lw_Z (below : List Frame) (a : Array Value) (s : State) : State → Prop := fun t => ∃ o, t.status = .running ∧ Ended t below o ∧ lw_Q a s o t
/-- the law's own end, with 1 on the stack, nothing written that was there before, its room as the claim has it -/
theorem lw_ret {p : Program} {l : Launch} {e : Env} {s : State} {m : MethodId} {below : List Frame} {meth : Method} {c : Code} {b : Nat} (hx : p.tables.exec = Jvm.exec) (hb : c.code = code) (hr : meth.sig.returnType = ret) (hlocks : meth.locks = false) {pc : Nat} {H : Heap} {ls : Array Slot} (hdg : decode code pc = .ok (.ireturn, 1)) : W p l e room_1 s m #[Value.ref b] below meth c H [] 601024 7293034 (lw_Z below #[Value.ref b] s) (F0 m pc ls [.int 1]) := by
  intro T hT X
  obtain ⟨fs, hret, hrun, hended, hW, hframe⟩ := X.leave (v := some (.int 1)) (hlocks := hlocks) (fun h => by rw [hr] at h; cases h)
  have hmeth' : T.vm.method? m = some meth := X.method'
  refine ⟨T.setFrames fs, ?_, .returned (some (.int 1)), hrun, hended, rfl, ⟨_, rfl⟩, hW, hframe⟩
  jvm_step X.here [X.here.top, hx, hb, hdg, hmeth', hr, ret, narrow_b1]
  (try refine ⟨rfl, ?_⟩); (try refine ⟨rfl, ?_⟩)
  first | (intro acts; rw [hret _ acts rfl rfl rfl]) | rw [hret _ _ rfl rfl rfl]
  exact Steps.refl _
/-- what holds at the law's entry: the machine, the code, the tables' words (any of lw_tbl by 'hts w (by decide +kernel)'), the script of L ints xs at the cell b, what the Statement gives of the start (any of its parts by flat_of_before) -/
def lw_At (p : Program) (s : State) (m : MethodId) (meth : Method) (c : Code) (b L : Nat) (xs : Nat → Int32) : Prop :=
  p.tables.exec = Jvm.exec ∧ c.code = code ∧ meth.sig.returnType = ret ∧ c.maxLocals = 8 ∧ s.vm.findClass R_law = some m.cls ∧ (∀ w ∈ lw_tbl, w.before #[Value.ref b] s = true) ∧ va_X b L xs s s.heap ∧ b < s.heap.size ∧ meth.locks = false ∧ (Jvm.Cond.and given_1 narrow_1).before #[Value.ref b] s = true
/-- the classes' numbers at the start -/
theorem gx_start_D {s : State} {b : Nat} (hts : ∀ w ∈ lw_tbl, w.before #[Value.ref b] s = true) : ∃ D : va_G, gx_KN s D := by
  have hall : gx_cl.all (fun r => lw_tbl.any (fun w => match w with | .instantiable C _ => decide (C = r.1) | _ => false)) = true := by decide +kernel
  have key : ∀ ci : Nat, ∃ pr : ClassId × (Nat → Nat), ∀ q : vw_C, gx_cl[ci]? = some q → u_Kn s q.1 q.2.1 q.2.2 pr.1 pr.2 := by
    intro ci
    cases hq : gx_cl[ci]? with
    | none => exact ⟨(0, fun _ => 0), fun q hq2 => by cases hq2⟩
    | some q =>
      obtain ⟨w, hw, hw2⟩ := List.any_eq_true.mp (List.all_eq_true.mp hall q (List.mem_of_getElem? hq))
      split at hw2
      · rename_i C n
        have hC : C = q.1 := of_decide_eq_true hw2
        subst hC
        obtain ⟨cC, iS, h⟩ := u_known (T := q.2.1) (N := q.2.2) hts (fun w hw => (List.mem_filter.mp (gx_wC hq w hw)).1) (hts _ hw)
        exact ⟨(cC, iS), fun q2 hq2 => by cases hq2; exact h⟩
      · cases hw2
  exact ⟨(fun ci => (Classical.choose (key ci)).1, fun ci => (Classical.choose (key ci)).2), fun ci q hq => Classical.choose_spec (key ci) q hq⟩
/-- the array classes' numbers at the start -/
theorem gx_start_A {s : State} {b : Nat} (hts : ∀ w ∈ lw_tbl, w.before #[Value.ref b] s = true) : ∃ aC : Nat → ClassId, gx_AK s aC := by
  have ain : ∀ {w : Jvm.Cond}, w ∈ gx_words → w.before #[Value.ref b] s = true := fun hw => hts _ (List.mem_filter.mp hw).1
  have key : ∀ t : Nat, ∃ cA : ClassId, t < 5 → ∃ (k : Class) (comp : ClassId), s.vm.classes[cA]? = some k ∧ k.kind = .array comp (gx_ty t) ∧ s.vm.findClass ("[" ++ (gx_ty t).toString) = some cA ∧ (t = 3 → s.vm.findClass gx_elem = some comp) := by
    intro t
    match t with
    | 0 =>
      obtain ⟨cA, kA, comp, h1, h2, h3⟩ := Cond.arrayClass_spec (ain (gx_wA (w := .arrayClass .int) (by simp)))
      exact ⟨cA, fun _ => ⟨kA, comp, h2, h3, h1, fun e => by cases e⟩⟩
    | 1 =>
      obtain ⟨cA, kA, comp, h1, h2, h3⟩ := Cond.arrayClass_spec (ain (gx_wA (w := .arrayClass .long) (by simp)))
      exact ⟨cA, fun _ => ⟨kA, comp, h2, h3, h1, fun e => by cases e⟩⟩
    | 2 =>
      obtain ⟨cA, kA, comp, h1, h2, h3⟩ := Cond.arrayClass_spec (ain (gx_wA (w := .arrayClass .boolean) (by simp)))
      exact ⟨cA, fun _ => ⟨kA, comp, h2, h3, h1, fun e => by cases e⟩⟩
    | 3 =>
      obtain ⟨comp, cA, kA, h1, h2, h3, h4, h5⟩ := Cond.arrayOver_spec (ain gx_wO)
      exact ⟨cA, fun _ => ⟨kA, comp, h3, h4, h5, fun _ => h1⟩⟩
    | 4 =>
      have h := ain (gx_pick gx_cMU.1 gx_cMU.2 (w := .arrayOver (.array .int)) (List.mem_append_right _ List.mem_cons_self))
      simp only [Cond.before, Cond.holds, Cond.value, beq_iff_eq, Option.bind_eq_some_iff, Option.map_eq_some_iff] at h
      obtain ⟨comp, hc, cA, hi, k, hk, hb⟩ := h
      split at hb
      · rename_i comp' ty hkd
        simp only [Bool.and_eq_true, decide_eq_true_eq] at hb
        obtain ⟨rfl, hb2⟩ := hb
        exact ⟨cA, fun _ => ⟨k, comp', hk, hkd, hb2, fun e => by cases e⟩⟩
      · cases hb
    | t + 5 => exact ⟨0, fun h => by omega⟩
  exact ⟨fun t => Classical.choose (key t), fun t ht => Classical.choose_spec (key t) ht⟩
/-- the law's run on the small machine: what is still wanted -/
def gx_Law (N : Nat) : Prop := ∀ xs : List Int32, xs.length ≤ N → ∃ (n d : Nat) (h' : gx_H) (k' u' : Nat), gx_run (some xs) n d 195 0 [(0, .float 0)] [] [] 0 0 = some (.returned (some (.int 1)), h', k', u') ∧ d ≤ 800 ∧ k' ≤ 601024 ∧ u' ≤ 7293034
set_option maxHeartbeats 8000000 in
theorem whole_start (hlaw : gx_Law 3072) {p : Program} {e : Env} {s : State} {m : MethodId} {below : List Frame} {meth : Method} {c : Code} (l : Launch) (hfl : l.flags = flags0) {b L : Nat} {xs : Nat → Int32} (hL : L ≤ 3072) (hne : c.exceptionTable.isEmpty = true) (C0 : lw_At p s m meth c b L xs) : W p l e room_1 s m #[Value.ref b] below meth c s.heap [] 0 0 (lw_Z below #[Value.ref b] s) (entryFrame m ([Value.ref b] : List Value).toArray 8) := by
  obtain ⟨hx, hb, hret, hml, hown, hts, hX, hbl, hlocks, hgv⟩ := C0
  obtain ⟨D, hD⟩ := gx_start_D hts
  obtain ⟨aC, hA⟩ := gx_start_A hts
  obtain ⟨n, d, h', k', u', hrun, hd, hk, hu⟩ := hlaw ((List.range L).map xs) (by simpa using hL)
  have hfl2 := flat_of_before _ hgv
  intro T hT X
  have htr : e.platform.stackTraces = false := by
    rw [X.admits.platform]
    show l.stackTraces = false
    unfold Launch.stackTraces
    rw [hfl]
    decide +kernel
  have hs0 : gx_s0 s D aC s.heap.size b (some ((List.range L).map xs)) := by
    refine ⟨rfl, hbl, hts, ⟨hfl2 _ (by decide +kernel), hfl2 _ (by decide +kernel)⟩, hD, hA, fun l2 hl2 => ?_, fun z hz => ?_, fun n hn => ?_⟩
    · cases hl2
      obtain ⟨scr, q1, q2, q3, q4, q5⟩ := hX
      refine ⟨scr, q1, q2, q3, by simpa using q4, fun j x hj => ?_⟩
      rw [List.getElem?_map] at hj
      obtain ⟨i, hi, hx2⟩ := Option.map_eq_some_iff.mp hj
      have hjl : j < L := by
        rcases Nat.lt_or_ge j L with q | q
        · exact q
        · rw [List.getElem?_eq_none (by simpa using q)] at hi; cases hi
      rw [List.getElem?_range hjl] at hi
      cases hi
      rw [← hx2]
      exact q5 j hjl
    · have hall : gx_ST.all (fun z => decide (Jvm.Cond.exactly (.string (gx_o z.1) z.2.1) "java/lang/String" ∈ flatC (Jvm.Cond.and given_1 narrow_1))) = true := by decide +kernel
      obtain ⟨a, _, _, _, q1, -⟩ := Cond.exactly_spec (hfl2 _ (of_decide_eq_true (List.all_eq_true.mp hall z hz)))
      have hsr : Jvm.Cond.stringRef (gx_o z.1) z.2.1 z.2.2 ∈ lw_tbl := by
        have h1 : Jvm.Cond.stringRef (gx_o z.1) z.2.1 z.2.2 ∈ gx_ST.map (fun z => Jvm.Cond.stringRef (gx_o z.1) z.2.1 z.2.2) := List.mem_map.mpr ⟨z, hz, rfl⟩
        rw [gx_cST] at h1
        obtain ⟨i, -, hi⟩ := List.mem_filterMap.mp h1
        exact List.mem_of_getElem? hi
      exact ⟨a, vk_R.of (hts _ hsr) q1⟩
    · have hall : gx_NC.all (fun n => decide (Jvm.Cond.not (.castable (gx_xn n.1) (gx_xn n.2)) ∈ flatC (Jvm.Cond.and given_1 narrow_1))) = true := by decide +kernel
      exact hfl2 _ (of_decide_eq_true (List.all_eq_true.mp hall n hn))
  have hrel : gx_rel D aC s.heap.size b [] s.heap := ⟨by simp, fun k c hk => by cases hk⟩
  have hnh : c.exceptionTable.toList = [] := by
    have h0 : c.exceptionTable.size = 0 := by simpa [Array.isEmpty] using hne
    exact List.eq_nil_of_length_eq_zero (by simpa using h0)
  have C1 : gx_cx p e s D aC s.heap.size b (some ((List.range L).map xs)) 195 s m meth c := by
    refine ⟨hx, htr, hb, hml, by rw [hnh]; rfl, hret, hlocks, fun h => (by cases h), hown, hs0, ⟨State.WarmedH.refl s, fun _ _ => rfl⟩, [], hrel⟩
  rw [lg_entry_eq]
  have hl := lv_entry ([Value.ref b]) (n := 8) (Nat.le_of_ble_eq_true rfl)
  have K := gx_sim (some ((List.range L).map xs)) n d 195 0 [(0, .float 0)] [] [] 0 0 _ h' k' u' hrun (l := l) (R := room_1) (args := #[Value.ref b]) (below := below) (H := s.heap) (locs := []) C1 hrel (fun q hq => by cases hq) (fun _ _ => rfl) hl ⟨by show d + 8 ≤ 2048; omega, by show d * 100 + 300 ≤ 84000; omega⟩ hk hu
  obtain ⟨t, a1, t1, t2, t3, ⟨L2, t4, t5⟩, t6, t7⟩ := K T hT X
  refine ⟨t, a1, _, t1, t2, rfl, ⟨_, rfl⟩, t3, t4.weaken (fun y hy hlt => ?_) hk hu⟩
  exact absurd hlt (Nat.not_lt.mpr (t5 y hy))
end
section
set_option maxHeartbeats 4000000 in
theorem lw_walk (hlaw : gx_Law 3072) (l : Launch) (hfl : l.flags = flags0) (b : Addr) (xs : List Int32) : MetFree l x (headSpec (Jvm.Cond.code x code maxLocals ret :: tables_1) room_1) (lw_P b xs) (fun _ _ _ _ _ => True) lw_Q := by
  refine MetFree.of_bodyS (code := code) (maxLocals := maxLocals) (ret := ret) (by decide) ?_ ?_
  · intro args s m h hn
    obtain ⟨meth, c, h1, h2, h3, h4, h5, h6, -, -⟩ := Cond.code_spec hn (atoms_spec (ws := Jvm.Cond.code x code maxLocals ret :: tables_1) h _ List.mem_cons_self)
    exact ⟨meth, c, h1, h2, h3, h4, h5, h6⟩
  · intro p e s m args below meth c s₁ B hml0 hP _
    obtain ⟨rfl, hx, hbd, hgv⟩ := hP
    obtain ⟨scr, harrAt, hlist, hof, hsmall⟩ := hx
    obtain ⟨hcb, hkn, -, -⟩ := State.arrayAt?_spec harrAt
    have hown : s.vm.findClass R_law = some m.cls := findClass_of_methodNamed B.named
    have hts0 : ∀ c ∈ (Jvm.Cond.code x code maxLocals ret :: tables_1), c.before #[Value.ref b] s = true := atoms_spec (ws := Jvm.Cond.code x code maxLocals ret :: tables_1) B.pre
    have hts : ∀ w ∈ lw_tbl, w.before #[Value.ref b] s = true := k2_hts_sels lw_privs (fun w hw => hts0 w (List.mem_cons_of_mem _ hw)) lw_privs_ok
    have hml : c.maxLocals = 8 := B.maxLocals_eq (hts0 _ List.mem_cons_self)
    have X₀ : Stand p l e room_1 s m #[Value.ref b] below meth c s₁ [] 0 0 := Stand.of_body B
    have hh0 : s₁.heap = s.heap := by rw [B.state]; rfl
    have hsz : scr.slots.size = xs.length := by rw [← Array.length_toList, hlist, List.length_map]
    have hval : ∀ j : Nat, j < xs.length → scr.slots[j]? = some (.int (xs.getD j 0)) := fun j hj => by
      rw [← Array.getElem?_toList, hlist]
      simp [hj]
    have hbl : b < s.heap.size := (Array.getElem?_eq_some_iff.mp hcb).1
    have hX : va_X b xs.length (fun j => xs.getD j 0) s s.heap := ⟨scr, hcb, hof, hkn, hsz, hval⟩
    have K : W p l e room_1 s m #[Value.ref b] below meth c s₁.heap [] 0 0 (lw_Z below #[Value.ref b] s) (entryFrame m ([Value.ref b] : List Value).toArray 8) := by
      rw [hh0]
      exact whole_start hlaw l hfl hbd (B.noHandlers (hts0 _ List.mem_cons_self)) ⟨B.exec, B.bytes, B.returns, hml, hown, hts, hX, hbl, B.notSynchronized, hgv⟩
    obtain ⟨t, a1, o, b1, b2, b3⟩ := K s₁ rfl X₀
    exact ⟨t, o, a1, b1, b2, b3⟩
theorem lw_pre_spec {args : Array Value} {s : State} (h : (Jvm.Cond.and given_1 narrow_1).before args s = true) (hr : rest_1_c.before args s = true) : ∃ (b : Addr) (xs : List Int32), lw_P b xs args s := by
  have hs := flat_of_before _ h
  have hq := flat_of_before _ hr
  have hc : (Cond.count 1).before args s = true := hs _ (by decide +kernel)
  have harr : (Cond.arrayOf (.arg 0) .int).before args s = true := hs _ (by decide +kernel)
  have hle : (Cond.le (.length (.arg 0)) (.int 3072)).before args s = true := hs _ (by decide +kernel)
  have hlen : (Cond.isInt (.length (.arg 0))).before args s = true := hq _ (by decide +kernel)
  have hall : (Cond.all (.arg 0) (.isInt (.elem (.arg 0) (.index 0)))).before args s = true := hq _ (by decide +kernel)
  obtain ⟨b, xs, hb, hx⟩ := State.ints_of_pre rfl harr hlen hall
  have hsm : xs.length < 2 ^ 31 := hx.choose_spec.2.2.2
  have hev : (Term.length (.arg 0)).eval args s none [] s = some (.int xs.length.toInt32) := hx.length_eval hb
  have hv := Cond.le_ints hev (show (Term.int 3072).eval args s none [] s = some (.int 3072) from rfl)
  have hd : xs.length.toInt32 ≤ 3072 := by
    simpa [Cond.before, Cond.holds, hv] using hle
  have hN : xs.length ≤ 3072 := (Int32.ofNat_le_ofNat hsm (by decide)).mp (show Int32.ofNat xs.length ≤ Int32.ofNat 3072 from hd)
  exact ⟨b, xs, Cond.one_arg hc (show args[0]? = some (.ref b) from hb), hx, hN, h⟩
theorem lw_comes (hlaw : gx_Law 3072) (l : Launch) (hfl : l.flags = flags0) : Comes l x (Jvm.Cond.code x code maxLocals ret :: tables_1) room_1 (fun tb e args s => Calls_1 tb e args s ∧ rest_1 tb e args s ∧ Pre_1 tb e args s)
    (fun _ _ args s o t => lw_Q args s o t) := by
  intro p e ha hc hk s m args below hf hfit hheap happ hpre
  obtain ⟨b, xs, hP⟩ := lw_pre_spec hpre.2.2 hpre.2.1
  obtain ⟨k, o, h1, h2, h3, hQ⟩ := lw_walk hlaw l hfl b xs p e ha hc hk s m args below hf ((Spec.applies_iff_loose hf).mp happ).1 hP trivial
  exact ⟨k, o, h1, h2, h3, hQ⟩
theorem lw_frame {s t : State} {o : Outcome} {args : Array Value} (h : Framed s o t [] 601024 7293034) :
    Framed s o t (fieldLocs frame_1_writes args s ++ arrayLocs frame_1_arrays args s ++ staticLocs frame_1_statics s) 601024 7293034 := h
theorem lw_limb (hlaw : gx_Law 3072) (L : Cond) (hL : ∀ (args : Array Value) (s t : State), L.after args s (.returned (some (.int 1))) t = true) :
    ArmFor flags0 classFile x code maxLocals ret World_1 tables_1 room_1 Calls_1 rest_1 Pre_1
      (fun tb e a s o t => postC L tb e a s o t ∧ Framed s o t (fieldLocs frame_1_writes a s ++ arrayLocs frame_1_arrays a s ++ staticLocs frame_1_statics s) 601024 7293034) := by
  intro l hfl _ _ p e ha hc hk s m args below hf hfit hheap happ hpre
  obtain ⟨k, o, h1, h2, h3, rfl, hF⟩ := lw_comes hlaw l hfl p e ha hc hk s m args below hf hfit hheap happ hpre
  exact ⟨k, _, h1, h2, h3, hL args s _, lw_frame hF⟩
theorem i_vc_open (hlaw : gx_Law 3072) : Claimed_1_1 ∧ Claimed_1_2 := ⟨lw_limb hlaw limb_1_1 (fun args s t => by simp [limb_1_1, Cond.after, Cond.holds, Cond.value]), lw_limb hlaw limb_1_2 (fun args s t => Cond.after_iff.mpr (by
  first | (rw [show limb_1_2 = Cond.eq .result (.int 1) from rfl, Cond.eq_ints (x := 1) (y := 1) rfl rfl]; simp; done) | (simp [limb_1_2, Cond.value, Term.eval]; done)))⟩
end
