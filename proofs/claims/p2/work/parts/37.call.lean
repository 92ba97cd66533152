/-- what the run of n steps gives, said of the machine -/
def gx_IH (xs : Option (List Int32)) (n : Nat) : Prop := ∀ (d j pc : Nat) (L : gx_L) (st : List Value) (h : gx_H) (k u : Nat) (o : Outcome) (h' : gx_H) (k' u' : Nat), gx_run xs n d j pc L st h k u = some (o, h', k', u') →
    ∀ {p : Program} {l : Launch} {e : Env} {R : Room} {s : State} {m : MethodId} {args : Array Value} {below : List Frame} {meth : Method} {c : Code} {H : Heap} {locs : List Loc} {ls : Array Slot} {s₀ : State} {D : va_G} {aC : Nat → ClassId} {ba b : Nat},
      gx_cx p e s₀ D aC ba b xs j s m meth c → gx_rel D aC ba b h H → (∀ q ∈ locs, ba ≤ q.base) → (∀ q, q < ba → H[q]? = s₀.heap[q]?) → lv_has ls (gx_nl j) (gx_l ba b L) → gx_rm d R → k' ≤ R.cells → u' ≤ R.slots →
      W p l e R s m args below meth c H locs k u (gx_Q D aC ba b s below o h' k' u') (F0 m pc ls (gx_t ba b st))
theorem gx_catN {o pc : Nat} {h : gx_H} {x : Nat} : ∀ (l : List (Nat × Nat × Nat × Nat)) (seen : Bool), gx_catL o pc h x l seen = some none → seen = false ∧ ∀ q ∈ l, gx_cov q pc = false := by
  intro l
  induction l with
  | nil =>
    intro seen hc
    rw [gx_catL] at hc
    split at hc
    · cases hc
    · rename_i hs
      exact ⟨by simpa using hs, fun q hq => by cases hq⟩
  | cons y l ih =>
    intro seen hc
    rw [gx_catL] at hc
    split at hc
    · obtain ⟨t, -, hc1⟩ := Option.bind_eq_some_iff.mp hc
      obtain ⟨z, -, hc2⟩ := Option.bind_eq_some_iff.mp hc1
      split at hc2
      · cases hc2
      · split at hc2
        · have := (ih true hc2).1; cases this
        · cases hc2
    · rename_i hcov
      obtain ⟨h1, h2⟩ := ih seen hc
      refine ⟨h1, fun q hq => ?_⟩
      rcases List.mem_cons.mp hq with rfl | hq
      · simpa using hcov
      · exact h2 q hq
theorem gx_catS {o pc pc' : Nat} {h : gx_H} {x : Nat} : ∀ (l : List (Nat × Nat × Nat × Nat)) (seen : Bool), gx_catL o pc h x l seen = some (some pc') → ∃ t fs idx, h[x]? = some (t, fs) ∧ gx_xt o idx = some t := by
  intro l
  induction l with
  | nil =>
    intro seen hc
    rw [gx_catL] at hc
    split at hc <;> cases hc
  | cons y l ih =>
    intro seen hc
    rw [gx_catL] at hc
    split at hc
    · obtain ⟨t, ht, hc1⟩ := Option.bind_eq_some_iff.mp hc
      obtain ⟨⟨t1, fs⟩, hz, hc2⟩ := Option.bind_eq_some_iff.mp hc1
      split at hc2
      · rename_i he
        exact ⟨t1, fs, _, hz, by rw [ht]; exact congrArg some he.symm⟩
      · split at hc2
        · exact ih true hc2
        · cases hc2
    · exact ih seen hc
set_option maxHeartbeats 8000000 in
theorem gx_callW {xs : Option (List Int32)} {n : Nat} (ih : gx_IH xs n) {p : Program} {l : Launch} {e : Env} {R : Room} {s : State} {m : MethodId} {args : Array Value} {below : List Frame} {meth : Method} {c : Code} {H : Heap} {locs : List Loc} {ls : Array Slot} {s₀ : State} {D : va_G} {aC : Nat → ClassId} {ba b : Nat}
    {d' j pc : Nat} {L : gx_L} {st : List Value} {h : gx_H} {k u : Nat} {o : Outcome} {h' : gx_H} {k' u' : Nat} (C0 : gx_cx p e s₀ D aC ba b xs j s m meth c) (hr : gx_rel D aC ba b h H) (hlo : ∀ q ∈ locs, ba ≤ q.base) (hH : ∀ q, q < ba → H[q]? = s₀.heap[q]?) (hl : lv_has ls (gx_nl j) (gx_l ba b L)) (hrm : gx_rm (d' + 1) R) (hk : k' ≤ R.cells) (hu : u' ≤ R.slots) (hmo : k ≤ k' ∧ u ≤ u')
    {ins : Instr} (hi : gx_I j pc = some ins) {j' : Nat} {A rest : List Value} (hq : gx_c (gx_mo j) h ins st = some (j', A, rest)) (hgd : (rest.map fun v => v.category).sum ≤ 8 ∧ (lg_sl A).length ≤ gx_nl j')
    (er : (match gx_run xs n d' j' 0 (lv_args 0 A) [] h 0 0 with
      | some (.returned v, h', kc, uc) => gx_run xs n (d' + 1) j (pc + 3) L (v.toList ++ rest) h' (k + kc) (u + uc)
      | some (.threw x, h', kc, uc) => (match gx_cat j pc h' x with
        | some none => some (.threw x, h', k + kc, u + uc)
        | some (some pc') => gx_run xs n (d' + 1) j pc' L [.ref x] h' (k + kc) (u + uc)
        | none => none)
      | none => none) = some (o, h', k', u')) :
    W p l e R s m args below meth c H locs k u (gx_Q D aC ba b s below o h' k' u') (F0 m pc ls (gx_t ba b st)) := by
  have C0' := C0
  obtain ⟨hx, htr, hb, hnl, hhand, hret, hlocks, hini, hown, hs0, hle, hrel0⟩ := C0
  have hw := gx_wat (A := args) hs0 hle
  have hKN := gx_KNm hs0.2.2.2.2.1 hle.1.alike
  have hml : c.maxLocals = ls.size := hnl.trans hl.1.symm
  intro T hT X
  obtain ⟨vm₁, mk, hnm, hj', X₁, hdec, hstep⟩ := gx_into (ls := ls) X hx hb hown hw hKN (by rw [hT]; exact hr) (gx_dec hi) hq
  obtain ⟨mk', mt, ct, q1, q2, q3, q4, q5, q6, q7, q8, q9, kk, q10, q11⟩ := gx_meth hw hj' (gx_c_kd hq)
  cases hnm.symm.trans q1
  have hpt := gx_parts hj'
  have hnl80 : gx_nl j' ≤ 80 := hpt.2.2.2.2.2.2.2
  have hmk : (T.setVm vm₁).vm.method? mk = some mt := by rw [X₁.warmed.alike.method?]; exact q2
  have hpk : (T.setVm vm₁).plainMethod mk := State.plainMethod.of_named hpt.2.1 (X₁.named q1) hmk
  have hr1 := hrm.1
  have hr2 := hrm.2
  have hwt : ((gx_t ba b rest).map fun v => v.category).sum ≤ 8 := by rw [gx_t_cat]; exact hgd.1
  obtain ⟨Y₀, hin⟩ := X₁.into (g := F0 m pc ls (gx_t ba b rest)) rfl hml.symm (by rw [hb]; exact hdec) (gx_t ba b A).toArray (R' := { frames := R.frames - 1, cells := R.cells - k, slots := R.slots - u, locals := R.locals - (8 + (gx_nl j' + 11)) }) hmk q3 q8 hpk
    (by show R.frames - 1 + 1 ≤ R.frames; omega) (by
      rw [q5]
      show 2 * 0 + ((gx_t ba b rest).map fun v => v.category).sum + (gx_nl j' + 11) + (R.locals - (8 + (gx_nl j' + 11))) ≤ R.locals
      omega) (by show k + (R.cells - k) ≤ R.cells; omega) (by show u + (R.slots - u) ≤ R.slots; omega)
  have hHT : T.heap = H := hT
  have C1 : gx_cx p e s₀ D aC ba b xs j' ((T.setVm vm₁).calling (F0 m pc ls (gx_t ba b rest)) mk (gx_t ba b A).toArray) mk mt ct := by
    refine ⟨hx, htr, q4, q5, q6, q7, q8, fun hin2 => ?_, ?_, hs0, ⟨State.WarmedH.trans hle.1 X₁.warmed, fun z hz => ?_⟩, h, ?_⟩
    · have hk2 : gx_kd j' = 2 := by simpa [gx_in] using hin2
      rw [(name_of_methodNamed q1 q2).1]
      exact (hpt.2.2.2.2.2.2.1 hk2).1
    · show vm₁.findClass _ = _
      have a1 := findClass_of_methodNamed q1
      rw [hpt.2.2.2.2.1] at a1
      have a2 : (T.setVm vm₁).vm.findClass (gx_o (gx_mo j')) = s.vm.findClass (gx_o (gx_mo j')) := X₁.warmed.alike.findClass _ _
      exact a2.trans a1
    · show T.heap[z]? = _
      rw [hHT]
      exact hH z (by rw [hs0.1]; exact hz)
    · show gx_rel D aC ba b h T.heap
      rw [hHT]
      exact hr
  have hl1 : lv_has ((lg_sl (gx_t ba b A) ++ List.replicate (gx_nl j' - (lg_sl (gx_t ba b A)).length) Slot.unset).toArray) (gx_nl j') (gx_l ba b (lv_args 0 A)) := by
    rw [← gx_args]
    exact lv_entry (gx_t ba b A) (by rw [gx_sl]; exact hgd.2)
  have hrm' : gx_rm d' { frames := R.frames - 1, cells := R.cells - k, slots := R.slots - u, locals := R.locals - (8 + (gx_nl j' + 11)) } := ⟨by show d' + 8 ≤ R.frames - 1; omega, by show d' * 100 + 300 ≤ R.locals - (8 + (gx_nl j' + 11)); omega⟩
  -- the callee's run
  have callee : ∀ (oc : Outcome) (hc : gx_H) (kc uc : Nat), gx_run xs n d' j' 0 (lv_args 0 A) [] h 0 0 = some (oc, hc, kc, uc) → kc ≤ R.cells - k → uc ≤ R.slots - u →
      ∃ t, Steps p.tables e below (doInvoke e ((T.setVm vm₁).setTop (F0 m pc ls (gx_t ba b rest))) [] mk (gx_t ba b A).toArray).1 t ∧ gx_Q D aC ba b ((T.setVm vm₁).calling (F0 m pc ls (gx_t ba b rest)) mk (gx_t ba b A).toArray) (.java (F0 m pc ls (gx_t ba b rest)) :: below) oc hc kc uc t := by
    intro oc hc kc uc hrun hkc huc
    have K := ih d' j' 0 (lv_args 0 A) [] h 0 0 oc hc kc uc hrun (l := l) (e := e) (args := (gx_t ba b A).toArray) (below := .java (F0 m pc ls (gx_t ba b rest)) :: below) (H := H) (locs := []) C1 hr (fun z hz => by cases hz) hH hl1 hrm' hkc huc
    obtain ⟨t, a1, a2⟩ := K _ (by show T.heap = H; exact hHT) Y₀
    refine ⟨t, ?_, a2⟩
    rw [hin [], q5, lg_entry_eq]
    rw [q5, lg_entry_eq] at a1
    exact gx_under a1
  split at er
  · rename_i v hc kc uc hrun
    have hm2 := gx_mono xs _ _ _ _ _ _ _ _ _ _ _ _ _ er
    obtain ⟨t, a1, t1, t2, t3, ⟨L2, t4, t5⟩, t6, t7⟩ := callee _ _ _ _ hrun (by omega) (by omega)
    obtain ⟨T', X', hW', hB', ht⟩ := X₁.outOf (g := F0 m pc ls (gx_t ba b rest)) rfl (by rw [hb]; exact hdec) t2 t3 t4
    have hheap : T'.heap = t.heap := by
      have := congrArg State.heap ht
      simpa using this.symm
    have K2 := ih (d' + 1) j (pc + 3) L (v.toList ++ rest) hc (k + kc) (u + uc) o h' k' u' er (l := l) (e := e) (args := args) (below := below) (H := T'.heap) (locs := locs ++ L2) C0' (by rw [hheap]; exact t6)
      (fun z hz => (List.mem_append.mp hz).elim (hlo z) (t5 z)) (fun z hz => by
        rw [hheap, t7 z hz]
        show T.heap[z]? = _
        rw [hHT]
        exact hH z hz) hl hrm hk hu
    obtain ⟨t2', b1, b2⟩ := K2 T' rfl X'
    refine ⟨t2', hstep t2' fun acts => ?_, b2⟩
    rw [doInvoke_state]
    refine a1.trans ?_
    rw [ht]
    have e9 : gx_t ba b (v.toList ++ rest) = (v.map (gx_v ba b)).toList ++ gx_t ba b rest := by cases v <;> rfl
    rw [e9] at b1
    exact b1
  · rename_i x hc kc uc hrun
    split at er
    · rename_i hcat
      cases er
      obtain ⟨t, a1, t1, t2, t3, ⟨L2, t4, t5⟩, t6, t7⟩ := callee _ _ _ _ hrun (by omega) (by omega)
      obtain ⟨T', X', hW', hB', ht⟩ := X₁.outOfThrown (g := F0 m pc ls (gx_t ba b rest)) rfl t2 t3 t4
      have hheap : T'.heap = t.heap := by
        have := congrArg State.heap ht
        rw [Stand.throwing_heap] at this
        exact this.symm
      have hout : ∀ y ∈ c.exceptionTable.toList, covers y pc = false := fun y hy => (gx_catN _ _ hcat).2 (y.startPc, y.endPc, y.handlerPc, y.catchType) (by rw [← hhand]; exact List.mem_map.mpr ⟨y, hy, rfl⟩)
      obtain ⟨s1, s2, s3, s4, s5⟩ := X'.leaveThrown (ba + x) (g := F0 m pc ls (gx_t ba b rest)) rfl rfl rfl hout hlocks
      refine ⟨_, hstep _ fun acts => ?_, s2, s3, s4, ⟨locs ++ L2, s5, fun z hz => (List.mem_append.mp hz).elim (hlo z) (t5 z)⟩, ?_, fun z hz => ?_⟩
      · rw [doInvoke_state]
        refine a1.trans ?_
        rw [ht]
        exact s1
      · show gx_rel D aC ba b _ T'.heap
        rw [hheap]; exact t6
      · show T'.heap[z]? = _
        rw [hheap, t7 z hz]
        show T.heap[z]? = _
        rw [hHT, hH z hz, hle.2 z (by rw [← hs0.1]; exact hz)]
    · rename_i pc' hcat
      have hm2 := gx_mono xs _ _ _ _ _ _ _ _ _ _ _ _ _ er
      obtain ⟨t, a1, t1, t2, t3, ⟨L2, t4, t5⟩, t6, t7⟩ := callee _ _ _ _ hrun (by omega) (by omega)
      obtain ⟨T', X', hW', hB', ht⟩ := X₁.outOfThrown (g := F0 m pc ls (gx_t ba b rest)) rfl t2 t3 t4
      have hheap : T'.heap = t.heap := by
        have := congrArg State.heap ht
        rw [Stand.throwing_heap] at this
        exact this.symm
      obtain ⟨tg, fs, idx, g4, g3⟩ := gx_catS _ _ hcat
      have hxt := gx_find g3
      obtain ⟨z1, z2⟩ := gx_XTok _ hxt
      have wxt : ∀ (ix tx : Nat), gx_xt (gx_mo j) ix = some tx → ∀ w ∈ gx_xtw (gx_mo j, ix, tx), w.before args s = true := fun ix tx hq w hw2 => hw w (gx_pick gx_cXT.1 gx_cXT.2 (List.mem_flatMap.mpr ⟨_, gx_find hq, hw2⟩))
      obtain ⟨r1, y1, y2, ce, y3, y4, y5, -⟩ := (t6.2 _ _ g4).obj z2
      have hat := (hKN tg r1 y1).2
      have hnm2 : gx_xn tg = r1.1 := by unfold gx_xn; rw [y1]; rfl
      obtain ⟨kC, hkC, -⟩ := hat.2
      have hcat2 : gx_catL (gx_mo j) pc hc x (c.exceptionTable.toList.map (fun h => (h.startPc, h.endPc, h.handlerPc, h.catchType))) false = some (some pc') := by rw [hhand]; exact hcat
      obtain ⟨vm₂, X₂, st2⟩ := gx_caught X' (own := gx_o (gx_mo j)) hown (a := ba + x) (ce := ce) (t0 := tg) (by rw [hheap]; exact y3) y5 (by rw [hnm2, y4]; exact hat.1) ⟨kC, by rw [y4]; exact hkC⟩ (g := F0 m pc ls (gx_t ba b rest)) rfl g4 (wxt _ _ g3 _ (List.mem_cons_of_mem _ List.mem_cons_self))
        (fun t hany => by
          obtain ⟨n, hn, hn2⟩ := List.any_eq_true.mp hany
          rw [Bool.and_eq_true, beq_iff_eq, beq_iff_eq] at hn2
          obtain ⟨rfl, rfl⟩ := hn2
          exact gx_ncm hle.1.alike (hs0.2.2.2.2.2.2.2.2 n hn)) (fun ix tx hq => ⟨(gx_XTok _ (gx_find hq)).1, wxt _ _ hq _ List.mem_cons_self⟩) hcat2
      have K2 := ih (d' + 1) j pc' L [.ref x] hc (k + kc) (u + uc) o h' k' u' er (l := l) (e := e) (args := args) (below := below) (H := T'.heap) (locs := locs ++ L2) C0' (by rw [hheap]; exact t6)
        (fun z hz => (List.mem_append.mp hz).elim (hlo z) (t5 z)) (fun z hz => by
          rw [hheap, t7 z hz]
          show T.heap[z]? = _
          rw [hHT]
          exact hH z hz) hl hrm hk hu
      obtain ⟨t2', b1, b2⟩ := K2 (T'.setVm vm₂) rfl X₂
      refine ⟨t2', hstep t2' fun acts => ?_, b2⟩
      rw [doInvoke_state]
      refine a1.trans ?_
      rw [ht]
      exact st2 _ b1
    · cases er
  · cases er
