/-! throw new NoSuchElementException(".."): its constructor passes the text on by another pool number -/
def gx_six13 : ByteArray := ⟨#[0x2a, 0x2b, 0xb7, 0x00, 0x0d, 0xb1]⟩
theorem gx_s13_0 : decode gx_six13 0 = .ok (.aload_n 0, 1) := by decide +kernel
theorem gx_s13_1 : decode gx_six13 1 = .ok (.aload_n 1, 1) := by decide +kernel
theorem gx_s13_2 : decode gx_six13 2 = .ok (.invokespecial 13, 3) := by decide +kernel
theorem gx_s13_5 : decode gx_six13 5 = .ok (.return_, 1) := by decide +kernel
/-- what is asked of the tables -/
def gx_nsA (own : String) (ic : Nat) (X Y : String) (names : List String) : List Jvm.Cond :=
  Bundle.throwableAtoms ++ (Bundle.throwableSAtoms ++ (Bundle.passSAtoms X Y 13 gx_six13 ++ (Bundle.chainSAtoms Y names ++
  [.methodLink own ic (Bundle.initS X), .instantiable X 6, .selects X Bundle.tFill0 Bundle.tFill0, .selects X Bundle.tFill Bundle.tFill,
   .lays X Bundle.tN "cause" "Ljava/lang/Throwable;", .lays X Bundle.tN "stackTrace" Bundle.steD, .lays X Bundle.tN "suppressedExceptions" Bundle.listD, .lays X Bundle.tN "detailMessage" "Ljava/lang/String;",
   .isRef (.static Bundle.tN "UNASSIGNED_STACK" Bundle.steD), .isRef (.static Bundle.tN "SUPPRESSED_SENTINEL" Bundle.listD),
   .fieldLink Bundle.tN 198 Bundle.tN "backtrace" "Ljava/lang/Object;", .lays Bundle.tN Bundle.tN "backtrace" "Ljava/lang/Object;", .lays X Bundle.tN "backtrace" "Ljava/lang/Object;"])))
section GXNS
variable {p : Program} {l : Launch} {e : Env} {R : Room} {s : State} {m₀ : MethodId} {args : Array Value} {below : List Frame} {meth : Method} {c : Code} {V : State} {locs : List Loc} {cells slots : Nat}
/-- a method that a class selects for itself, asked of the tables -/
theorem gx_nsSel (X : Stand p l e R s m₀ args below meth c V locs cells slots) {cls : String} {cid : ClassId} {tn : MethodName} {mi : MethodId} (hf : s.vm.findClass cls = some cid) (hn : s.methodNamed? tn = some mi) (hi : tn.cls ≠ "java/lang/invoke/MethodHandle" ∧ tn.cls ≠ "java/lang/invoke/VarHandle") (h : (Jvm.Cond.selects cls tn tn).holds args s none s [] = true) : selectMethod e.platform s.vm cid mi = .method mi := by
  obtain ⟨c2, r2, m2, q1, q2, q3, q4, -⟩ := Cond.selects_spec h
  rw [hf] at q1; cases q1
  rw [State.methodFound?_of_named hn hi] at q2; cases q2
  rw [hn] at q3; cases q3
  rw [Launch.admits_selectMethod X.admits]; exact q4
/-- what a statics cell of the start still is -/
theorem gx_nsStat (X : Stand p l e R s m₀ args below meth c V locs cells slots) (hlocs : ∀ x ∈ locs, ∀ cell, s.heap[x.base]? = some cell → cell.vm.isStatics = false) {b : Addr} {cs : Cell} (hcs : s.heap[b]? = some cs) (hst : cs.vm.isStatics = true) : ∃ cv, V.heap[b]? = some cv ∧ cv.vm ≠ .unknown ∧ ∀ i : Nat, cv.slots[i]? = cs.slots[i]? := by
  obtain ⟨cv, h1, h2, -, h4⟩ := X.same.2.2.2.2.2 b cs hcs
  refine ⟨cv, h1, fun q => ?_, fun i => h4 i fun hm => ?_⟩
  · rw [h2] at q; rw [q] at hst; cases hst
  · have := hlocs _ hm cs hcs
    rw [hst] at this; cases this
set_option maxHeartbeats 4000000 in
theorem gx_ctorThrowN (X : Stand p l e R s m₀ args below meth c V locs cells slots) (hexec : p.tables.exec = Jvm.exec) (htr : e.platform.stackTraces = false) {own cls up : String} {names : List String} {ic : Nat}
    (hown : s.vm.findClass own = some m₀.cls) (hcls : Bundle.fit cls = true) (hup : Bundle.fit up = true) (hnames : ∀ n ∈ names, Bundle.fit n = true)
    (h : ∀ a ∈ gx_nsA own ic cls up names, a.before args s = true)
    (hlocs : ∀ x ∈ locs, ∀ cell, s.heap[x.base]? = some cell → cell.vm.isStatics = false)
    {a : Addr} {cX : ClassId} {kX : Class} (hfoundX : s.vm.findClass cls = some cX) (hkX : s.vm.classes[cX]? = some kX) (hcell : V.heap[a]? = some (freshCell cX kX)) (hnew : s.heap.size ≤ a)
    {msg : Value} (hmsg : msg.isRef = true)
    {g : JFrame} (hg : g.method = m₀) (hsize : g.locals.size = c.maxLocals) (hlocked : g.locked = none) (hentered : g.entered = []) {rest : List Value} (hstack : g.stack = msg :: .ref a :: .ref a :: rest)
    (hd6 : decode c.code g.pc = .ok (.invokespecial ic, 3)) (hd9 : decode c.code (g.pc + 3) = .ok (.athrow, 1)) (hout : ∀ x ∈ c.exceptionTable.toList, covers x (g.pc + 3) = false)
    (hRframes : names.length + 4 < R.frames) (hRlocals : 2 * g.monitorRoom + ((Value.ref a :: rest).map fun v => v.category).sum + (13 * (names.length + 2) + 42) ≤ R.locals) (hlocks : meth.locks = false) :
    ∃ U : State, Steps p.tables e below (V.setTop g) U ∧ U.status = .running ∧ Ended U below (.threw a) ∧ s.WarmedH U.vm ∧ s.sameButNew ({ U with vm := s.vm } : State) locs cells slots ∧
      ∃ ce, U.heap[a]? = some ce ∧ s.vm.findClass cls = some ce.cls ∧ ce.vm = .none := by
  have hpl : e.platform.magicAccessors = ({} : Platform).magicAccessors := by rw [X.admits.platform]
  have hin : ∀ x, x ∈ gx_nsA own ic cls up names → x.holds args s none s [] = true := fun x hx => h x hx
  obtain ⟨T, Z0, L, -, Y⟩ := ThrowableC.of_atoms (args := args) (s := s) (pl := e.platform) (by rw [X.admits.platform]) (by rw [X.admits.platform]) hpl (fun x hx => h x (by simp [gx_nsA, hx]))
  obtain ⟨Z, M, LZ, LM, hnZ⟩ := Init0T.ofS_atoms (args := args) hpl L Y (fun x hx => h x (by simp [gx_nsA, hx]))
  obtain ⟨P1, Ps, hlen, L1, hL, hP1m, hlink1, hlink⟩ := Bundle.chainS (args := args) hpl hnZ names up hup hnames (fun x hx => h x (by simp [gx_nsA, hx]))
  obtain ⟨P0, L0, hP0m, hP0s⟩ := PassC.ofS_atoms (args := args) (s := s) hpl (X := cls) (Y := up) (Bundle.fit_spec hcls).1 (Bundle.fit_spec hup).2 gx_s13_0 gx_s13_1 gx_s13_2 gx_s13_5 (fun x hx => h x (by simp [gx_nsA, hx]))
  have hfound : s.vm.findClass cls = some P0.m.cls := findClass_of_methodNamed hP0m
  cases Option.some.inj (hfoundX.symm.trans hfound)
  obtain ⟨c1, kX', hc1, hk, hord, -, -, hn6⟩ := Cond.instantiable_spec (hin (.instantiable cls 6) (by simp [gx_nsA]))
  cases Option.some.inj (hc1.symm.trans hfound)
  cases Option.some.inj (hkX.symm.trans hk)
  have hsel0 := gx_nsSel X hfound Y.fill0 (by decide) (hin (.selects cls Bundle.tFill0 Bundle.tFill0) (by simp [gx_nsA]))
  have hselF := gx_nsSel X hfound Y.fill (by decide) (hin (.selects cls Bundle.tFill Bundle.tFill) (by simp [gx_nsA]))
  obtain ⟨cs, hcs, hst⟩ := Y.statics
  obtain ⟨u0, hu0⟩ := Cond.staticRefV Y.unassigned L.unassignedStatic L.statics hcs hst (hin (.isRef (.static Bundle.tN "UNASSIGNED_STACK" Bundle.steD)) (by simp [gx_nsA]))
  obtain ⟨sen, hsen⟩ := Cond.staticRefV Y.sentinel L.sentinelStatic L.statics hcs hst (hin (.isRef (.static Bundle.tN "SUPPRESSED_SENTINEL" Bundle.listD)) (by simp [gx_nsA]))
  obtain ⟨ci198, i198, fB, hk198, hg198, ha198, hsB, -, hnB, htB, hffB⟩ := Cond.ownField (t := .object "java/lang/Object") Y.found L.cls (by decide +kernel) (hin (.fieldLink Bundle.tN 198 Bundle.tN "backtrace" "Ljava/lang/Object;") (by simp [gx_nsA])) (hin (.lays Bundle.tN Bundle.tN "backtrace" "Ljava/lang/Object;") (by simp [gx_nsA])) e.platform hpl
  obtain ⟨cv, hcv', hknown, hkeep⟩ := gx_nsStat X hlocs hcs hst
  have hne : T.aS ≠ a := Nat.ne_of_lt (Nat.lt_of_lt_of_le (Array.getElem?_eq_some_iff.mp hcs).1 hnew)
  obtain ⟨iM, hffM⟩ := Y.msg
  obtain ⟨tyC, dC, hdC, hdnC⟩ := Cond.laysAt hfound hk Y.cause (hin (.lays cls Bundle.tN "cause" "Ljava/lang/Throwable;") (by simp [gx_nsA]))
  obtain ⟨tyS, dS, hdS, hdnS⟩ := Cond.laysAt hfound hk Y.stack (hin (.lays cls Bundle.tN "stackTrace" Bundle.steD) (by simp [gx_nsA]))
  obtain ⟨tyP, dP, hdP, hdnP⟩ := Cond.laysAt hfound hk Y.supp (hin (.lays cls Bundle.tN "suppressedExceptions" Bundle.listD) (by simp [gx_nsA]))
  obtain ⟨tyM, dM, hdM, hdnM⟩ := Cond.laysAt hfound hk hffM (hin (.lays cls Bundle.tN "detailMessage" "Ljava/lang/String;") (by simp [gx_nsA]))
  obtain ⟨tyB, dB, hdB, hdnB⟩ := Cond.laysAt hfound hk hffB (hin (.lays cls Bundle.tN "backtrace" "Ljava/lang/Object;") (by simp [gx_nsA]))
  have bC := Cond.laysApart hdB hdC hdnB hdnC (by rw [hnB, Y.causeName]; decide)
  have bS := Cond.laysApart hdB hdS hdnB hdnS (by rw [hnB, Y.stackName]; decide)
  have bP := Cond.laysApart hdB hdP hdnB hdnP (by rw [hnB, Y.suppName]; decide)
  have hskip : SkipFacts T e.platform s (fun u => u) u0 ((preparedCellV T.toThrowableT (freshCell P0.m.cls kX) a u0 sen).withEntry V.cur) :=
    ⟨{ ci198 := ci198, i198 := i198, fBack := fB }, ⟨hk198, hg198, ha198, hsB⟩, by
      have := fresh_default (c := P0.m.cls) tyB
      rw [htB] at this
      simpa [preparedCellV, Cell.setSlot, Cell.withEntry, Array.getElem?_setIfInBounds, bC, bS, bP, bC.symm, bS.symm, bP.symm, defaultValue] using this, fun _ _ => rfl⟩
  obtain ⟨tm, -, -, -, vm₁, hnC, -, -, -, -, -, -, -, hW₁, st1⟩ := Steps.initColdS (tb := p.tables) (e := e) (below := below) (s := s) (U := V) X.here hexec X.warmed hpl hown (t := Bundle.initS cls) rfl rfl (Bundle.fit_spec hcls).2
    (hin (.methodLink own ic (Bundle.initS cls)) (by simp [gx_nsA])) (h (.instanceMethod (Bundle.initS cls)) (by simp [gx_nsA, Bundle.passSAtoms])) (bytes := gx_six13) (maxL := 2) (h (.code (Bundle.initS cls) gx_six13 2 none) (by simp [gx_nsA, Bundle.passSAtoms]))
    (f := g) hg (a := a) (msg := msg) (rest := .ref a :: rest) hstack hd6
  cases Option.some.inj (hnC.symm.trans hP0m)
  obtain ⟨vm₂, X₂, st2⟩ := (X.noted hW₁).ctorMessageOffV hexec (g := { g with stack := .ref a :: rest }) hg hsize T L Z LZ M LM (P0 :: P1 :: Ps)
    (fun P hP => by
      rcases List.mem_cons.mp hP with rfl | hP
      · exact L0
      · rcases List.mem_cons.mp hP with rfl | hP
        · exact L1
        · exact hL P hP) ⟨Option.some.inj (hP0s.symm.trans hP1m), hlink1, hlink⟩ (u0 := u0) (sen := sen) (self := a) hmsg (cell := freshCell P0.m.cls kX) (cellS := cv)
    hcell (fun _ => by simp) (by simp) rfl rfl hsel0 hselF hcv' hne hknown (by rw [hkeep]; exact hu0) (by rw [hkeep]; exact hsen)
    (Takes.of_laid hk hord tyC (by rw [Y.causeType]; rfl)) (Takes.of_laid hk hord tyS (by rw [Y.stackType]; exact fits_refV_array _ u0)) (Takes.of_laid hk hord tyP (by rw [Y.suppType]; exact fits_refV_object _ sen))
    (Takes.of_laid hk hord tyM (by rw [Y.msgType]; exact fits_refV_object _ ⟨msg, hmsg⟩)) Y.objLocals hskip htr [] hd6
    (by simp only [List.length_cons, hlen]; omega) (by simp only [List.length_cons, hlen]; exact hRlocals)
  obtain ⟨hwalk, hrun, hended, hWU, hsame⟩ := X₂.athrowLeaves hexec (g := { g with stack := .ref a :: rest, pc := g.pc + 3 }) hg hlocked hentered hout (a := a) (rest := rest) rfl hd9 hlocks
  have hlt : a < ((V.setVm vm₁).setVm vm₂).heap.size := (Array.getElem?_eq_some_iff.mp hcell).1
  have hU := heapAt_setCell_self (s := (V.setVm vm₁).setVm vm₂) (plainBareV T.toThrowableT (freshCell P0.m.cls kX) a u0 sen msg) hlt
  refine ⟨_, st1 _ (fun acts => ?_), hrun, hended, hWU, hsame.weaken (fun y hy hlt' => ?_) (Nat.le_refl _) (Nat.le_refl _), _, hU, hfound, rfl⟩
  · rw [doInvoke_state]
    exact st2 _ hwalk
  · rcases List.mem_append.mp hy with h1 | h1
    · exact h1
    · exfalso
      have hb : y.base = a := by
        simp only [List.mem_cons, List.not_mem_nil, or_false] at h1
        rcases h1 with rfl | rfl | rfl | rfl | rfl <;> rfl
      rw [hb] at hlt'
      exact Nat.not_lt.mpr hnew hlt'
end GXNS
