section GXK
variable {p : Program} {l : Launch} {e : Env} {R : Room} {s : State} {m : MethodId} {args : Array Value} {below : List Frame} {meth : Method} {c : Code} {T : State} {locs : List Loc} {cells slots : Nat}
/-- a catch type, resolved now or before: the search as from the tables that the resolution leaves -/
theorem gx_goC {Q : Handler → Pre} {E : CtlPost} {d : Bool} {acts : List Action} {S : State} {f : JFrame} {a : Addr} {x : ExceptionTableEntry} {t : List ExceptionTableEntry} {cc : ClassId} {vm' : Vm} (hx : covers x f.pc = true) (h0 : x.catchType ≠ 0)
    (hg : (Jvm.resolveClass f.method.cls x.catchType).Gives e.toSetting S.vm (.ok cc) vm') (hr : vm'.classReady f.method.cls x.catchType cc) (hsz : vm'.classes.size ≤ S.vm.classes.size) :
    wp (findHandler.go f a (x :: t)) Q E e d acts S ↔ wp (findHandler.go f a (x :: t)) Q E e d acts (S.setVm vm') := by
  obtain ⟨ha, ht⟩ := hg.op (op := VmOp.resolveClass f.method.cls x.catchType) rfl
  simp only [covers] at hx
  obtain ⟨k, hkd, hres⟩ := hr
  simp [findHandler.go, hx, h0, ha, ht, hsz, resolveClass_memo e hkd hres, VmOp.dirties, VmOp.acts]
  exact Iff.rfl
set_option maxHeartbeats 4000000 in
/-- an exception of class C at a is caught by the first entry that covers the pc, which names C -/
theorem gx_caught (X : Stand p l e R s m args below meth c T locs cells slots) {own C : String} (hown : s.vm.findClass own = some m.cls) {a : Addr} {ce : Cell} (hce : T.heap[a]? = some ce) (hvm : ce.vm = .none) (hcls : s.vm.findClass C = some ce.cls) (hkc : ∃ k, s.vm.classes[ce.cls]? = some k) (hcast : (Cond.castable C C).before args s = true)
    {g : JFrame} (hg : g.method = m) {pre : List ExceptionTableEntry} {x : ExceptionTableEntry} {rest : List ExceptionTableEntry} (hsplit : c.exceptionTable.toList = pre ++ x :: rest) (hskip : ∀ y ∈ pre, covers y g.pc = false) (hx : covers x g.pc = true) (h0 : x.catchType ≠ 0)
    (hlink : (Cond.classLink own x.catchType C).before args s = true) :
    ∃ vm₁, Stand p l e R s m args below meth c (T.setVm vm₁) locs cells slots ∧ ∀ target, Steps p.tables e below ((T.setVm vm₁).setTop { g with pc := x.handlerPc, stack := [.ref a] }) target → Steps p.tables e below ((T.setTop g).pushFrame (.throwing a)) target := by
  subst hg
  have hpl : e.platform.magicAccessors = ({} : Platform).magicAccessors := by rw [X.admits.platform]
  obtain ⟨cc, hfcc, hcl⟩ := Cond.classLink_spec hown hlink e.platform hpl
  obtain ⟨hg₁, hwarm₁, hready₁⟩ := State.classEntry (e := e) X.warmed hcl
  generalize T.vm.noted g.method.cls x.catchType (.cls cc) = vm₁ at hg₁ hwarm₁ hready₁
  cases hcls.symm.trans hfcc
  have X₁ := X.noted hwarm₁
  obtain ⟨c1, c2, q1, q2, q3⟩ := Cond.castable_spec hcast
  cases hcls.symm.trans q1
  cases hcls.symm.trans q2
  refine ⟨vm₁, X₁, fun target hrest => ?_⟩
  have hh : At T g.method c below := X.here
  obtain ⟨hgo, hw⟩ := hh.throwing a
  refine Steps.head hgo hw ?_
  rw [stepThread_throwing (frames_entered hh.top _)]
  have hmeth : T.vm.method? g.method = some meth := X.method'
  have hmeth₁ : (T.setVm vm₁).vm.method? g.method = some meth := X₁.method'
  obtain ⟨k1, hk1⟩ := hkc
  obtain ⟨k1', hk1', -⟩ := (X₁.warmed).alike.2.2 _ _ hk1
  have hfind : ∀ (Q : Handler → Pre) (E : CtlPost) (d : Bool) (acts : List Action), wp (findHandler g a) Q E e d acts ((T.setTop g).pushFrame (.throwing a)) ↔ Q (.found x.handlerPc) d acts (((T.setTop g).pushFrame (.throwing a)).setVm vm₁) := by
    intro Q E d acts
    have v1 : ((T.setTop g).pushFrame (.throwing a)).vm = T.vm := Stand.throwing_vm T g a
    have v2 : ((T.setTop g).pushFrame (.throwing a)).heap = T.heap := Stand.throwing_heap T g a
    have hskipW : ∀ (l : List ExceptionTableEntry) (r : List ExceptionTableEntry) (S : State), (∀ y ∈ l, covers y g.pc = false) → (wp (findHandler.go g a (l ++ r)) Q E e d acts S ↔ wp (findHandler.go g a r) Q E e d acts S) := by
      intro l
      induction l with
      | nil => intro r S _; exact Iff.rfl
      | cons y l ih =>
        intro r S hl
        rw [List.cons_append, W.findHandler_go_skip (hl y (List.mem_cons_self ..))]
        exact ih r S (fun z hz => hl z (List.mem_cons_of_mem _ hz))
    rw [W.findHandler_eq (by rw [v1]; exact hmeth) X.code, hsplit, hskipW pre (x :: rest) _ hskip, gx_goC hx h0 (by rw [v1]; exact hg₁) hready₁ (by rw [v1]; exact Vm.Alike.size_le (alike_of X.warmed hwarm₁)),
      W.findHandler_go_class (s := ((T.setTop g).pushFrame (.throwing a)).setVm vm₁) (c := ce.cls) (cell := ce) hx h0 hready₁ (by show ((T.setTop g).pushFrame (.throwing a)).heap[a]? = _; rw [v2]; exact hce) (fun z hz => by rw [hvm] at hz; cases hz) ⟨k1', hk1'⟩ ⟨k1', hk1'⟩, if_pos (show (((T.setTop g).pushFrame (.throwing a)).setVm vm₁).vm.assignable ce.cls ce.cls = true from (X₁.warmed.alike.assignable _ _).trans q3)]
  have hstep : (stepThrowing e ((T.setTop g).pushFrame (.throwing a)) a (.java g :: T.frames.tail)).1 = (((T.setTop g).pushFrame (.throwing a)).setVm vm₁).setFrames (.java { g with pc := x.handlerPc, stack := [.ref a] } :: T.frames.tail) := by
    simp only [stepThrowing, searchFrame, vmDo]
    generalize hr : Sem.go _ e false [] ((T.setTop g).pushFrame (.throwing a)) = res
    obtain ⟨as, rfl, ha⟩ := Sem.eq_ok_of hr (a := Handler.found x.handlerPc) (s' := ((T.setTop g).pushFrame (.throwing a)).setVm vm₁) (acts' := []) (by simp [hfind _ _ _ _])
    rfl
  rw [hstep]
  obtain ⟨g₀, hg0⟩ := Option.isSome_iff_exists.mp hh.top
  obtain ⟨r, hr⟩ := State.topJava?_eq_some.mp hg0
  have hr' : (T.setVm vm₁).frames = .java g₀ :: r := hr
  rw [State.setTop_of_frames _ hr'] at hrest
  have e1 : (((T.setTop g).pushFrame (.throwing a)).setVm vm₁).setFrames (.java { g with pc := x.handlerPc, stack := [.ref a] } :: T.frames.tail) = ((((T.setTop g).pushFrame (.throwing a)).setFrames (.java { g with pc := x.handlerPc, stack := [.ref a] } :: T.frames.tail))).setVm vm₁ := rfl
  rw [e1, State.pushFrame, State.setFrames_setFrames, State.setTop_of_frames _ hr, State.setFrames_setFrames, hr]
  exact hrest
end GXK
