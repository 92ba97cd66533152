section GXK
variable {p : Program} {l : Launch} {e : Env} {R : Room} {s : State} {m : MethodId} {args : Array Value} {below : List Frame} {meth : Method} {c : Code} {T : State} {locs : List Loc} {cells slots : Nat}
/-- a catch type, resolved now or before: the search as from the tables that the resolution leaves -/
theorem gx_goC {Q : Handler → Pre} {E : CtlPost} {d : Bool} {acts : List Action} {S : State} {f : JFrame} {a : Addr} {x : ExceptionTableEntry} {t : List ExceptionTableEntry} {cc : ClassId} {vm' : Vm} (hx : covers x f.pc = true) (h0 : x.catchType ≠ 0)
    (hg : (Jvm.resolveClass f.method.cls x.catchType).Gives e.toSetting S.vm (.ok cc) vm') (hr : vm'.classReady f.method.cls x.catchType cc) (hsz : vm'.classes.size ≤ S.vm.classes.size) :
    wp (findHandler.go f a (x :: t)) Q E e d acts S ↔ wp (findHandler.go f a (x :: t)) Q E e d acts (S.setVm vm') := by
  obtain ⟨ha, ht⟩ := hg.op (op := VmOp.resolveClass f.method.cls x.catchType) rfl
  simp only [covers] at hx
  obtain ⟨k, hkd, hres⟩ := hr
  simp [findHandler.go, hx, h0, ha, ht, hsz, resolveClass_memo e hkd hres, VmOp.dirties, VmOp.acts]
  exact Iff.rfl
theorem gx_nc {A B : String} {ca cb : ClassId} {s : State} {args : Array Value} (h : (Jvm.Cond.not (.castable A B)).before args s = true) (hA : s.vm.findClass A = some ca) (hB : s.vm.findClass B = some cb) : s.vm.assignable ca cb = false := by
  simpa [Cond.before, Cond.holds, Cond.value, hA, hB] using h
theorem gx_ncm {A B : String} {s₀ s : State} {args₀ args : Array Value} (hal : s₀.vm.Alike s.vm) (h : (Jvm.Cond.not (.castable A B)).before args₀ s₀ = true) : (Jvm.Cond.not (.castable A B)).before args s = true := by
  simp only [Cond.before, Cond.holds, Cond.value] at h ⊢
  rw [hal.findClass, hal.findClass]
  cases hA : s₀.vm.findClass A with
  | none => rw [hA] at h; cases h
  | some ca =>
    cases hB : s₀.vm.findClass B with
    | none => rw [hA, hB] at h; cases h
    | some cb =>
      rw [hA, hB] at h
      simp only at h ⊢
      rw [hal.assignable]
      exact h
/-- the search through a class file's own handlers, as the small machine's -/
theorem gx_findL {own : String} (hown : s.vm.findClass own = some m.cls) {a : Addr} {ce : Cell} {t0 : Nat} (hvm : ce.vm = .none) (hcls : s.vm.findClass (gx_xn t0) = some ce.cls) (hkc : ∃ k, s.vm.classes[ce.cls]? = some k)
    {g : JFrame} (hg : g.method = m) {o : Nat} {h : gx_H} {x : Nat} {fs : List Value} (hx : h[x]? = some (t0, fs)) (hcast : (Cond.castable (gx_xn t0) (gx_xn t0)).before args s = true)
    (hnc : ∀ t, gx_NC.any (fun n => n.1 == t0 && n.2 == t) = true → (Jvm.Cond.not (.castable (gx_xn t0) (gx_xn t))).before args s = true)
    (hw : ∀ idx t, gx_xt o idx = some t → idx ≠ 0 ∧ (Cond.classLink own idx (gx_xn t)).before args s = true) :
    ∀ (L : List ExceptionTableEntry) (seen : Bool) (pc' : Nat) (T : State), Stand p l e R s m args below meth c T locs cells slots → gx_catL o g.pc h x (L.map (fun h => (h.startPc, h.endPc, h.handlerPc, h.catchType))) seen = some (some pc') →
      ∃ vm₁, Stand p l e R s m args below meth c (T.setVm vm₁) locs cells slots ∧ ∀ (S : State), S.vm = T.vm → S.heap[a]? = some ce → ∀ (Q : Handler → Pre) (E : CtlPost) (d : Bool) (acts : List Action), wp (findHandler.go g a L) Q E e d acts S ↔ Q (.found pc') d acts (S.setVm vm₁) := by
  subst hg
  intro L
  induction L with
  | nil =>
    intro seen pc' T X hc
    rw [List.map_nil, gx_catL] at hc
    split at hc <;> cases hc
  | cons y L ih =>
    intro seen pc' T X hc
    rw [List.map_cons, gx_catL] at hc
    split at hc
    · rename_i hcov
      have hcov2 : covers y g.pc = true := hcov
      obtain ⟨t, ht, hc1⟩ := Option.bind_eq_some_iff.mp hc
      rw [hx, Option.bind_some] at hc1
      dsimp only at ht hc1
      obtain ⟨hn0, hlink⟩ := hw _ _ ht
      have hpl : e.platform.magicAccessors = ({} : Platform).magicAccessors := by rw [X.admits.platform]
      obtain ⟨cc, hfcc, hcl⟩ := Cond.classLink_spec hown hlink e.platform hpl
      obtain ⟨hg₁, hwarm₁, hready₁⟩ := State.classEntry (e := e) X.warmed hcl
      generalize T.vm.noted g.method.cls y.catchType (.cls cc) = vm₁ at hg₁ hwarm₁ hready₁
      have X₁ := X.noted hwarm₁
      obtain ⟨k1, hk1⟩ := hkc
      obtain ⟨k1', hk1', -⟩ := (X₁.warmed).alike.2.2 _ _ hk1
      obtain ⟨kc, hkc0, -⟩ := Vm.findClass_spec hfcc
      obtain ⟨kc', hkc', -⟩ := (X₁.warmed).alike.2.2 _ _ hkc0
      split at hc1
      · rename_i he
        subst he
        cases hc1
        cases hcls.symm.trans hfcc
        obtain ⟨c1, c2, q1, q2, q3⟩ := Cond.castable_spec hcast
        cases hcls.symm.trans q1
        cases hcls.symm.trans q2
        refine ⟨vm₁, X₁, fun S hS1 hS2 Q E d acts => ?_⟩
        rw [gx_goC hcov2 hn0 (by rw [hS1]; exact hg₁) hready₁ (by rw [hS1]; exact Vm.Alike.size_le (alike_of X.warmed hwarm₁)),
          W.findHandler_go_class (s := S.setVm vm₁) (c := ce.cls) (cell := ce) hcov2 hn0 hready₁ hS2 (fun z hz => by rw [hvm] at hz; cases hz) ⟨k1', hk1'⟩ ⟨k1', hk1'⟩, if_pos (show (S.setVm vm₁).vm.assignable ce.cls ce.cls = true from (X₁.warmed.alike.assignable _ _).trans q3)]
      · split at hc1
        · rename_i hany
          have hno := gx_nc (hnc t hany) hcls hfcc
          obtain ⟨vm₂, X₂, hgo⟩ := ih true pc' (T.setVm vm₁) X₁ hc1
          refine ⟨vm₂, X₂, fun S hS1 hS2 Q E d acts => ?_⟩
          rw [gx_goC hcov2 hn0 (by rw [hS1]; exact hg₁) hready₁ (by rw [hS1]; exact Vm.Alike.size_le (alike_of X.warmed hwarm₁)),
            W.findHandler_go_class (s := S.setVm vm₁) (c := cc) (cell := ce) hcov2 hn0 hready₁ hS2 (fun z hz => by rw [hvm] at hz; cases hz) ⟨k1', hk1'⟩ ⟨kc', hkc'⟩, if_neg (show ¬ (S.setVm vm₁).vm.assignable ce.cls cc = true from by
              rw [show (S.setVm vm₁).vm.assignable ce.cls cc = false from (X₁.warmed.alike.assignable _ _).trans hno]; exact Bool.false_ne_true)]
          exact hgo (S.setVm vm₁) rfl hS2 Q E d acts
        · cases hc1
    · rename_i hcov
      have hcov2 : covers y g.pc = false := Bool.eq_false_iff.mpr hcov
      obtain ⟨vm₂, X₂, hgo⟩ := ih seen pc' T X hc
      refine ⟨vm₂, X₂, fun S hS1 hS2 Q E d acts => ?_⟩
      rw [W.findHandler_go_skip hcov2]
      exact hgo S hS1 hS2 Q E d acts
set_option maxHeartbeats 4000000 in
/-- an exception at a is caught where the search through the handlers says -/
theorem gx_caught (X : Stand p l e R s m args below meth c T locs cells slots) {own : String} (hown : s.vm.findClass own = some m.cls) {a : Addr} {ce : Cell} {t0 : Nat} (hce : T.heap[a]? = some ce) (hvm : ce.vm = .none) (hcls : s.vm.findClass (gx_xn t0) = some ce.cls) (hkc : ∃ k, s.vm.classes[ce.cls]? = some k)
    {g : JFrame} (hg : g.method = m) {o : Nat} {h : gx_H} {x : Nat} {fs : List Value} (hx : h[x]? = some (t0, fs)) (hcast : (Cond.castable (gx_xn t0) (gx_xn t0)).before args s = true)
    (hnc : ∀ t, gx_NC.any (fun n => n.1 == t0 && n.2 == t) = true → (Jvm.Cond.not (.castable (gx_xn t0) (gx_xn t))).before args s = true)
    (hw : ∀ idx t, gx_xt o idx = some t → idx ≠ 0 ∧ (Cond.classLink own idx (gx_xn t)).before args s = true) {pc' : Nat} (hc : gx_catL o g.pc h x (c.exceptionTable.toList.map (fun h => (h.startPc, h.endPc, h.handlerPc, h.catchType))) false = some (some pc')) :
    ∃ vm₁, Stand p l e R s m args below meth c (T.setVm vm₁) locs cells slots ∧ ∀ target, Steps p.tables e below ((T.setVm vm₁).setTop { g with pc := pc', stack := [.ref a] }) target → Steps p.tables e below ((T.setTop g).pushFrame (.throwing a)) target := by
  obtain ⟨vm₁, X₁, hgoL⟩ := gx_findL (a := a) hown hvm hcls hkc hg hx hcast hnc hw c.exceptionTable.toList false pc' T X hc
  subst hg
  refine ⟨vm₁, X₁, fun target hrest => ?_⟩
  have hh : At T g.method c below := X.here
  obtain ⟨hgo, hw⟩ := hh.throwing a
  refine Steps.head hgo hw ?_
  rw [stepThread_throwing (frames_entered hh.top _)]
  have hmeth : T.vm.method? g.method = some meth := X.method'
  have hmeth₁ : (T.setVm vm₁).vm.method? g.method = some meth := X₁.method'
  have hfind : ∀ (Q : Handler → Pre) (E : CtlPost) (d : Bool) (acts : List Action), wp (findHandler g a) Q E e d acts ((T.setTop g).pushFrame (.throwing a)) ↔ Q (.found pc') d acts (((T.setTop g).pushFrame (.throwing a)).setVm vm₁) := by
    intro Q E d acts
    have v1 : ((T.setTop g).pushFrame (.throwing a)).vm = T.vm := Stand.throwing_vm T g a
    have v2 : ((T.setTop g).pushFrame (.throwing a)).heap = T.heap := Stand.throwing_heap T g a
    rw [W.findHandler_eq (by rw [v1]; exact hmeth) X.code]
    exact hgoL _ v1 (by rw [v2]; exact hce) Q E d acts
  have hstep : (stepThrowing e ((T.setTop g).pushFrame (.throwing a)) a (.java g :: T.frames.tail)).1 = (((T.setTop g).pushFrame (.throwing a)).setVm vm₁).setFrames (.java { g with pc := pc', stack := [.ref a] } :: T.frames.tail) := by
    simp only [stepThrowing, searchFrame, vmDo]
    generalize hr : Sem.go _ e false [] ((T.setTop g).pushFrame (.throwing a)) = res
    obtain ⟨as, rfl, ha⟩ := Sem.eq_ok_of hr (a := Handler.found pc') (s' := ((T.setTop g).pushFrame (.throwing a)).setVm vm₁) (acts' := []) (by simp [hfind _ _ _ _])
    rfl
  rw [hstep]
  obtain ⟨g₀, hg0⟩ := Option.isSome_iff_exists.mp hh.top
  obtain ⟨r, hr⟩ := State.topJava?_eq_some.mp hg0
  have hr' : (T.setVm vm₁).frames = .java g₀ :: r := hr
  rw [State.setTop_of_frames _ hr'] at hrest
  have e1 : (((T.setTop g).pushFrame (.throwing a)).setVm vm₁).setFrames (.java { g with pc := pc', stack := [.ref a] } :: T.frames.tail) = ((((T.setTop g).pushFrame (.throwing a)).setFrames (.java { g with pc := pc', stack := [.ref a] } :: T.frames.tail))).setVm vm₁ := rfl
  rw [e1, State.pushFrame, State.setFrames_setFrames, State.setTop_of_frames _ hr, State.setFrames_setFrames, hr]
  exact hrest
end GXK
