section GXT
variable {p : Program} {l : Launch} {e : Env} {R : Room} {s : State} {m : MethodId} {args : Array Value} {below : List Frame} {meth : Method} {c : Code} {T : State} {locs : List Loc} {cells slots : Nat}
/-- an invocation under way, seen as one that begins here -/
theorem gx_rebase (X : Stand p l e R s m args below meth c T locs cells slots) {R' : Room} (h1 : R'.frames ≤ R.frames) (h2 : R'.locals ≤ R.locals) (h3 : cells + R'.cells ≤ R.cells) (h4 : slots + R'.slots ≤ R.slots) : Stand p l e R' (T.setFrames (.invoking m args :: below)) m args below meth c T [] 0 0 := by
  obtain ⟨g₀, hfr⟩ := X.frames_eq
  have hcur : T.cur < T.threads.size := State.cur_lt_of_frames hfr
  obtain ⟨th, hth, -⟩ := State.frames_cons hfr
  have hf' : (T.setFrames (.invoking m args :: below)).frames = .invoking m args :: below := State.frames_setFrames _ hcur
  have hm' : (T.setFrames (.invoking m args :: below)).vm.method? m = some meth := X.method'
  have hroom := X.room
  obtain ⟨hh1, hh2⟩ := X.heapHas h3 h4
  have hloc := State.localsInUse_invoking X.frames X.method X.code
  have hloc' := State.localsInUse_invoking hf' hm' X.code
  refine ⟨X.admits, X.cas, X.clock, hf', ?_, ?_, hm', X.code, X.here, X.tail, State.WarmedH.refl (T.setFrames (.invoking m args :: below)), (State.stackLimits_setFrames _ _ _).symm, (State.stackBytes_setFrames _ _).symm, ?_⟩
  · simp only [State.hasRoom, Bool.and_eq_true, decide_eq_true_eq] at hroom ⊢
    rw [hloc, X.frames] at hroom
    rw [hloc', hf', State.stackLimits_setFrames, X.limits, State.stackBytes_setFrames, X.bytes]
    obtain ⟨⟨⟨⟨r1, r2, r3, r4, r5, r6⟩, -⟩, -⟩, -⟩ := hroom
    refine ⟨⟨⟨⟨by omega, by omega, by omega, by omega, by omega, r6⟩, hh1⟩, hh2⟩, X.book⟩
  · have hh := X.hears
    have hc : ∀ x, (T.setFrames (.invoking m args :: below)).code? x = s.code? x := fun x => by
      rw [State.code?_eq, State.code?_eq]
      show (T.vm.method? x).bind _ = _
      rw [X.warmed.alike.method?]
    have hmm : (T.setFrames (.invoking m args :: below)).vm.method? m = s.vm.method? m := hm'.trans X.method.symm
    revert hh
    unfold State.hears
    split <;> simp only [hc, hmm] <;> exact id
  · obtain ⟨th', hth', -⟩ := State.frames_cons hf'
    have hcur' : (T.setFrames (.invoking m args :: below)).cur < (T.setFrames (.invoking m args :: below)).threads.size := State.cur_lt_of_frames hf'
    have h0 := (State.sameButNew.refl (T.setFrames (.invoking m args :: below)) hth').setFrames T.frames hcur'
    rw [State.setFrames_setFrames, State.setFrames_self hth] at h0
    exact h0
end GXT
