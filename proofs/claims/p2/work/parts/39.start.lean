def R_law : String := "CopiedGraphsLaw"
def lw_P (b : Addr) (xs : List Int32) (args : Array Value) (s : State) : Prop := args = #[.ref b] ∧ s.IntsAt b xs ∧ xs.length ≤ 3072 ∧ (Jvm.Cond.and given_1 narrow_1).before args s = true
def lw_Q (_ : Array Value) (s : State) (o : Outcome) (t : State) : Prop := o = .returned (some (.int 1)) ∧ Framed s o t [] 601024 7293034
def lw_Z (below : List Frame) (a : Array Value) (s : State) : State → Prop := fun t => ∃ o, t.status = .running ∧ Ended t below o ∧ lw_Q a s o t
/-- the law's own end, with 1 on the stack, nothing written that was there before, its room as the claim has it -/
theorem lw_ret {p : Program} {l : Launch} {e : Env} {s : State} {m : MethodId} {below : List Frame} {meth : Method} {c : Code} {b : Nat} (hx : p.tables.exec = Jvm.exec) (hb : c.code = code) (hr : meth.sig.returnType = ret) (hlocks : meth.locks = false) {pc : Nat} {H : Heap} {ls : Array Slot} (hdg : decode code pc = .ok (.ireturn, 1)) : W p l e room_1 s m #[Value.ref b] below meth c H [] 601024 7293034 (lw_Z below #[Value.ref b] s) (F0 m pc ls [.int 1]) := by
  intro T hT X
  obtain ⟨fs, hret, hrun, hended, hW, hframe⟩ := X.leave (v := some (.int 1)) (hlocks := hlocks) (fun h => by rw [hr] at h; cases h)
  have hmeth' : T.vm.method? m = some meth := X.method'
  refine ⟨T.setFrames fs, ?_, .returned (some (.int 1)), hrun, hended, rfl, ⟨_, rfl⟩, hW, hframe⟩
  jvm_step X.here [X.here.top, hx, hb, hdg, hmeth', hr, ret, narrow_b1]
  (try refine ⟨rfl, ?_⟩); (try refine ⟨rfl, ?_⟩)
  first | (intro acts; rw [hret _ acts rfl rfl rfl]) | rw [hret _ _ rfl rfl rfl]
  exact Steps.refl _
/-- what holds at the law's entry: the machine, the code, the tables' words (any of lw_tbl by 'hts w (by decide +kernel)'), the script of L ints xs at the cell b, what the Statement gives of the start (any of its parts by flat_of_before) -/
def lw_At (p : Program) (s : State) (m : MethodId) (meth : Method) (c : Code) (b L : Nat) (xs : Nat → Int32) : Prop :=
  p.tables.exec = Jvm.exec ∧ c.code = code ∧ meth.sig.returnType = ret ∧ c.maxLocals = 8 ∧ s.vm.findClass R_law = some m.cls ∧ (∀ w ∈ lw_tbl, w.before #[Value.ref b] s = true) ∧ va_X b L xs s s.heap ∧ b < s.heap.size ∧ meth.locks = false ∧ (Jvm.Cond.and given_1 narrow_1).before #[Value.ref b] s = true
/-- the classes' numbers at the start -/
theorem gx_start_D {s : State} {b : Nat} (hts : ∀ w ∈ lw_tbl, w.before #[Value.ref b] s = true) : ∃ D : va_G, gx_KN s D := by
  have hall : gx_cl.all (fun r => lw_tbl.any (fun w => match w with | .instantiable C _ => decide (C = r.1) | _ => false)) = true := by decide +kernel
  have key : ∀ ci : Nat, ∃ pr : ClassId × (Nat → Nat), ∀ q : vw_C, gx_cl[ci]? = some q → u_Kn s q.1 q.2.1 q.2.2 pr.1 pr.2 := by
    intro ci
    cases hq : gx_cl[ci]? with
    | none => exact ⟨(0, fun _ => 0), fun q hq2 => by cases hq2⟩
    | some q =>
      obtain ⟨w, hw, hw2⟩ := List.any_eq_true.mp (List.all_eq_true.mp hall q (List.mem_of_getElem? hq))
      split at hw2
      · rename_i C n
        have hC : C = q.1 := of_decide_eq_true hw2
        subst hC
        obtain ⟨cC, iS, h⟩ := u_known (T := q.2.1) (N := q.2.2) hts (fun w hw => (List.mem_filter.mp (gx_wC hq w hw)).1) (hts _ hw)
        exact ⟨(cC, iS), fun q2 hq2 => by cases hq2; exact h⟩
      · cases hw2
  exact ⟨(fun ci => (Classical.choose (key ci)).1, fun ci => (Classical.choose (key ci)).2), fun ci q hq => Classical.choose_spec (key ci) q hq⟩
/-- the array classes' numbers at the start -/
theorem gx_start_A {s : State} {b : Nat} (hts : ∀ w ∈ lw_tbl, w.before #[Value.ref b] s = true) : ∃ aC : Nat → ClassId, gx_AK s aC := by
  have ain : ∀ {w : Jvm.Cond}, w ∈ gx_words → w.before #[Value.ref b] s = true := fun hw => hts _ (List.mem_filter.mp hw).1
  have key : ∀ t : Nat, ∃ cA : ClassId, t < 5 → ∃ (k : Class) (comp : ClassId), s.vm.classes[cA]? = some k ∧ k.kind = .array comp (gx_ty t) ∧ s.vm.findClass ("[" ++ (gx_ty t).toString) = some cA ∧ (t = 3 → s.vm.findClass gx_elem = some comp) := by
    intro t
    match t with
    | 0 =>
      obtain ⟨cA, kA, comp, h1, h2, h3⟩ := Cond.arrayClass_spec (ain (gx_wA (w := .arrayClass .int) (by simp)))
      exact ⟨cA, fun _ => ⟨kA, comp, h2, h3, h1, fun e => by cases e⟩⟩
    | 1 =>
      obtain ⟨cA, kA, comp, h1, h2, h3⟩ := Cond.arrayClass_spec (ain (gx_wA (w := .arrayClass .long) (by simp)))
      exact ⟨cA, fun _ => ⟨kA, comp, h2, h3, h1, fun e => by cases e⟩⟩
    | 2 =>
      obtain ⟨cA, kA, comp, h1, h2, h3⟩ := Cond.arrayClass_spec (ain (gx_wA (w := .arrayClass .boolean) (by simp)))
      exact ⟨cA, fun _ => ⟨kA, comp, h2, h3, h1, fun e => by cases e⟩⟩
    | 3 =>
      obtain ⟨comp, cA, kA, h1, h2, h3, h4, h5⟩ := Cond.arrayOver_spec (ain gx_wO)
      exact ⟨cA, fun _ => ⟨kA, comp, h3, h4, h5, fun _ => h1⟩⟩
    | 4 =>
      have h := ain (gx_pick gx_cMU.1 gx_cMU.2 (w := .arrayOver (.array .int)) (List.mem_append_right _ List.mem_cons_self))
      simp only [Cond.before, Cond.holds, Cond.value, beq_iff_eq, Option.bind_eq_some_iff, Option.map_eq_some_iff] at h
      obtain ⟨comp, hc, cA, hi, k, hk, hb⟩ := h
      split at hb
      · rename_i comp' ty hkd
        simp only [Bool.and_eq_true, decide_eq_true_eq] at hb
        obtain ⟨rfl, hb2⟩ := hb
        exact ⟨cA, fun _ => ⟨k, comp', hk, hkd, hb2, fun e => by cases e⟩⟩
      · cases hb
    | t + 5 => exact ⟨0, fun h => by omega⟩
  exact ⟨fun t => Classical.choose (key t), fun t ht => Classical.choose_spec (key t) ht⟩
/-- the law's run on the small machine: what is still wanted -/
def gx_Law (N : Nat) : Prop := ∀ xs : List Int32, xs.length ≤ N → ∃ (n d : Nat) (h' : gx_H) (k' u' : Nat), gx_run (some xs) n d 195 0 [(0, .float 0)] [] [] 0 0 = some (.returned (some (.int 1)), h', k', u') ∧ d ≤ 800 ∧ k' ≤ 601024 ∧ u' ≤ 7293034
set_option maxHeartbeats 8000000 in
theorem whole_start (hlaw : gx_Law 3072) {p : Program} {e : Env} {s : State} {m : MethodId} {below : List Frame} {meth : Method} {c : Code} (l : Launch) (hfl : l.flags = flags0) {b L : Nat} {xs : Nat → Int32} (hL : L ≤ 3072) (hne : c.exceptionTable.isEmpty = true) (C0 : lw_At p s m meth c b L xs) : W p l e room_1 s m #[Value.ref b] below meth c s.heap [] 0 0 (lw_Z below #[Value.ref b] s) (entryFrame m ([Value.ref b] : List Value).toArray 8) := by
  obtain ⟨hx, hb, hret, hml, hown, hts, hX, hbl, hlocks, hgv⟩ := C0
  obtain ⟨D, hD⟩ := gx_start_D hts
  obtain ⟨aC, hA⟩ := gx_start_A hts
  obtain ⟨n, d, h', k', u', hrun, hd, hk, hu⟩ := hlaw ((List.range L).map xs) (by simpa using hL)
  have hfl2 := flat_of_before _ hgv
  intro T hT X
  have htr : e.platform.stackTraces = false := by
    rw [X.admits.platform]
    show l.stackTraces = false
    unfold Launch.stackTraces
    rw [hfl]
    decide +kernel
  have hs0 : gx_s0 s D aC s.heap.size b (some ((List.range L).map xs)) := by
    refine ⟨rfl, hbl, hts, ⟨hfl2 _ (by decide +kernel), hfl2 _ (by decide +kernel)⟩, hD, hA, fun l2 hl2 => ?_, fun z hz => ?_, fun n hn => ?_⟩
    · cases hl2
      obtain ⟨scr, q1, q2, q3, q4, q5⟩ := hX
      refine ⟨scr, q1, q2, q3, by simpa using q4, fun j x hj => ?_⟩
      rw [List.getElem?_map] at hj
      obtain ⟨i, hi, hx2⟩ := Option.map_eq_some_iff.mp hj
      have hjl : j < L := by
        rcases Nat.lt_or_ge j L with q | q
        · exact q
        · rw [List.getElem?_eq_none (by simpa using q)] at hi; cases hi
      rw [List.getElem?_range hjl] at hi
      cases hi
      rw [← hx2]
      exact q5 j hjl
    · have hall : gx_ST.all (fun z => decide (Jvm.Cond.exactly (.string (gx_o z.1) z.2.1) "java/lang/String" ∈ flatC (Jvm.Cond.and given_1 narrow_1))) = true := by decide +kernel
      obtain ⟨a, _, _, _, q1, -⟩ := Cond.exactly_spec (hfl2 _ (of_decide_eq_true (List.all_eq_true.mp hall z hz)))
      have hsr : Jvm.Cond.stringRef (gx_o z.1) z.2.1 z.2.2 ∈ lw_tbl := by
        have h1 : Jvm.Cond.stringRef (gx_o z.1) z.2.1 z.2.2 ∈ gx_ST.map (fun z => Jvm.Cond.stringRef (gx_o z.1) z.2.1 z.2.2) := List.mem_map.mpr ⟨z, hz, rfl⟩
        rw [gx_cST] at h1
        obtain ⟨i, -, hi⟩ := List.mem_filterMap.mp h1
        exact List.mem_of_getElem? hi
      exact ⟨a, vk_R.of (hts _ hsr) q1⟩
    · have hall : gx_NC.all (fun n => decide (Jvm.Cond.not (.castable (gx_xn n.1) (gx_xn n.2)) ∈ flatC (Jvm.Cond.and given_1 narrow_1))) = true := by decide +kernel
      exact hfl2 _ (of_decide_eq_true (List.all_eq_true.mp hall n hn))
  have hrel : gx_rel D aC s.heap.size b [] s.heap := ⟨by simp, fun k c hk => by cases hk⟩
  have hnh : c.exceptionTable.toList = [] := by
    have h0 : c.exceptionTable.size = 0 := by simpa [Array.isEmpty] using hne
    exact List.eq_nil_of_length_eq_zero (by simpa using h0)
  have C1 : gx_cx p e s D aC s.heap.size b (some ((List.range L).map xs)) 195 s m meth c := by
    refine ⟨hx, htr, hb, hml, by rw [hnh]; rfl, hret, hlocks, fun h => (by cases h), hown, hs0, ⟨State.WarmedH.refl s, fun _ _ => rfl⟩, [], hrel⟩
  rw [lg_entry_eq]
  have hl := lv_entry ([Value.ref b]) (n := 8) (Nat.le_of_ble_eq_true rfl)
  have K := gx_sim (some ((List.range L).map xs)) n d 195 0 [(0, .float 0)] [] [] 0 0 _ h' k' u' hrun (l := l) (R := room_1) (args := #[Value.ref b]) (below := below) (H := s.heap) (locs := []) C1 hrel (fun q hq => by cases hq) (fun _ _ => rfl) hl ⟨by show d + 8 ≤ 2048; omega, by show d * 100 + 300 ≤ 84000; omega⟩ hk hu
  obtain ⟨t, a1, t1, t2, t3, ⟨L2, t4, t5⟩, t6, t7⟩ := K T hT X
  refine ⟨t, a1, _, t1, t2, rfl, ⟨_, rfl⟩, t3, t4.weaken (fun y hy hlt => ?_) hk hu⟩
  exact absurd hlt (Nat.not_lt.mpr (t5 y hy))
