theorem gx_owI : ∀ z ∈ gx_XK, ((Bundle.ownAtoms (gx_o z.1) z.2.1 (gx_xn z.2.2) gx_up).filter gx_isr).all (fun w => decide (w = .isRef (.static "java/lang/Throwable" "UNASSIGNED_STACK" "[Ljava/lang/StackTraceElement;") ∨ w = .isRef (.static "java/lang/Throwable" "SUPPRESSED_SENTINEL" "Ljava/util/List;"))) = true := by decide +kernel
theorem gx_owNI : ∀ z ∈ gx_XKN, ((gx_nsA (gx_o z.1) z.2.1 (gx_xn z.2.2) "java/lang/RuntimeException" ["java/lang/Exception"]).filter gx_isr).all (fun w => decide (w = .isRef (.static "java/lang/Throwable" "UNASSIGNED_STACK" "[Ljava/lang/StackTraceElement;") ∨ w = .isRef (.static "java/lang/Throwable" "SUPPRESSED_SENTINEL" "Ljava/util/List;"))) = true := by decide +kernel
theorem gx_owN : ∀ z ∈ gx_XKN, (gx_nsA (gx_o z.1) z.2.1 (gx_xn z.2.2) "java/lang/RuntimeException" ["java/lang/Exception"]).all (fun w => gx_isr w || (decide (w ∈ lw_tbl) && gx_mv w)) = true := by decide +kernel
theorem gx_fitR : Bundle.fit "java/lang/RuntimeException" = true := by decide +kernel
theorem gx_fitX : ∀ n ∈ ["java/lang/Exception"], Bundle.fit n = true := by decide +kernel
theorem gx_xrow {z : Nat × Nat × Nat} (hz : z ∈ gx_XK ++ gx_XKN) : ∃ r, gx_cl[z.2.2]? = some r ∧ r.1 = gx_xn z.2.2 ∧ r.2.2 = 0 := by
  have h : (gx_XK ++ gx_XKN).all (fun z => match gx_cl[z.2.2]? with | some r => decide (r.1 = gx_xn z.2.2 ∧ r.2.2 = 0) | none => false) = true := by decide +kernel
  have h1 := List.all_eq_true.mp h z hz
  split at h1
  · rename_i r hr
    exact ⟨r, hr, of_decide_eq_true h1⟩
  · cases h1
/-- the four instructions behind 'new' of a throw -/
theorem gx_th_e {j pc t : Nat} {ins : Instr} {st : List Value} (h : gx_th j pc ins st = some t) : ∃ idx si ic, ins = .new idx ∧ gx_I j (pc + 3) = some .dup ∧ gx_I j (pc + 4) = some (.ldc si) ∧ gx_I j (pc + 6) = some (.invokespecial ic) ∧ gx_I j (pc + 9) = some .athrow ∧ gx_hd j = [] ∧ st = [] ∧ (gx_mo j, idx, si, ic, t) ∈ gx_TH := by
  unfold gx_th at h
  split at h
  · rename_i idx
    split at h
    · rename_i si ic g1 g2 g3 g4
      split at h
      · rename_i hc
        obtain ⟨⟨a, i2, s2, c2, t2⟩, h1, h2⟩ := Option.map_eq_some_iff.mp h
        have h3 := List.find?_some h1
        have h4 := List.mem_of_find?_eq_some h1
        simp only [Bool.and_eq_true, beq_iff_eq] at h3
        obtain ⟨rfl, rfl, rfl, rfl⟩ := h3
        cases h2
        exact ⟨i2, s2, c2, rfl, g1, g2, g3, g4, hc.1, hc.2, h4⟩
      · cases h
    · cases h
  · cases h
section GXTH
variable {p : Program} {l : Launch} {e : Env} {R : Room} {s : State} {m : MethodId} {args : Array Value} {below : List Frame} {meth : Method} {c : Code} {H : Heap} {locs : List Loc} {cells slots : Nat}
variable {ls : Array Slot} {s₀ : State} {D : va_G} {aC : Nat → ClassId} {ba b : Nat} {h0 : gx_H} {xs : Option (List Int32)} {j : Nat}
theorem gx_d1 {j pc n : Nat} {ins : Instr} (h : gx_I j pc = some ins) (hn : gx_lok ins n = true → gx_len ins = n) (hs : ∀ k, gx_lok ins k = true → k = gx_len ins) : decode (gx_b j) pc = .ok (ins, gx_len ins) := by
  obtain ⟨len, h1, h2⟩ := gx_dec h
  rw [h1, hs len h2]
set_option maxHeartbeats 4000000 in
theorem gx_thW (C0 : gx_cx p e s₀ D aC ba b xs j s m meth c) (hml : c.maxLocals = ls.size) (hr : gx_rel D aC ba b h0 H) (hH : ∀ q, q < ba → H[q]? = s₀.heap[q]?) (hlo : ∀ q ∈ locs, ba ≤ q.base) (hR : 8 ≤ R.frames ∧ 300 ≤ R.locals)
    {ins : Instr} {pc t : Nat} {st : List Value} (hi : gx_I j pc = some ins) (h : gx_th j pc ins st = some t) (hc : cells + 1 ≤ R.cells) (hsl : slots + 6 ≤ R.slots) :
    W p l e R s m args below meth c H locs cells slots (gx_Q D aC ba b s below (.threw h0.length) (h0 ++ [(t, [])]) (cells + 1) (slots + 6)) (F0 m pc ls (gx_t ba b st)) := by
  obtain ⟨idx, si, ic, rfl, g3, g4, g6, g9, hhd, rfl, hth⟩ := gx_th_e h
  obtain ⟨hx, htr, hb, hnl, hhand, hret, hlocks, hini, hown, hs0, hle, hrel0⟩ := C0
  obtain ⟨x1, x2, x3⟩ := gx_THok _ hth
  dsimp only at x1 x2 x3
  have hd0 : decode (gx_b j) pc = .ok (.new idx, 3) := by
    obtain ⟨len, h1, h2⟩ := gx_dec hi
    have e1 : len = 3 := by simpa [gx_lok, gx_len] using h2
    subst e1; exact h1
  have hd3 : decode (gx_b j) (pc + 3) = .ok (.dup, 1) := by
    obtain ⟨len, h1, h2⟩ := gx_dec g3
    have e1 : len = 1 := by simpa [gx_lok, gx_len] using h2
    subst e1; exact h1
  have hd4 : decode (gx_b j) (pc + 4) = .ok (.ldc si, 2) := by
    obtain ⟨len, h1, h2⟩ := gx_dec g4
    have e1 : len = 2 := by simpa [gx_lok, gx_len] using h2
    subst e1; exact h1
  have hd6 : decode (gx_b j) (pc + 6) = .ok (.invokespecial ic, 3) := by
    obtain ⟨len, h1, h2⟩ := gx_dec g6
    have e1 : len = 3 := by simpa [gx_lok, gx_len] using h2
    subst e1; exact h1
  have hd9 : decode (gx_b j) (pc + 9) = .ok (.athrow, 1) := by
    obtain ⟨len, h1, h2⟩ := gx_dec g9
    have e1 : len = 1 := by simpa [gx_lok, gx_len] using h2
    subst e1; exact h1
  have htab : c.exceptionTable.toList = [] := by
    rw [hhd] at hhand
    exact List.map_eq_nil_iff.mp hhand
  obtain ⟨sz, hsz⟩ := Option.isSome_iff_exists.mp x3
  have hsm := List.mem_of_find?_eq_some hsz
  have hse := List.find?_some hsz
  simp only [Bool.and_eq_true, beq_iff_eq] at hse
  obtain ⟨qm, hqm⟩ := hs0.2.2.2.2.2.2.2.1 sz hsm
  rw [hse.1, hse.2] at hqm
  have hfit := gx_fitA _ (List.mem_append.mpr x2)
  intro T hT X
  have hles : gx_le s₀ (T.setFrames (.invoking m args :: below)) := ⟨State.WarmedH.trans hle.1 X.warmed, fun q hq => by
    show T.heap[q]? = _
    rw [hT]
    exact hH q (by rw [hs0.1]; exact hq)⟩
  have X0 := gx_rebase X (R' := { frames := R.frames, cells := 1, slots := 6, locals := R.locals }) (Nat.le_refl _) (Nat.le_refl _) hc hsl
  generalize hs' : T.setFrames (.invoking m args :: below) = s' at X0 hles
  have hheap' : s'.heap = H := by rw [← hs', ← hT]; rfl
  have hvm' : s'.vm = T.vm := by rw [← hs']; rfl
  have hws : ∀ w ∈ gx_words, w.before args s' = true := gx_wat hs0 hles
  have hown' : s'.vm.findClass (gx_o (gx_mo j)) = some m.cls := by
    rw [hvm', X.warmed.alike.findClass]; exact hown
  have hKN := gx_KNm hs0.2.2.2.2.1 hles.1.alike
  have hatom : ∀ (ws : List Jvm.Cond), ws.all (fun w => gx_isr w || (decide (w ∈ lw_tbl) && gx_mv w)) = true → (ws.filter gx_isr).all (fun w => decide (w = .isRef (.static "java/lang/Throwable" "UNASSIGNED_STACK" "[Ljava/lang/StackTraceElement;") ∨ w = .isRef (.static "java/lang/Throwable" "SUPPRESSED_SENTINEL" "Ljava/util/List;"))) = true → ∀ w ∈ ws, w.before args s' = true := by
    intro ws hall hisr w hw
    have h1 := List.all_eq_true.mp hall w hw
    rw [Bool.or_eq_true] at h1
    rcases h1 with h1 | h1
    · have h2 := of_decide_eq_true (List.all_eq_true.mp hisr w (List.mem_filter.mpr ⟨hw, h1⟩))
      rcases h2 with rfl | rfl
      · exact gx_irm hles hs0.2.2.2.1.1
      · exact gx_irm hles hs0.2.2.2.1.2
    · rw [Bool.and_eq_true] at h1
      exact hws w (List.mem_filter.mpr ⟨of_decide_eq_true h1.1, h1.2⟩)
  have hxw : ∀ w ∈ gx_xw (gx_mo j, idx, t), w.before args s' = true := fun w hw => hws w (gx_pick gx_cXC.1 gx_cXC.2 (List.mem_flatMap.mpr ⟨_, x1, hw⟩))
  have K : W p l e { frames := R.frames, cells := 1, slots := 6, locals := R.locals } s' m args below meth c s'.heap [] 0 0 (fun U => U.status = .running ∧ Ended U below (.threw H.size) ∧ s'.WarmedH U.vm ∧ s'.sameButNew ({ U with vm := s'.vm } : State) [] 1 6 ∧ ∃ ce, U.heap[H.size]? = some ce ∧ s'.vm.findClass (gx_xn t) = some ce.cls ∧ ce.vm = .none) (F0 m pc ls []) := by
    refine W.newc hx hb hown' (hxw _ List.mem_cons_self) (hxw _ (List.mem_cons_of_mem _ List.mem_cons_self)) (hxw _ (List.mem_cons_of_mem _ (List.mem_cons_of_mem _ List.mem_cons_self))) rfl hd0 (Nat.le_refl _) (Nat.le_refl _) fun cC kC f1 f2 f3 f4 => ?_
    rw [hheap']
    refine lv_dup hx hb hd3 rfl ?_
    refine va_ldcS hx hb hown' (vk_R.warm hles.1 hqm) hd4 ?_
    intro T2 hT2 X2
    rcases x2 with x2 | x2
    · obtain ⟨U, u1, u2, u3, u4, u5, ce, u6, u7⟩ := X2.ctorThrowS hx htr hown' hfit.1 gx_fitU (hatom _ (gx_owA _ x2) (gx_owI _ x2)) (fun x hx => by cases hx) f1 f2 (by rw [hT2]; simp [freshCell]) (by rw [hheap']; exact Nat.le_refl _) (msg := .ref qm) rfl (g := F0 m (pc + 6) ls [.ref qm, .ref H.size, .ref H.size]) rfl hml.symm rfl rfl (rest := []) rfl (by rw [hb]; exact hd6) (by rw [hb]; exact hd9) (fun x hx => by rw [htab] at hx; cases hx)
        (by show 2 + 3 < R.frames; omega) (by show 2 * 0 + (1 + 0) + (13 * (2 + 1) + 42) ≤ R.locals; omega) hlocks
      exact ⟨U, u1, u2, u3, u4, u5, ce, u6, u7.cls, u7.vm⟩
    · obtain ⟨U, u1, u2, u3, u4, u5, ce, u6, u7⟩ := gx_ctorThrowN X2 hx htr hown' hfit.1 gx_fitR gx_fitX (hatom _ (gx_owN _ x2) (gx_owNI _ x2)) (fun x hx => by cases hx) f1 f2 (by rw [hT2]; simp [freshCell]) (by rw [hheap']; exact Nat.le_refl _) (msg := .ref qm) rfl (g := F0 m (pc + 6) ls [.ref qm, .ref H.size, .ref H.size]) rfl hml.symm rfl rfl (rest := []) rfl (by rw [hb]; exact hd6) (by rw [hb]; exact hd9) (fun x hx => by rw [htab] at hx; cases hx)
        (by show 1 + 4 < R.frames; omega) (by show 2 * 0 + (1 + 0) + (13 * (1 + 2) + 42) ≤ R.locals; omega) hlocks
      exact ⟨U, u1, u2, u3, u4, u5, ce, u6, u7⟩
  obtain ⟨U, hU, k1, k2, k3, k4, ce, k5, k6⟩ := K T (by rw [hheap']; exact hT) X0
  have hsize : U.heap.size = H.size + 1 := by
    have a1 : U.heap.size ≤ s'.heap.size + 1 := k4.2.2.1
    rw [hheap'] at a1
    have a2 : H.size < U.heap.size := (Array.getElem?_eq_some_iff.mp k5).1
    omega
  have hold : ∀ q, q < H.size → U.heap[q]? = H[q]? := fun q hq => by
    have e1 : s'.heap[q]? = some H[q] := by rw [hheap']; exact Array.getElem?_eq_getElem hq
    have := k4.old_cell e1
    rw [show U.heap[q]? = some H[q] from this, Array.getElem?_eq_getElem hq]
  have hba : ba ≤ H.size := by rw [hr.1]; omega
  obtain ⟨r1, hr1, hr1n, hr1z⟩ := gx_xrow (List.mem_append.mpr x2)
  refine ⟨U, hU, k1, ?_, State.WarmedH.trans X.warmed (show T.WarmedH U.vm from ?_), ⟨locs, ?_, hlo⟩, ?_, ?_⟩
  · rw [show gx_oc ba b (.threw h0.length) = .threw H.size from by rw [gx_oc, hr.1]]
    exact k2
  · rw [← hs'] at k3
    exact k3
  · have hB : T.sameButNew ({ U with vm := T.vm } : State) [] 1 6 := by
      rw [← hs'] at k4
      obtain ⟨e1, q2, q3, q4, q5, q6⟩ := k4
      refine ⟨?_, q2, q3, q4, q5, q6⟩
      have e2 : ({ U with vm := T.vm } : State) = _ := e1
      rw [State.setFrames_setFrames] at e2
      exact e2
    have := X.same.trans (hB.setVm s.vm)
    rw [List.append_nil] at this
    exact this
  · refine hr.push hsize hold ?_
    unfold gx_at
    rw [if_pos hfit.2]
    refine ⟨r1, hr1, hr1z, ce, k5, ?_, k6.2, fun k hk => by rw [hr1z] at hk; cases hk⟩
    have a1 := (hKN t r1 hr1).2.1
    have a2 := k6.1
    rw [hr1n] at a1
    exact Option.some.inj (a2.symm.trans a1)
  · intro q hq
    rw [hold q (by omega), hH q hq, hle.2 q (by rw [← hs0.1]; exact hq)]
end GXTH
