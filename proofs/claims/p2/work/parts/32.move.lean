/-! what holds at the law's beginning holds at every state behind it: the tables are warmer, the old cells are as they were -/
def gx_le (s U : State) : Prop := s.WarmedH U.vm ∧ ∀ q, q < s.heap.size → U.heap[q]? = s.heap[q]?
set_option maxHeartbeats 4000000 in
theorem gx_aom {A A' : Array Value} {u U : State} (hvm : u.vm.Alike U.vm) (h : (Jvm.Cond.arrayOver (.array .int)).before A u = true) : (Jvm.Cond.arrayOver (.array .int)).before A' U = true := by
  simp only [Cond.before, Cond.holds, Cond.value, beq_iff_eq, Option.bind_eq_some_iff, Option.map_eq_some_iff] at h ⊢
  obtain ⟨comp, hc, c, hi, k, hk, hb⟩ := h
  obtain ⟨k', hk', he⟩ := hvm.2.2 _ _ hk
  refine ⟨comp, by rw [hvm.findClass]; exact hc, c, ?_, k', hk', ?_⟩
  · refine (va_idx_bare U.vm comp).symm.trans ?_
    first | rw [hvm.bare_eq] | rw [← hvm.bare_eq]
    exact (va_idx_bare u.vm comp).trans hi
  · have e1 : k'.kind = k.kind := by rw [he]
    rw [e1, hvm.findClass]
    exact hb
set_option maxHeartbeats 4000000 in
theorem gx_lsm {O n d : String} {A A' : Array Value} {s U : State} (hL : gx_le s U) (h : (Jvm.Cond.laysStatic O n d).before A s = true) : (Jvm.Cond.laysStatic O n d).before A' U = true := by
  have h1 : (Jvm.Cond.laysStatic O n d).before A (s.setVm U.vm) = true := by
    have := Cond.value_setVm₂ (args := A) (o := none) (vm' := U.vm) (vm₁ := U.vm) (s := s) hL.1.alike hL.1.alike (.laysStatic O n d) [] rfl
    unfold Cond.before Cond.holds at h ⊢
    rw [this]
    exact h
  have e1 : (s.setVm U.vm).fieldFound? O n d = U.fieldFound? O n d := rfl
  simp only [Cond.before, Cond.holds, Cond.value, beq_iff_eq, State.vm_setVm, e1] at h1 ⊢
  split at h1
  · rename_i c c' k z f g1 g2
    obtain ⟨cell, g3, g4⟩ := Option.map_eq_some_iff.mp h1
    obtain ⟨a, g5, g6⟩ := Option.bind_eq_some_iff.mp g3
    have g6 : s.heap[a]? = some cell := g6
    have g7 : U.heap[a]? = some cell := by rw [hL.2 a (Array.getElem?_eq_some_iff.mp g6).1]; exact g6
    refine Option.map_eq_some_iff.mpr ⟨cell, Option.bind_eq_some_iff.mpr ⟨a, g5, g7⟩, g4⟩
  · cases h1
set_option maxHeartbeats 4000000 in
theorem gx_irm {O n d : String} {A A' : Array Value} {s U : State} (hL : gx_le s U) (h : (Jvm.Cond.isRef (.static O n d)).before A s = true) : (Jvm.Cond.isRef (.static O n d)).before A' U = true := by
  have h1 : (Jvm.Cond.isRef (.static O n d)).before A (s.setVm U.vm) = true := by
    have := Cond.value_setVm₂ (args := A) (o := none) (vm' := U.vm) (vm₁ := U.vm) (s := s) hL.1.alike hL.1.alike (.isRef (.static O n d)) [] rfl
    unfold Cond.before Cond.holds at h ⊢
    rw [this]
    exact h
  have key : ∀ v, (Term.static O n d).eval A (s.setVm U.vm) none [] (s.setVm U.vm) = some v → (Term.static O n d).eval A' U none [] U = some v := by
    intro v hv
    have e1 : (s.setVm U.vm).fieldNamed? O n d true = U.fieldNamed? O n d true := rfl
    simp only [Term.eval, e1, Option.bind_eq_bind, Option.bind_eq_some_iff] at hv ⊢
    obtain ⟨⟨z, k, sl⟩, g1, g2⟩ := hv
    obtain ⟨a, g3, cell, g4, g5⟩ := g2
    have g4 : s.heap[a]? = some cell := g4
    exact ⟨(z, k, sl), g1, a, g3, cell, by rw [hL.2 a (Array.getElem?_eq_some_iff.mp g4).1]; exact g4, g5⟩
  simp only [Cond.before, Cond.holds, Cond.value, beq_iff_eq] at h1 ⊢
  cases hv : (Term.static O n d).eval A (s.setVm U.vm) none [] (s.setVm U.vm) with
  | none => rw [hv] at h1; cases h1
  | some v => rw [hv] at h1; rw [key v hv]; exact h1
set_option maxHeartbeats 4000000 in
theorem gx_move {A A' : Array Value} {s U : State} (hL : gx_le s U) {w : Jvm.Cond} (hm : gx_mv w = true) (hin : w ∈ lw_tbl) (h : w.before A s = true) : w.before A' U = true := by
  unfold gx_mv at hm
  rw [Bool.or_eq_true] at hm
  rcases hm with hm | hm
  · exact word_at hL.1 (Or.inl hm) h
  · split at hm
    · exact word_at hL.1 (Or.inr ⟨_, rfl⟩) h
    · exact va_Nw.use rfl (va_Nw.warmM hL.1 (va_Nw.of rfl h))
    · exact va_Nw.use rfl (va_Nw.warmC hL.1 (va_Nw.of rfl h))
    · exact va_Nw.use rfl (va_Nw.warmD hL.1 (va_Nw.of rfl h))
    · rename_i ty
      have h2 : lw_tbl.all (fun w => match w with | .arrayOver ty => decide (ty = .array .int) || (match ty with | .object _ => true | _ => false) | _ => true) = true := by decide +kernel
      have h3 := List.all_eq_true.mp h2 _ hin
      dsimp only at h3
      rw [Bool.or_eq_true] at h3
      rcases h3 with h3 | h3
      · have h3 : ty = .array .int := of_decide_eq_true h3
        subst h3
        exact gx_aom hL.1.alike h
      · cases ty with
        | object C => exact va_AO.use (va_AO.moved hL.1.alike (va_AO.of h))
        | _ => cases h3
    · exact gx_lsm hL h
    · cases hm
