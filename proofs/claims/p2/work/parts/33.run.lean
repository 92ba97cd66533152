/-! the machine's run -/
def gx_rr : Option FieldType → Bool
  | some (.object _) | some (.array _) => true
  | _ => false
def gx_e (j : Nat) (ins : Instr) (st : List Value) : Option (Option Value) := match ins with
  | .return_ => match st with
    | [] => if gx_rt j = none then some none else none
    | _ => none
  | .ireturn => match st with
    | [.int v] => match gx_rt j with
      | some ty => if narrow ty (.int v) = .int v then some (some (.int v)) else none
      | none => none
    | _ => none
  | .lreturn => match st with
    | [.long v] => if gx_rt j = some .long then some (some (.long v)) else none
    | _ => none
  | .areturn => match st with
    | [v] => if v.isRef = true ∧ gx_rr (gx_rt j) = true then some (some v) else none
    | _ => none
  | _ => none
def gx_xt (o idx : Nat) : Option Nat := (gx_XT.find? (fun q => q.1 == o && q.2.1 == idx)).map (fun q => q.2.2)
def gx_cov (q : Nat × Nat × Nat × Nat) (pc : Nat) : Bool := decide (q.1 ≤ pc) && decide (pc < q.2.1)
/-- classes of exceptions of which the first is not of the second's kind -/
def gx_NC : List (Nat × Nat) := [(9, 8), (11, 8)]
/-- the search through a method's handlers -/
def gx_catL (o pc : Nat) (h : gx_H) (x : Nat) : List (Nat × Nat × Nat × Nat) → Bool → Option (Option Nat)
  | [], seen => if seen = true then none else some none
  | q :: r, seen => if gx_cov q pc = true then (gx_xt o q.2.2.2).bind fun t => (h[x]?).bind fun y => if y.1 = t then some (some q.2.2.1) else if gx_NC.any (fun n => n.1 == y.1 && n.2 == t) = true then gx_catL o pc h x r true else none
    else gx_catL o pc h x r seen
/-- an exception x comes out of a call at pc: none covers pc, or where the first handler lies that does and that takes it -/
def gx_cat (j pc : Nat) (h : gx_H) (x : Nat) : Option (Option Nat) := gx_catL (gx_mo j) pc h x (gx_hd j) false
/-- throw new X("..") -/
def gx_th (j pc : Nat) (ins : Instr) (st : List Value) : Option Nat := match ins with
  | .new idx => match gx_I j (pc + 3), gx_I j (pc + 4), gx_I j (pc + 6), gx_I j (pc + 9) with
    | some .dup, some (.ldc si), some (.invokespecial ic), some .athrow => if gx_hd j = [] ∧ st = [] then (gx_TH.find? (fun q => q.1 == gx_mo j && (q.2.1 == idx && (q.2.2.1 == si && q.2.2.2.1 == ic)))).map (fun q => q.2.2.2.2) else none
    | _, _, _, _ => none
  | _ => none
def gx_run (xs : Option (List Int32)) : Nat → Nat → Nat → Nat → gx_L → List Value → gx_H → Nat → Nat → Option (Outcome × gx_H × Nat × Nat)
  | 0, _, _, _, _, _, _, _, _ => none
  | n + 1, d, j, pc, L, st, h, k, u => match gx_I j pc with
    | none => none
    | some ins => match gx_p (gx_mo j) (gx_nl j) ins pc L st with
      | some q => gx_run xs n d j q.1 q.2.1 q.2.2 h k u
      | none => match gx_q xs (gx_mo j) h ins pc L st with
        | some q => gx_run xs n d j q.1 q.2.1 q.2.2 h k u
        | none => match gx_w (gx_mo j) (gx_in j) h ins pc st with
          | some q => gx_run xs n d j q.1 L q.2.1 q.2.2 k u
          | none => match gx_n (gx_mo j) h ins pc st with
            | some q => gx_run xs n d j q.1 L q.2.1 q.2.2.1 (k + q.2.2.2.1) (u + q.2.2.2.2)
            | none => match gx_mu (gx_mo j) h ins pc st with
              | some q => gx_run xs n d j q.1 L q.2.1 q.2.2.1 (k + q.2.2.2.1) (u + q.2.2.2.2)
              | none => match gx_e j ins st with
                | some v => some (.returned v, h, k, u)
                | none => match gx_bi (gx_mo j) h ins pc st with
                  | some q => gx_run xs n d j q.1 L q.2.1 q.2.2 k u
                  | none => match gx_th j pc ins st with
                    | some t => some (.threw h.length, h ++ [(t, [])], k + 1, u + 6)
                    | none => match d, gx_c (gx_mo j) h ins st with
                      | d' + 1, some q => if (q.2.2.map fun v => v.category).sum ≤ 8 ∧ (lg_sl q.2.1).length ≤ gx_nl q.1 then (match gx_run xs n d' q.1 0 (lv_args 0 q.2.1) [] h 0 0 with
                        | some (.returned v, h', kc, uc) => gx_run xs n d j (pc + 3) L (v.toList ++ q.2.2) h' (k + kc) (u + uc)
                        | some (.threw x, h', kc, uc) => (match gx_cat j pc h' x with
                          | some none => some (.threw x, h', k + kc, u + uc)
                          | some (some pc') => gx_run xs n d j pc' L [.ref x] h' (k + kc) (u + uc)
                          | none => none)
                        | none => none) else none
                      | _, _ => none
/-! the small machine's run is the machine's own -/
def gx_oc (ba b : Nat) : Outcome → Outcome
  | .returned v => .returned (v.map (gx_v ba b))
  | .threw k => .threw (ba + k)
def gx_Q (D : va_G) (aC : Nat → ClassId) (ba b : Nat) (s : State) (below : List Frame) (o : Outcome) (h : gx_H) (k u : Nat) (t : State) : Prop :=
  t.status = .running ∧ Ended t below (gx_oc ba b o) ∧ s.WarmedH t.vm ∧ (∃ L : List Loc, s.sameButNew ({ t with vm := s.vm } : State) L k u ∧ ∀ q ∈ L, ba ≤ q.base) ∧ gx_rel D aC ba b h t.heap ∧ ∀ q, q < ba → t.heap[q]? = s.heap[q]?
def gx_rm (d : Nat) (R : Room) : Prop := d + 8 ≤ R.frames ∧ d * 100 + 300 ≤ R.locals
theorem gx_under {tb : Tables} {e : Env} {f : Frame} {below : List Frame} {s t : State} (h : Steps tb e (f :: below) s t) : Steps tb e below s t := by
  obtain ⟨n, hn, hw⟩ := h
  refine ⟨n, hn, fun k hk => ?_⟩
  obtain ⟨above, h1, h2, h3⟩ := hw k hk
  refine ⟨above ++ [f], by rw [h1]; simp, by simp, fun a q => ?_⟩
  cases above with
  | nil => exact h2 rfl
  | cons x r =>
    have := congrArg List.length q
    simp at this
theorem gx_mono (xs : Option (List Int32)) : ∀ (n d j pc : Nat) (L : gx_L) (st : List Value) (h : gx_H) (k u : Nat) (o : Outcome) (h' : gx_H) (k' u' : Nat), gx_run xs n d j pc L st h k u = some (o, h', k', u') → k ≤ k' ∧ u ≤ u' := by
  intro n
  induction n with
  | zero => intro d j pc L st h k u o h' k' u' e; cases e
  | succ n ih =>
    intro d j pc L st h k u o h' k' u' e
    rw [gx_run] at e
    repeat' split at e
    all_goals first
      | cases e; exact ⟨by omega, by omega⟩
      | exact ih _ _ _ _ _ _ _ _ _ _ _ _ e
      | (have := ih _ _ _ _ _ _ _ _ _ _ _ _ e; omega)
      | cases e
theorem W.mono {p : Program} {l : Launch} {e : Env} {R : Room} {s : State} {m : MethodId} {args : Array Value} {below : List Frame} {meth : Method} {c : Code} {H : Heap} {locs : List Loc} {cells slots : Nat} {Q Q' : State → Prop} {g : JFrame} (h : W p l e R s m args below meth c H locs cells slots Q g) (hq : ∀ t, Q t → Q' t) : W p l e R s m args below meth c H locs cells slots Q' g := fun T hT X => by
  obtain ⟨t, a, b⟩ := h T hT X
  exact ⟨t, a, hq t b⟩
/-- what is known of the law's beginning -/
def gx_s0 (s₀ : State) (D : va_G) (aC : Nat → ClassId) (ba b : Nat) (xs : Option (List Int32)) : Prop :=
  ba = s₀.heap.size ∧ b < ba ∧ (∀ w ∈ lw_tbl, w.before #[Value.ref b] s₀ = true) ∧ ((Jvm.Cond.isRef (.static "java/lang/Throwable" "UNASSIGNED_STACK" "[Ljava/lang/StackTraceElement;")).before #[Value.ref b] s₀ = true ∧ (Jvm.Cond.isRef (.static "java/lang/Throwable" "SUPPRESSED_SENTINEL" "Ljava/util/List;")).before #[Value.ref b] s₀ = true) ∧
  gx_KN s₀ D ∧ gx_AK s₀ aC ∧ (∀ l, xs = some l → gx_X b l s₀ s₀.heap) ∧ (∀ z ∈ gx_ST, ∃ q, vk_R (gx_o z.1) z.2.1 z.2.2 q s₀) ∧ ∀ n ∈ gx_NC, (Jvm.Cond.not (.castable (gx_xn n.1) (gx_xn n.2))).before #[Value.ref b] s₀ = true
/-- what is known of an invocation of method j -/
def gx_cx (p : Program) (e : Env) (s₀ : State) (D : va_G) (aC : Nat → ClassId) (ba b : Nat) (xs : Option (List Int32)) (j : Nat) (s : State) (m : MethodId) (meth : Method) (c : Code) : Prop :=
  p.tables.exec = Jvm.exec ∧ e.platform.stackTraces = false ∧ c.code = gx_b j ∧ c.maxLocals = gx_nl j ∧ c.exceptionTable.toList.map (fun h => (h.startPc, h.endPc, h.handlerPc, h.catchType)) = gx_hd j ∧ meth.sig.returnType = gx_rt j ∧ meth.locks = false ∧ (gx_in j = true → meth.name = "<init>") ∧
  s.vm.findClass (gx_o (gx_mo j)) = some m.cls ∧ gx_s0 s₀ D aC ba b xs ∧ gx_le s₀ s ∧ ∃ h, gx_rel D aC ba b h s.heap
theorem gx_wat {s₀ s : State} {D : va_G} {aC : Nat → ClassId} {ba b : Nat} {xs : Option (List Int32)} (h0 : gx_s0 s₀ D aC ba b xs) (hL : gx_le s₀ s) {A : Array Value} : ∀ w ∈ gx_words, w.before A s = true := fun w hw => by
  obtain ⟨h1, h2⟩ := List.mem_filter.mp hw
  exact gx_move hL h2 h1 (h0.2.2.1 w h1)
theorem gx_KNm {s U : State} {D : va_G} (h : gx_KN s D) (hvm : s.vm.Alike U.vm) : gx_KN U D := fun ci q hq => u_Kn_moved hvm (h ci q hq)
theorem gx_AKm {s U : State} {aC : Nat → ClassId} (h : gx_AK s aC) (hvm : s.vm.Alike U.vm) : gx_AK U aC := fun t ht => by
  obtain ⟨k, comp, h1, h2, h3, h4⟩ := h t ht
  obtain ⟨k', hk', he⟩ := hvm.2.2 _ _ h1
  exact ⟨k', comp, hk', by rw [he]; exact h2, by rw [hvm.findClass]; exact h3, fun e => by rw [hvm.findClass]; exact h4 e⟩
theorem gx_Xm {s₀ s : State} {H : Heap} {D : va_G} {aC : Nat → ClassId} {ba b : Nat} {xs : Option (List Int32)} (h0 : gx_s0 s₀ D aC ba b xs) (hvm : s₀.vm.Alike s.vm) (hH : ∀ q, q < ba → H[q]? = s₀.heap[q]?) : ∀ l, xs = some l → gx_X b l s H := by
  intro l hl
  obtain ⟨scr, q1, q2, q3, q4, q5⟩ := h0.2.2.2.2.2.2.1 l hl
  exact ⟨scr, by rw [hH b h0.2.1]; exact q1, State.isArrayOf_alike hvm q2, q3, q4, q5⟩
