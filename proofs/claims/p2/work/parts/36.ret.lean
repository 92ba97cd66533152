theorem gx_args {ba b : Nat} : ∀ (A : List Value) (i : Nat), lv_args i (gx_t ba b A) = gx_l ba b (lv_args i A)
  | [], _ => rfl
  | v :: A, i => by
    show (i, gx_v ba b v) :: lv_args (if (gx_v ba b v).category = 2 then i + 2 else i + 1) (gx_t ba b A) = (i, gx_v ba b v) :: gx_l ba b (lv_args (if v.category = 2 then i + 2 else i + 1) A)
    rw [gx_v_cat, gx_args A]
theorem gx_sl {ba b : Nat} : ∀ (A : List Value), (lg_sl (gx_t ba b A)).length = (lg_sl A).length
  | [] => rfl
  | v :: A => by
    show (lg_sl (gx_v ba b v :: gx_t ba b A)).length = _
    unfold lg_sl
    rw [List.flatMap_cons, List.flatMap_cons, List.length_append, List.length_append, gx_v_cat]
    have := gx_sl (ba := ba) (b := b) A
    unfold lg_sl at this
    rw [this]
    congr 1
    split <;> rfl
theorem gx_c_kd {o j : Nat} {h : gx_H} {ins : Instr} {st A rest : List Value} (hc : gx_c o h ins st = some (j, A, rest)) : gx_kd j ≠ 9 := by
  unfold gx_c at hc
  split at hc
  · obtain ⟨⟨j', n⟩, h1, h2⟩ := Option.bind_eq_some_iff.mp hc
    dsimp only at h2
    split at h2
    · rename_i hk; cases h2; rw [hk.1]; decide
    · cases h2
  · obtain ⟨⟨j', n⟩, h1, h2⟩ := Option.bind_eq_some_iff.mp hc
    dsimp only at h2
    split at h2
    · rename_i hk
      obtain ⟨z, h3, h4⟩ := Option.bind_eq_some_iff.mp h2
      obtain ⟨fs, h5, h6⟩ := Option.map_eq_some_iff.mp h4
      cases h6; rw [hk.1]; decide
    · cases h2
  · obtain ⟨⟨j', n⟩, h1, h2⟩ := Option.bind_eq_some_iff.mp hc
    dsimp only at h2
    split at h2
    · rename_i hk
      obtain ⟨z, h3, h4⟩ := Option.map_eq_some_iff.mp h2
      cases h4; rw [hk.1]; decide
    · cases h2
  · cases hc
section GXR
variable {p : Program} {l : Launch} {e : Env} {R : Room} {s : State} {m : MethodId} {args : Array Value} {below : List Frame} {meth : Method} {c : Code} {H : Heap} {locs : List Loc} {cells slots : Nat}
variable {ls : Array Slot} {s₀ : State} {D : va_G} {aC : Nat → ClassId} {ba b : Nat} {h0 : gx_H} {xs : Option (List Int32)} {j : Nat}
theorem gx_endQ {v : Option Value} (hr : gx_rel D aC ba b h0 H) (hH : ∀ q, q < ba → H[q]? = s.heap[q]?) (t : State) (h : MQ below (fun _ _ o t => o = .returned (v.map (gx_v ba b)) ∧ t.heap = H) args s cells slots (fun q => ba ≤ q) t) : gx_Q D aC ba b s below (.returned v) h0 cells slots t := by
  obtain ⟨o, h1, h2, ⟨rfl, h4⟩, L, ⟨-, h5, h6⟩, h7⟩ := h
  exact ⟨h1, h2, h5, ⟨L, h6, h7⟩, by rw [h4]; exact hr, fun q hq => by rw [h4]; exact hH q hq⟩
set_option maxHeartbeats 4000000 in
theorem gx_eW (C0 : gx_cx p e s₀ D aC ba b xs j s m meth c) (hr : gx_rel D aC ba b h0 H) (hH : ∀ q, q < ba → H[q]? = s.heap[q]?) (hlo : ∀ q ∈ locs, ba ≤ q.base)
    {ins : Instr} {pc : Nat} {st : List Value} {v : Option Value} (hi : gx_I j pc = some ins) (h : gx_e j ins st = some v) :
    W p l e R s m args below meth c H locs cells slots (gx_Q D aC ba b s below (.returned v) h0 cells slots) (F0 m pc ls (gx_t ba b st)) := by
  obtain ⟨hx, htr, hb, hnl, hhand, hret, hlocks, hini, hown, hs0, hle, hrel0⟩ := C0
  obtain ⟨len, hd, hlen⟩ := gx_dec hi
  cases ins with
  | return_ =>
    have e1 : len = 1 := by simpa [gx_lok, gx_len] using hlen
    subst e1
    simp only [gx_e] at h
    split at h
    · split at h
      · rename_i hn
        cases h
        refine W.mono ?_ (gx_endQ (args := args) hr hH)
        exact W.vret hx hb (hret.trans hn) (fun t ht _ => ⟨rfl, ht⟩) hlo hd hlocks
      · cases h
    · cases h
  | ireturn =>
    have e1 : len = 1 := by simpa [gx_lok, gx_len] using hlen
    subst e1
    simp only [gx_e] at h
    split at h
    · split at h
      · rename_i ty hty
        split at h
        · rename_i hn
          cases h
          refine W.mono ?_ (gx_endQ (args := args) hr hH)
          exact W.zret hx hb (hret.trans hty) hn (fun t ht _ => ⟨rfl, ht⟩) hlo hd hlocks
        · cases h
      · cases h
    · cases h
  | lreturn =>
    have e1 : len = 1 := by simpa [gx_lok, gx_len] using hlen
    subst e1
    simp only [gx_e] at h
    split at h
    · split at h
      · rename_i hn
        cases h
        refine W.mono ?_ (gx_endQ (args := args) hr hH)
        exact W.lret hx hb (hret.trans hn) (fun t ht _ => ⟨rfl, ht⟩) hlo hd hlocks
      · cases h
    · cases h
  | areturn =>
    have e1 : len = 1 := by simpa [gx_lok, gx_len] using hlen
    subst e1
    simp only [gx_e] at h
    split at h
    · rename_i v0
      split at h
      · rename_i hn
        cases h
        refine W.mono ?_ (gx_endQ (args := args) hr hH)
        have hv : gx_v ba b v0 = .null ∨ ∃ a, gx_v ba b v0 = .ref a := by
          have := hn.1
          cases v0 <;> simp_all [Value.isRef, gx_v]
        cases hrt : gx_rt j with
        | none => rw [hrt] at hn; cases hn.2
        | some rt =>
          have hrr : (∃ n, rt = .object n) ∨ ∃ t, rt = .array t := by
            have h2 := hn.2
            rw [hrt] at h2
            cases rt <;> simp_all [gx_rr]
          exact W.aret hx hb (hret.trans hrt) hrr hv (fun t ht _ => ⟨rfl, ht⟩) hlo hd hlocks
      · cases h
    · cases h
  | _ => cases h
end GXR
