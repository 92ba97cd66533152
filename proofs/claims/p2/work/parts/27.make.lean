/-! what is made -/
def gx_dv (ci : Nat) : List Value := match gx_cl[ci]? with
  | some r => (List.range r.2.2).map (fun k => defaultValue (gx_fty ci k))
  | none => []
def gx_tag : ArrayType → Option Nat
  | .int => some 0
  | .long => some 1
  | .boolean => some 2
  | _ => none
def gx_ct (o idx : Nat) : Option Nat := (gx_CT.find? (fun q => q.1 == o && q.2.1 == idx)).map (fun q => q.2.2)
/-- behind it: pc, stack, heap, how many cells and slots more -/
abbrev gx_M : Type := Option (Nat × List Value × gx_H × Nat × Nat)
def gx_n (o : Nat) (h : gx_H) (ins : Instr) (pc : Nat) (st : List Value) : gx_M := match ins with
  | .new idx => (gx_ct o idx).bind fun ci => if ci < 100 then some (pc + 3, .ref h.length :: st, h ++ [(ci, gx_dv ci)], 1, (gx_dv ci).length) else none
  | .newarray at' => (gx_a1 st).bind fun q => (gx_tag at').bind fun t => if q.1 < 0 ∨ 100000 < q.1.toNatClampNeg then none else some (pc + 2, .ref h.length :: q.2, h ++ [(100 + t, List.replicate q.1.toNatClampNeg (defaultValue (gx_ty t)))], 1, q.1.toNatClampNeg)
  | .anewarray idx => (gx_a1 st).bind fun q => (gx_ct o idx).bind fun ci => if ci ≠ gx_ei ∨ q.1 < 0 ∨ 100000 < q.1.toNatClampNeg then none else some (pc + 3, .ref h.length :: q.2, h ++ [(103, List.replicate q.1.toNatClampNeg .null)], 1, q.1.toNatClampNeg)
  | _ => none
theorem gx_ct_w {o idx ci : Nat} (h : gx_ct o idx = some ci) {r : vw_C} (hr : gx_cl[ci]? = some r) : Jvm.Cond.classLink (gx_o o) idx r.1 ∈ gx_words ∧ Jvm.Cond.instantiable r.1 r.2.2 ∈ gx_words ∧ Jvm.Cond.initialized r.1 ∈ gx_words := by
  have h1 := gx_find h
  refine ⟨gx_wN (List.mem_flatMap.mpr ⟨_, h1, ?_⟩), gx_wN (List.mem_flatMap.mpr ⟨_, h1, ?_⟩), gx_wN (List.mem_flatMap.mpr ⟨_, h1, ?_⟩)⟩ <;> simp [gx_nw, hr]
theorem gx_replicate {ba b n : Nat} {v : Value} (hv : gx_v ba b v = v) : (Array.replicate n v) = (gx_t ba b (List.replicate n v)).toArray := by
  simp [gx_t, hv]
theorem gx_arrNew {D : va_G} {aC : Nat → ClassId} {ba b a t n : Nat} {v : Value} {H1 : Heap} (hv : gx_v ba b v = v) (e : H1[a]? = some { cls := aC t, slots := Array.replicate n v, vm := .none }) : gx_at D aC ba b a (100 + t, List.replicate n v) H1 := by
  unfold gx_at
  rw [if_neg (show ¬ (100 + t) < 100 by omega)]
  exact ⟨_, e, by show aC t = _; congr 1; show t = 100 + t - 100; omega, rfl, gx_replicate hv⟩
section GXN
variable {p : Program} {l : Launch} {e : Env} {R : Room} {s : State} {m : MethodId} {args : Array Value} {below : List Frame} {meth : Method} {c : Code} {H : Heap} {locs : List Loc} {cells slots : Nat} {Q : State → Prop}
variable {cc : ByteArray} {ls : Array Slot} {D : va_G} {aC : Nat → ClassId} {ba b : Nat} {h0 : gx_H}
theorem gx_push_size {H : Heap} {x : Cell} : (H.push x).size = H.size + 1 := Array.size_push x
theorem gx_push_old {H : Heap} {x : Cell} (q : Nat) (hq : q < H.size) : (H.push x)[q]? = H[q]? := by
  rw [Array.getElem?_push, if_neg (Nat.ne_of_lt hq)]
theorem gx_push_new {H : Heap} {x : Cell} : (H.push x)[H.size]? = some x := by simp
set_option maxHeartbeats 4000000 in
theorem gx_nW (hx : p.tables.exec = Jvm.exec) (hb : c.code = cc) {o : Nat} (hown : s.vm.findClass (gx_o o) = some m.cls) (hw : ∀ w ∈ gx_words, w.before args s = true) (hK : gx_KN s D) (hA : gx_AK s aC) (hr : gx_rel D aC ba b h0 H)
    {ins : Instr} {pc pc' mc ms : Nat} {st st' : List Value} {h1 : gx_H} (hd : ∃ len, decode cc pc = .ok (ins, len) ∧ gx_lok ins len = true) (h : gx_n o h0 ins pc st = some (pc', st', h1, mc, ms)) (hc : cells + mc ≤ R.cells) (hsl : slots + ms ≤ R.slots)
    (kk : ∀ (H1 : Heap), gx_rel D aC ba b h1 H1 → (∀ q, q < ba → H1[q]? = H[q]?) → W p l e R s m args below meth c H1 locs (cells + mc) (slots + ms) Q (F0 m pc' ls (gx_t ba b st'))) :
    W p l e R s m args below meth c H locs cells slots Q (F0 m pc ls (gx_t ba b st)) := by
  obtain ⟨len, hd, hlen⟩ := hd
  have hba : ∀ q, q < ba → q < H.size := fun q hq => by rw [hr.1]; omega
  cases ins with
  | new idx =>
    have e1 : len = 3 := by simpa [gx_lok, gx_len] using hlen
    subst e1
    obtain ⟨ci, h2, h3⟩ := Option.bind_eq_some_iff.mp h
    split at h3
    · rename_i hci
      cases h3
      obtain ⟨r, hrr⟩ := gx_ct_r (gx_find h2)
      obtain ⟨w1, w2, w3⟩ := gx_ct_w h2 hrr
      have hl : (gx_dv ci).length = r.2.2 := by simp [gx_dv, hrr]
      rw [hl] at hsl kk
      have hKn := hK ci _ hrr
      refine W.newcK hx hb hown (hw _ w1) (hw _ w2) (hw _ w3) rfl hd hc hsl hKn.2.1 rfl fun H1 kC hkC e1 z1 o1 => ?_
      have hob : gx_at D aC ba b H.size (ci, gx_dv ci) H1 := by
        unfold gx_at
        rw [if_pos hci]
        refine ⟨r, hrr, hl.symm, (u_born (gx_fty ci) hw (gx_wC hrr) hKn hkC e1 (gx_ftyok ci r hrr)).to fun j hj => ?_⟩
        have e5 : vp_V (gx_dv ci) j = defaultValue (gx_fty ci j) := by simp [vp_V, gx_dv, hrr, List.getD_eq_getElem?_getD, hj]
        show _ = gx_v ba b (vp_V (gx_dv ci) j)
        rw [e5]
        exact (gx_defv (gx_nofl ci r hrr j hj)).symm
      have e6 : ba + h0.length = H.size := hr.1.symm
      have := kk H1 (hr.push z1 o1 hob) (fun q hq => o1 q (hba q hq))
      show W p l e R s m args below meth c H1 locs (cells + 1) (slots + r.2.2) Q (F0 m (pc + 3) ls (.ref H.size :: gx_t ba b st))
      rw [← e6]
      exact this
    · cases h3
  | newarray at' =>
    have e1 : len = 2 := by simpa [gx_lok, gx_len] using hlen
    subst e1
    obtain ⟨⟨n, r⟩, h2, h3⟩ := Option.bind_eq_some_iff.mp h
    have h5 := gx_a1_e h2
    subst h5
    obtain ⟨t, h6, h7⟩ := Option.bind_eq_some_iff.mp h3
    dsimp only at h7
    split at h7
    · cases h7
    · rename_i hn
      cases h7
      have hn1 : ¬ n < 0 := fun q => hn (Or.inl q)
      have hn2 : n.toNatClampNeg ≤ 100000 := Nat.not_lt.mp fun q => hn (Or.inr q)
      have ht : newarray.typeOf at' = gx_ty t ∧ t < 5 ∧ gx_v ba b (defaultValue (gx_ty t)) = defaultValue (gx_ty t) ∧ Jvm.Cond.arrayClass (newarray.typeOf at') ∈ gx_words := by
        cases at' <;> first | cases h6
        · exact ⟨rfl, by decide, rfl, gx_wA (by simp [newarray.typeOf])⟩
        · exact ⟨rfl, by decide, rfl, gx_wA (by simp [newarray.typeOf])⟩
        · exact ⟨rfl, by decide, rfl, gx_wA (by simp [newarray.typeOf])⟩
      obtain ⟨t1, t2, t3, t4⟩ := ht
      refine W.newa hx hb (hw _ t4) rfl hd rfl hn1 ?_ hc hsl fun cA kA comp e1 e2 e3 => ?_
      · rw [t1]
        have : componentBytes (gx_ty t) ≤ 8 := by
          cases at' <;> first | cases h6
          all_goals decide
        calc n.toNatClampNeg * componentBytes (gx_ty t) ≤ 100000 * 8 := Nat.mul_le_mul hn2 this
          _ ≤ 536870912 := by decide
      · rw [t1] at e1 ⊢
        obtain ⟨k, comp', -, -, k3, -⟩ := hA t t2
        have hcA : cA = aC t := Option.some.inj (e1.symm.trans k3)
        subst hcA
        have e6 : ba + h0.length = H.size := hr.1.symm
        have := kk _ (hr.push gx_push_size gx_push_old (gx_arrNew (n := n.toNatClampNeg) t3 gx_push_new)) (fun q hq => gx_push_old q (hba q hq))
        show W p l e R s m args below meth c _ locs (cells + 1) (slots + n.toNatClampNeg) Q (F0 m (pc + 2) ls (.ref H.size :: gx_t ba b r))
        rw [← e6]
        exact this
  | anewarray idx =>
    have e1 : len = 3 := by simpa [gx_lok, gx_len] using hlen
    subst e1
    obtain ⟨⟨n, r⟩, h2, h3⟩ := Option.bind_eq_some_iff.mp h
    have h5 := gx_a1_e h2
    subst h5
    obtain ⟨ci, h6, h7⟩ := Option.bind_eq_some_iff.mp h3
    dsimp only at h7
    split at h7
    · cases h7
    · rename_i hn
      cases h7
      have hn0 : ci = gx_ei := Classical.byContradiction fun q => hn (Or.inl q)
      have hn1 : ¬ n < 0 := fun q => hn (Or.inr (Or.inl q))
      have hn2 : n.toNatClampNeg ≤ 100000 := Nat.not_lt.mp fun q => hn (Or.inr (Or.inr q))
      subst hn0
      obtain ⟨rr, hrr⟩ := gx_ct_r (gx_find h6)
      obtain ⟨w1, w2, w3⟩ := gx_ct_w h6 hrr
      have hnm := gx_ei_nm hrr
      rw [hnm] at w1
      refine W.anew hx hb hown (hw _ w1) (hw _ gx_wO) rfl hd rfl hn1 (by omega) hc hsl fun cA kA comp e1 e2 e3 e4 => ?_
      obtain ⟨k, comp', -, -, k3, -⟩ := hA 3 (by decide)
      have hcA : cA = aC 3 := Option.some.inj (e1.symm.trans k3)
      subst hcA
      have e6 : ba + h0.length = H.size := hr.1.symm
      have := kk _ (hr.push gx_push_size gx_push_old (gx_arrNew (t := 3) (n := n.toNatClampNeg) rfl gx_push_new)) (fun q hq => gx_push_old q (hba q hq))
      show W p l e R s m args below meth c _ locs (cells + 1) (slots + n.toNatClampNeg) Q (F0 m (pc + 3) ls (.ref H.size :: gx_t ba b r))
      rw [← e6]
      exact this
  | _ => cases h
end GXN
