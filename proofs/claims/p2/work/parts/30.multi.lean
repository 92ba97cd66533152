section GXM
variable {p : Program} {l : Launch} {e : Env} {R : Room} {s : State} {m : MethodId} {args : Array Value} {below : List Frame} {meth : Method} {c : Code} {H : Heap} {locs : List Loc} {cells slots : Nat} {Q : State → Prop}
variable {cc : ByteArray} {ls : Array Slot} {D : va_G} {aC : Nat → ClassId} {ba b : Nat} {h0 : gx_H}
set_option maxHeartbeats 4000000 in
theorem gx_muW (hx : p.tables.exec = Jvm.exec) (hb : c.code = cc) {o : Nat} (hown : s.vm.findClass (gx_o o) = some m.cls) (hw : ∀ w ∈ gx_words, w.before args s = true) (hA : gx_AK s aC) (hr : gx_rel D aC ba b h0 H)
    {ins : Instr} {pc pc' mc ms : Nat} {st st' : List Value} {h1 : gx_H} (hd : ∃ len, decode cc pc = .ok (ins, len) ∧ gx_lok ins len = true) (h : gx_mu o h0 ins pc st = some (pc', st', h1, mc, ms)) (hc : cells + mc ≤ R.cells) (hsl : slots + ms ≤ R.slots)
    (kk : ∀ (H1 : Heap), gx_rel D aC ba b h1 H1 → (∀ q, q < ba → H1[q]? = H[q]?) → W p l e R s m args below meth c H1 locs (cells + mc) (slots + ms) Q (F0 m pc' ls (gx_t ba b st'))) :
    W p l e R s m args below meth c H locs cells slots Q (F0 m pc ls (gx_t ba b st)) := by
  obtain ⟨len, hd, hlen⟩ := hd
  cases ins with
  | multianewarray idx dims =>
    have e1 : len = 4 := by simpa [gx_lok, gx_len] using hlen
    subst e1
    obtain ⟨⟨k, n, r⟩, h2, h3⟩ := Option.bind_eq_some_iff.mp h
    have h5 := gx_a2_e h2
    subst h5
    dsimp only at h3
    split at h3
    · rename_i hcn
      obtain ⟨c1, c2, c3, c4, c5, c6⟩ := hcn
      subst c2
      cases h3
      have w1 : Jvm.Cond.classLink (gx_o o) idx ("[" ++ (FieldType.array .int).toString) ∈ gx_words := gx_pick gx_cMU.1 gx_cMU.2 (List.mem_append_left _ (List.mem_map.mpr ⟨_, gx_any c1, rfl⟩))
      have w2 : Jvm.Cond.arrayOver (.array .int) ∈ gx_words := gx_pick gx_cMU.1 gx_cMU.2 (List.mem_append_right _ List.mem_cons_self)
      have w3 : Jvm.Cond.arrayClass .int ∈ gx_words := gx_wA (by simp)
      intro T hT X
      obtain ⟨vm₁, cA, comp, hW, fA, fC, hO, hI, X', step⟩ := X.multianewarray2F hx hown (hw _ w1) (hw _ w2) (hw _ w3) (g := F0 m pc ls (.int k :: .int n :: gx_t ba b r)) rfl (by rw [hb]; exact hd) rfl c3 c4
        (by omega) (by show _ * 4 ≤ _; omega) (by omega) rfl rfl hc hsl
      obtain ⟨-, -, -, -, k3, -⟩ := hA 4 (by decide)
      obtain ⟨-, -, -, -, k4, -⟩ := hA 0 (by decide)
      have ecA : cA = aC 4 := Option.some.inj (fA.symm.trans k3)
      have ecC : comp = aC 0 := Option.some.inj (fC.symm.trans k4)
      subst ecA
      subst ecC
      obtain ⟨f1, f2, f3, f4⟩ := Jvm.Free.Multi.fill_facts (T.setVm vm₁) (aC 4) (aC 0) n.toNatClampNeg k.toNatClampNeg (defaultValue .int) n.toNatClampNeg
      have hsz : (T.setVm vm₁).heap.size = H.size := by rw [← hT]; rfl
      have hhp : (T.setVm vm₁).heap = H := by rw [← hT]; rfl
      rw [hsz] at f1 f2
      have e6 : ba + h0.length = H.size := hr.1.symm
      have hold : ∀ q, q < H.size → (Jvm.Free.Multi.fill (T.setVm vm₁) (aC 4) (aC 0) n.toNatClampNeg k.toNatClampNeg (defaultValue .int) n.toNatClampNeg).heap[q]? = H[q]? := fun q hq => by
        have := Jvm.Free.Multi.fill_old (T.setVm vm₁) (aC 4) (aC 0) n.toNatClampNeg k.toNatClampNeg (defaultValue .int) (a := q) (by rw [hsz]; exact hq) n.toNatClampNeg
        rw [hhp] at this
        exact this
      have hrel : gx_rel D aC ba b (h0 ++ ((104, (List.range n.toNatClampNeg).map (fun i => Value.ref (h0.length + 1 + i))) :: List.replicate n.toNatClampNeg (100, List.replicate k.toNatClampNeg (.int 0)))) (Jvm.Free.Multi.fill (T.setVm vm₁) (aC 4) (aC 0) n.toNatClampNeg k.toNatClampNeg (defaultValue .int) n.toNatClampNeg).heap := by
        refine ⟨by rw [f1, hr.1]; simp; omega, fun j d hj => ?_⟩
        by_cases q1 : j < h0.length
        · rw [List.getElem?_append_left q1] at hj
          exact (hr.2 j d hj).kept (hold _ (by omega))
        · rw [List.getElem?_append_right (by omega)] at hj
          by_cases q2 : j = h0.length
          · subst q2
            rw [Nat.sub_self] at hj
            cases hj
            rw [e6]
            refine gx_at_arr (t := 4) ⟨_, f2, (Jvm.Free.Multi.outerC_facts _ _ _ _).1, (Jvm.Free.Multi.outerC_facts _ _ _ _).2.1, ?_⟩
            apply Array.ext_getElem?
            intro i
            by_cases hi : i < n.toNatClampNeg
            · rw [Jvm.Free.Multi.outerC_slot _ _ _ _ _ hi, if_pos hi]
              have e9 : H.size + 1 + i = ba + (h0.length + 1 + i) := by omega
              simp only [gx_t, List.getElem?_toArray, List.getElem?_map, List.getElem?_range hi, Option.map_some, gx_v]
              rw [e9]
            · have a1 := (Jvm.Free.Multi.outerC_facts (aC 4) n.toNatClampNeg H.size n.toNatClampNeg).2.2
              have a2 : ((gx_t ba b ((List.range n.toNatClampNeg).map (fun i => Value.ref (h0.length + 1 + i)))).toArray).size = n.toNatClampNeg := by simp [gx_t]
              rw [Array.getElem?_eq_none (Nat.le_trans (Nat.le_of_eq a1) (Nat.not_lt.mp hi)), Array.getElem?_eq_none (Nat.le_trans (Nat.le_of_eq a2) (Nat.not_lt.mp hi))]
          · obtain ⟨z, hz⟩ : ∃ z, j - h0.length = z + 1 := ⟨j - h0.length - 1, by omega⟩
            rw [hz, List.getElem?_cons_succ, List.getElem?_replicate] at hj
            split at hj
            · rename_i hzn
              cases hj
              have e7 : ba + j = H.size + 1 + z := by omega
              rw [e7]
              have := Jvm.Free.Multi.fill_inner (T.setVm vm₁) (aC 4) (aC 0) n.toNatClampNeg k.toNatClampNeg (defaultValue .int) n.toNatClampNeg z hzn
              rw [hsz] at this
              exact gx_arrNew (t := 0) (v := .int 0) rfl this
            · cases hj
      obtain ⟨t, a1, b1⟩ := kk _ hrel (fun q hq => hold q (by omega)) _ rfl (by simpa only [Nat.add_assoc] using X')
      refine ⟨t, step t ?_, b1⟩
      have e8 : T.heap.size = ba + h0.length := by rw [hT]; exact hr.1
      rw [e8]
      exact a1
    · cases h3
  | _ => cases h
end GXM
