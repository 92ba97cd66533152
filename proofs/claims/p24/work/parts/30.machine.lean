section
/-- one value of an array of tag t -/
def gx_rd (h : gx_H) (a t : Nat) (i : Int32) : Option Value := match h[a]? with
  | some q => if q.1 = t ∧ ¬ i < 0 then q.2[i.toNatClampNeg]? else none
  | none => none
theorem gx_rd_e {h : gx_H} {a t : Nat} {i : Int32} {v : Value} (e : gx_rd h a t i = some v) : ∃ vs, h[a]? = some (t, vs) ∧ ¬ i < 0 ∧ vs[i.toNatClampNeg]? = some v := by
  unfold gx_rd at e
  split at e
  · rename_i q hq
    obtain ⟨t', vs⟩ := q
    split at e
    · rename_i c
      obtain ⟨c1, c2⟩ := c
      cases c1
      exact ⟨vs, hq, c2, e⟩
    · cases e
  · cases e
def gx_ar : List Value → Option (Int32 × Nat × List Value)
  | .int i :: .ref a :: r => some (i, a, r)
  | _ => none
theorem gx_ar_e {st r : List Value} {i : Int32} {a : Nat} (h : gx_ar st = some (i, a, r)) : st = .int i :: .ref a :: r := by
  unfold gx_ar at h; split at h <;> first | (cases h; rfl) | cases h
def gx_sc : List Value → Option (Int32 × UInt32 × List Value)
  | .int i :: .float a :: r => some (i, a, r)
  | _ => none
theorem gx_sc_e {st r : List Value} {i : Int32} {a : UInt32} (h : gx_sc st = some (i, a, r)) : st = .int i :: .float a :: r := by
  unfold gx_sc at h; split at h <;> first | (cases h; rfl) | cases h
def gx_i1 : Value → Option Int32
  | .int x => some x
  | _ => none
theorem gx_i1_e {v : Value} {x : Int32} (h : gx_i1 v = some x) : v = .int x := by cases v <;> simp_all [gx_i1]
def gx_fl : Value → Bool
  | .float _ => true
  | _ => false
def gx_l1 : Value → Option Int64
  | .long x => some x
  | _ => none
theorem gx_l1_e {v : Value} {x : Int64} (h : gx_l1 v = some x) : v = .long x := by cases v <;> simp_all [gx_l1]
/-- a field's class and place, by the pool number in class o -/
def gx_F (o idx : Nat) : Option (Nat × Nat) := (gx_FT.find? (fun q => q.1 == o && q.2.1 == idx)).map (fun q => q.2.2)
def gx_ki (o idx : Nat) : Option Int32 := (gx_KI.find? (fun q => q.1 == o && q.2.1 == idx)).map (fun q => q.2.2)
def gx_kl (o idx : Nat) : Option Int64 := (gx_KL.find? (fun q => q.1 == o && q.2.1 == idx)).map (fun q => q.2.2)
/-- the object at reference a: of class ci -/
def gx_ob (h : gx_H) (a ci : Nat) : Option (List Value) := match h[a]? with
  | some q => if q.1 = ci then some q.2 else none
  | none => none
theorem gx_ob_e {h : gx_H} {a ci : Nat} {fs : List Value} (e : gx_ob h a ci = some fs) : h[a]? = some (ci, fs) := by
  unfold gx_ob at e
  split at e
  · rename_i q hq
    obtain ⟨t', vs⟩ := q
    split at e
    · rename_i c
      cases c; cases e
      exact hq
    · cases e
  · cases e
abbrev gx_R : Type := Option (Nat × gx_L × List Value)
/-- a constant, a number's instruction, a load, a store, a jump -/
def gx_p (o nL : Nat) (ins : Instr) (pc : Nat) (L : gx_L) (st : List Value) : gx_R := match ins with
  | .aconst_null => some (pc + 1, L, .null :: st)
  | .iconst n => some (pc + 1, L, .int (Int32.ofInt n) :: st)
  | .bipush n => some (pc + 2, L, .int (Int8.ofInt n).toInt32 :: st)
  | .sipush n => some (pc + 3, L, .int (Int16.ofInt n).toInt32 :: st)
  | .lconst n => some (pc + 1, L, .long (Int64.ofNat (n : Nat)) :: st)
  | .ldc idx => (gx_ki o idx).map fun x => (pc + 2, L, .int x :: st)
  | .ldc2_w idx => (gx_kl o idx).map fun x => (pc + 3, L, .long x :: st)
  | .iload_n k => ((L.lookup (k : Nat)).bind gx_i1).map fun x => (pc + 1, L, .int x :: st)
  | .iload i => ((L.lookup i).bind gx_i1).map fun x => (pc + 2, L, .int x :: st)
  | .lload_n k => ((L.lookup (k : Nat)).bind gx_l1).map fun x => (pc + 1, L, .long x :: st)
  | .lload i => ((L.lookup i).bind gx_l1).map fun x => (pc + 2, L, .long x :: st)
  | .aload_n k => (L.lookup (k : Nat)).bind fun v => if v.isRef || gx_fl v then some (pc + 1, L, v :: st) else none
  | .aload i => (L.lookup i).bind fun v => if v.isRef || gx_fl v then some (pc + 2, L, v :: st) else none
  | .istore_n k => (gx_a1 st).bind fun q => if (k : Nat) < nL then some (pc + 1, gx_s1 L (k : Nat) (.int q.1), q.2) else none
  | .istore i => (gx_a1 st).bind fun q => if i < nL then some (pc + 2, gx_s1 L i (.int q.1), q.2) else none
  | .lstore_n k => (gx_b1 st).bind fun q => if (k : Nat) + 1 < nL then some (pc + 1, gx_s2 L (k : Nat) (.long q.1), q.2) else none
  | .lstore i => (gx_b1 st).bind fun q => if i + 1 < nL then some (pc + 2, gx_s2 L i (.long q.1), q.2) else none
  | .astore_n k => match st with
    | .ref x :: r => if (k : Nat) < nL then some (pc + 1, gx_s1 L (k : Nat) (.ref x), r) else none
    | .null :: r => if (k : Nat) < nL then some (pc + 1, gx_s1 L (k : Nat) .null, r) else none
    | _ => none
  | .astore i => match st with
    | .ref x :: r => if i < nL then some (pc + 2, gx_s1 L i (.ref x), r) else none
    | .null :: r => if i < nL then some (pc + 2, gx_s1 L i .null, r) else none
    | _ => none
  | .iinc i n => ((L.lookup i).bind gx_i1).bind fun x => if i < nL then some (pc + 3, gx_s1 L i (.int (x + Int32.ofInt n)), st) else none
  | .iadd | .isub | .imul | .iand | .ior | .ixor | .ishl | .ishr | .iushr => (gx_fa2 ins).bind fun f => (gx_a2 st).map fun q => (pc + 1, L, .int (f q.2.1 q.1) :: q.2.2)
  | .ladd | .lsub | .lmul | .land | .lor | .lxor => (gx_fb2 ins).bind fun f => (gx_b2 st).map fun q => (pc + 1, L, .long (f q.2.1 q.1) :: q.2.2)
  | .lshl | .lshr | .lushr => (gx_fab ins).bind fun f => (gx_ab st).map fun q => (pc + 1, L, .long (f q.2.1 q.1) :: q.2.2)
  | .idiv => (gx_a2 st).bind fun q => if q.1 = 0 then none else some (pc + 1, L, .int (q.2.1 / q.1) :: q.2.2)
  | .irem => (gx_a2 st).bind fun q => if q.1 = 0 then none else some (pc + 1, L, .int (q.2.1 - q.2.1 / q.1 * q.1) :: q.2.2)
  | .ineg => (gx_a1 st).map fun q => (pc + 1, L, .int (-q.1) :: q.2)
  | .lneg => (gx_b1 st).map fun q => (pc + 1, L, .long (-q.1) :: q.2)
  | .i2l => (gx_a1 st).map fun q => (pc + 1, L, .long q.1.toInt64 :: q.2)
  | .l2i => (gx_b1 st).map fun q => (pc + 1, L, .int q.1.toInt32 :: q.2)
  | .lcmp => (gx_b2 st).map fun q => (pc + 1, L, .int (lg_cmp q.2.1 q.1) :: q.2.2)
  | .dup => match st with
    | v :: r => if v.category = 1 then some (pc + 1, L, v :: v :: r) else none
    | _ => none
  | .pop => match st with
    | v :: r => if v.category = 1 then some (pc + 1, L, r) else none
    | _ => none
  | .dup_x1 => match st with
    | v :: w :: r => if v.category = 1 ∧ w.category = 1 then some (pc + 1, L, v :: w :: v :: r) else none
    | _ => none
  | .dup2 => match st with
    | v :: w :: r => if v.category = 1 ∧ w.category = 1 then some (pc + 1, L, v :: w :: v :: w :: r) else none
    | _ => none
  | .ifCond c off => (gx_a1 st).bind fun q => (gx_j pc off).map fun t => if gx_c1 c q.1 = true then (t, L, q.2) else (pc + 3, L, q.2)
  | .if_icmp c off => (gx_a2 st).bind fun q => (gx_j pc off).map fun t => if gx_c2 c q.2.1 q.1 = true then (t, L, q.2.2) else (pc + 3, L, q.2.2)
  | .ifnull off => match st with
    | .ref _ :: r => some (pc + 3, L, r)
    | .null :: r => (gx_j pc off).map fun t => (t, L, r)
    | _ => none
  | .ifnonnull off => match st with
    | .ref _ :: r => (gx_j pc off).map fun t => (t, L, r)
    | .null :: r => some (pc + 3, L, r)
    | _ => none
  | .goto off => (gx_j pc off).map fun t => (t, L, st)
  | .tableswitch d lo hi offs => (gx_a1 st).bind fun q => (gx_tab d lo hi offs q.1).bind fun off => (gx_j pc off).map fun t => (t, L, q.2)
  | .lookupswitch d ps => (gx_a1 st).bind fun q => if (ps.toList.zip (ps.toList.drop 1)).all (fun (a, next) => a.1 < next.1) then (gx_j pc (Op.lookupswitch.offset ps.toList d q.1.toInt)).map fun t => (t, L, q.2) else none
  | _ => none
/-- what is read of the heap, or of the law's script xs -/
def gx_q (xs : Option (List Int32)) (o : Nat) (h : gx_H) (ins : Instr) (pc : Nat) (L : gx_L) (st : List Value) : gx_R := match ins with
  | .getfield idx => (gx_r1 st).bind fun q => (gx_F o idx).bind fun f => (gx_ob h q.1 f.1).bind fun fs => (fs[f.2]?).map fun v => (pc + 3, L, v :: q.2)
  | .iaload => match gx_ar st with
    | some q => ((gx_rd h q.2.1 100 q.1).bind gx_i1).map fun x => (pc + 1, L, .int x :: q.2.2)
    | none => (gx_sc st).bind fun q => xs.bind fun l => if q.1 < 0 then none else (l[q.1.toNatClampNeg]?).map fun x => (pc + 1, L, .int x :: q.2.2)
  | .laload => (gx_ar st).bind fun q => ((gx_rd h q.2.1 101 q.1).bind gx_l1).map fun x => (pc + 1, L, .long x :: q.2.2)
  | .baload => (gx_ar st).bind fun q => ((gx_rd h q.2.1 102 q.1).bind gx_i1).map fun x => (pc + 1, L, .int x :: q.2.2)
  | .aaload => (gx_ar st).bind fun q => match gx_rd h q.2.1 103 q.1 with
    | some v => if v.isRef then some (pc + 1, L, v :: q.2.2) else none
    | none => (gx_rd h q.2.1 104 q.1).bind fun v => if v.isRef then some (pc + 1, L, v :: q.2.2) else none
  | .arraylength => match st with
    | .float _ :: r => xs.map fun l => (pc + 1, L, .int l.length.toInt32 :: r)
    | _ => none
  | _ => none
end
section
theorem gx_look2 {L : List (Nat × Instr)} {i : Nat} {v : Instr} (h : L.lookup i = some v) : (i, v) ∈ L := by
  induction L with
  | nil => cases h
  | cons q r ih =>
    obtain ⟨a, w⟩ := q
    rw [List.lookup_cons] at h
    split at h
    · rename_i e
      have e : i = a := by simpa using e
      cases h
      rw [e]
      exact List.mem_cons_self
    · exact List.mem_cons_of_mem _ (ih h)
theorem gx_find {α : Type} {l : List (Nat × Nat × α)} {o idx : Nat} {x : α} (h : (l.find? (fun q => q.1 == o && q.2.1 == idx)).map (fun q => q.2.2) = some x) : (o, idx, x) ∈ l := by
  obtain ⟨⟨a, i, y⟩, h1, h2⟩ := Option.map_eq_some_iff.mp h
  have h3 := List.find?_some h1
  have h4 := List.mem_of_find?_eq_some h1
  simp only [Bool.and_eq_true, beq_iff_eq] at h3
  obtain ⟨rfl, rfl⟩ := h3
  cases h2
  exact h4
theorem gx_wF {w : Jvm.Cond} (h : w ∈ gx_FT.map gx_fw) : w ∈ gx_words := gx_pick gx_cF.1 gx_cF.2 h
theorem gx_wK {w : Jvm.Cond} (h : w ∈ gx_KI.map (fun z => Jvm.Cond.constant (gx_o z.1) z.2.1 z.2.2)) : w ∈ gx_words := by cases h
theorem gx_wKL {w : Jvm.Cond} (h : w ∈ gx_KL.map (fun z => Jvm.Cond.constantLong (gx_o z.1) z.2.1 z.2.2)) : w ∈ gx_words := gx_pick gx_cKL.1 gx_cKL.2 h
theorem gx_wN {w : Jvm.Cond} (h : w ∈ gx_CT.flatMap gx_nw) : w ∈ gx_words := gx_pick gx_cN.1 gx_cN.2 h
theorem gx_wC {ci : Nat} {r : vw_C} (hr : gx_cl[ci]? = some r) : ∀ w ∈ u_ws r.1 r.2.1 r.2.2, w ∈ gx_words := fun w h => gx_pick gx_cC.1 gx_cC.2 (List.mem_flatMap.mpr ⟨r, List.mem_of_getElem? hr, h⟩)
theorem gx_wS {w : Jvm.Cond} (h : w ∈ gx_MT.map gx_sw1) : w ∈ gx_words := gx_pick gx_cS.1 gx_cS.2 h
theorem gx_wA {w : Jvm.Cond} (h : w ∈ ([.arrayClass .boolean, .arrayClass .int, .arrayClass .long] : List Jvm.Cond)) : w ∈ gx_words := gx_pick gx_cA.1 gx_cA.2 h
theorem gx_wO : Jvm.Cond.arrayOver (.object gx_elem) ∈ gx_words := gx_pick gx_cO.1 gx_cO.2 List.mem_cons_self
theorem gx_rowM {r : List gx_E} (hr : r ∈ gx_tb) {z : gx_E} (hz : z ∈ r) {w : Jvm.Cond} (hw : w ∈ gx_mw z) : w ∈ gx_words := by
  unfold gx_tb at hr
  simp only [List.mem_cons, List.not_mem_nil, or_false] at hr
  have h : w ∈ r.flatMap gx_mw := List.mem_flatMap.mpr ⟨z, hz, hw⟩
  rcases hr with rfl | rfl | rfl | rfl | rfl | rfl | rfl | rfl | rfl | rfl | rfl | rfl | rfl | rfl
  · exact gx_pick gx_cM0.1 gx_cM0.2 h
  · exact gx_pick gx_cM1.1 gx_cM1.2 h
  · exact gx_pick gx_cM2.1 gx_cM2.2 h
  · exact gx_pick gx_cM3.1 gx_cM3.2 h
  · exact gx_pick gx_cM4.1 gx_cM4.2 h
  · exact gx_pick gx_cM5.1 gx_cM5.2 h
  · exact gx_pick gx_cM6.1 gx_cM6.2 h
  · exact gx_pick gx_cM7.1 gx_cM7.2 h
  · exact gx_pick gx_cM8.1 gx_cM8.2 h
  · exact gx_pick gx_cM9.1 gx_cM9.2 h
  · exact gx_pick gx_cM10.1 gx_cM10.2 h
  · exact gx_pick gx_cM11.1 gx_cM11.2 h
  · exact gx_pick gx_cM12.1 gx_cM12.2 h
  · exact gx_pick gx_cM13.1 gx_cM13.2 h
theorem gx_rowE {r : List gx_E} (hr : r ∈ gx_tb) {z : gx_E} (hz : z ∈ r) : gx_eok z = true := by
  unfold gx_tb at hr
  simp only [List.mem_cons, List.not_mem_nil, or_false] at hr
  rcases hr with rfl | rfl | rfl | rfl | rfl | rfl | rfl | rfl | rfl | rfl | rfl | rfl | rfl | rfl
  · exact List.all_eq_true.mp gx_ck0 z hz
  · exact List.all_eq_true.mp gx_ck1 z hz
  · exact List.all_eq_true.mp gx_ck2 z hz
  · exact List.all_eq_true.mp gx_ck3 z hz
  · exact List.all_eq_true.mp gx_ck4 z hz
  · exact List.all_eq_true.mp gx_ck5 z hz
  · exact List.all_eq_true.mp gx_ck6 z hz
  · exact List.all_eq_true.mp gx_ck7 z hz
  · exact List.all_eq_true.mp gx_ck8 z hz
  · exact List.all_eq_true.mp gx_ck9 z hz
  · exact List.all_eq_true.mp gx_ck10 z hz
  · exact List.all_eq_true.mp gx_ck11 z hz
  · exact List.all_eq_true.mp gx_ck12 z hz
  · exact List.all_eq_true.mp gx_ck13 z hz
def gx_nj : Nat := 196
theorem gx_lens : gx_tb.length = 14 ∧ gx_tb.all (fun r => r.length == 14) = true := by decide +kernel
theorem gx_inj {j : Nat} (hj : j < gx_nj) : ∃ r, r ∈ gx_tb ∧ gx_m j ∈ r := by
  have hj : j < 196 := hj
  have h1 : j / 14 < gx_tb.length := by rw [gx_lens.1]; omega
  obtain ⟨r, hr⟩ : ∃ r, gx_tb[j / 14]? = some r := ⟨_, List.getElem?_eq_getElem h1⟩
  have hm : r ∈ gx_tb := List.mem_of_getElem? hr
  have h2 : r.length = 14 := by simpa using List.all_eq_true.mp gx_lens.2 r hm
  have h3 : j % 14 < r.length := by rw [h2]; omega
  refine ⟨r, hm, ?_⟩
  unfold gx_m
  rw [hr]
  show r.getD (j % 14) gx_m0 ∈ r
  rw [List.getD_eq_getElem?_getD, List.getElem?_eq_getElem h3]
  exact List.getElem_mem h3
theorem gx_m_out {j : Nat} (hj : ¬ j < gx_nj) : gx_m j = gx_m0 := by
  have hj : ¬ j < 196 := hj
  unfold gx_m
  rw [List.getElem?_eq_none (by rw [gx_lens.1]; omega)]
  rfl
theorem gx_ok {j : Nat} (hj : j < gx_nj) : gx_eok (gx_m j) = true := by
  obtain ⟨r, h1, h2⟩ := gx_inj hj
  exact gx_rowE h1 h2
theorem gx_wM {j : Nat} (hj : j < gx_nj) {w : Jvm.Cond} (hw : w ∈ gx_mw (gx_m j)) : w ∈ gx_words := by
  obtain ⟨r, h1, h2⟩ := gx_inj hj
  exact gx_rowM h1 h2 hw
theorem gx_parts {j : Nat} (hj : j < gx_nj) : ((gx_m j).2.2.2.2.all (gx_chk (gx_b j)) = true) ∧ plainFor (gx_y j) = true ∧ (parseMethodDescriptor (gx_y j).desc).map (fun d => d.parameters.length) = some (gx_np j) ∧ ((gx_y j).cls ≠ "java/lang/invoke/MethodHandle" ∧ (gx_y j).cls ≠ "java/lang/invoke/VarHandle") ∧ (gx_y j).cls = gx_o (gx_mo j) ∧
    (gx_kd j = 1 → (gx_cl[gx_rc j]?).map (fun r => r.1) = some (gx_y j).cls ∧ gx_rc j < 100) ∧ (gx_kd j = 2 → (gx_y j).name = "<init>" ∧ gx_rt j = none ∧ gx_hd j = []) ∧ gx_nl j ≤ 80 := by
  have h := gx_ok hj
  unfold gx_eok at h
  simp only [Bool.and_eq_true, decide_eq_true_eq] at h
  exact h
theorem gx_npok (j : Nat) (hj : j < gx_nj) : (parseMethodDescriptor (gx_y j).desc).map (fun d => d.parameters.length) = some (gx_np j) := (gx_parts hj).2.2.1
theorem gx_plain (j : Nat) (hj : j < gx_nj) : plainFor (gx_y j) = true ∧ ((gx_y j).cls ≠ "java/lang/invoke/MethodHandle" ∧ (gx_y j).cls ≠ "java/lang/invoke/VarHandle") := ⟨(gx_parts hj).2.1, (gx_parts hj).2.2.2.1⟩
/-- an instruction of the table is the code's -/
theorem gx_dec {j pc : Nat} {ins : Instr} (h : gx_I j pc = some ins) : ∃ len, decode (gx_b j) pc = .ok (ins, len) ∧ gx_lok ins len = true := by
  by_cases hj : j < gx_nj
  · have h1 := (gx_parts hj).1
    unfold gx_I at h
    cases hb : (gx_m j).2.2.2.2[pc / 64]? with
    | none => rw [hb] at h; cases h
    | some bl =>
      rw [hb] at h
      have h2 := List.all_eq_true.mp h1 bl (List.mem_of_getElem? hb)
      have h3 : (pc, ins) ∈ bl := gx_look2 h
      unfold gx_chk at h2
      have h4 := List.all_eq_true.mp h2 _ h3
      dsimp only at h4
      split at h4
      · rename_i i len he
        simp only [Bool.and_eq_true, decide_eq_true_eq] at h4
        obtain ⟨rfl, h5⟩ := h4
        exact ⟨len, he, h5⟩
      · cases h4
  · unfold gx_I at h
    rw [gx_m_out hj] at h
    cases h
theorem gx_small {o idx ci k : Nat} (h : gx_F o idx = some (ci, k)) : ci < 100 := by
  have h1 := gx_find h
  have h2 : gx_FT.all (fun z => decide (z.2.2.1 < 100)) = true := by decide +kernel
  simpa using List.all_eq_true.mp h2 _ h1
theorem gx_ftyok : ∀ (ci : Nat) (r : vw_C), gx_cl[ci]? = some r → ∀ k, k < r.2.2 → parseFieldDescriptor (r.2.1 k).2.2.1 = some (gx_fty ci k) := by
  intro ci r hr k hk
  have h : (List.range gx_cl.length).all (fun ci => match gx_cl[ci]? with
    | some r => (List.range r.2.2).all (fun k => decide (parseFieldDescriptor (r.2.1 k).2.2.1 = some (gx_fty ci k)))
    | none => true) = true := by decide +kernel
  have hl : ci < gx_cl.length := by
    rcases Nat.lt_or_ge ci gx_cl.length with q | q
    · exact q
    · rw [List.getElem?_eq_none q] at hr; cases hr
  have h1 := List.all_eq_true.mp h ci (List.mem_range.mpr hl)
  rw [hr] at h1
  have h2 := List.all_eq_true.mp h1 k (List.mem_range.mpr hk)
  simpa using h2
theorem gx_nm : ∀ (ci : Nat) (r : vw_C), gx_cl[ci]? = some r → ∀ a, a < r.2.2 → ∀ b, b < r.2.2 → a ≠ b → (r.2.1 a).2.1 ≠ (r.2.1 b).2.1 := by
  intro ci r hr a ha b hb hne
  have h : gx_cl.all (fun r => (List.range r.2.2).all (fun a => (List.range r.2.2).all (fun b => decide (a ≠ b → (r.2.1 a).2.1 ≠ (r.2.1 b).2.1)))) = true := by decide +kernel
  have h1 := List.all_eq_true.mp h r (List.mem_of_getElem? hr)
  have h2 := List.all_eq_true.mp h1 a (List.mem_range.mpr ha)
  have h3 := List.all_eq_true.mp h2 b (List.mem_range.mpr hb)
  simp only [decide_eq_true_eq] at h3
  exact h3 hne
theorem gx_nofl : ∀ (ci : Nat) (r : vw_C), gx_cl[ci]? = some r → ∀ k, k < r.2.2 → gx_fl (defaultValue (gx_fty ci k)) = false := by
  intro ci r hr k hk
  have h : (List.range gx_cl.length).all (fun ci => match gx_cl[ci]? with
    | some r => (List.range r.2.2).all (fun k => !gx_fl (defaultValue (gx_fty ci k)))
    | none => true) = true := by decide +kernel
  have hl : ci < gx_cl.length := by
    rcases Nat.lt_or_ge ci gx_cl.length with q | q
    · exact q
    · rw [List.getElem?_eq_none q] at hr; cases hr
  have h1 := List.all_eq_true.mp h ci (List.mem_range.mpr hl)
  rw [hr] at h1
  have h2 := List.all_eq_true.mp h1 k (List.mem_range.mpr hk)
  simpa using h2
theorem gx_defv {ba b : Nat} {ty : FieldType} (h : gx_fl (defaultValue ty) = false) : gx_v ba b (defaultValue ty) = defaultValue ty := by
  cases ty <;> first | rfl | cases h
theorem gx_ei_lt : gx_ei < 100 := by decide
theorem gx_ei_nm {r : vw_C} (h : gx_cl[gx_ei]? = some r) : r.1 = gx_elem := by
  cases h
  rfl
theorem gx_ct_r {z : Nat × Nat × Nat} (h : z ∈ gx_CT) : ∃ r, gx_cl[z.2.2]? = some r := by
  have h2 : gx_CT.all (fun z => (gx_cl[z.2.2]?).isSome) = true := by decide +kernel
  exact Option.isSome_iff_exists.mp (List.all_eq_true.mp h2 z h)
theorem gx_mtj {z : Nat × Nat × Nat × Bool} (h : z ∈ gx_MT) : z.2.2.1 < gx_nj := by
  have h2 : gx_MT.all (fun z => decide (z.2.2.1 < gx_nj)) = true := by decide +kernel
  simpa using List.all_eq_true.mp h2 z h
theorem gx_wM0 {j : Nat} (hj : j < gx_nj) (hk : gx_kd j ≠ 9) : (if gx_hd j = [] then Jvm.Cond.code (gx_y j) (gx_b j) (gx_nl j) (gx_rt j) else Jvm.Cond.codeWith (gx_y j) (gx_b j) (gx_nl j) (gx_rt j) (gx_hd j)) ∈ gx_words ∧ Jvm.Cond.initialized (gx_y j).cls ∈ gx_words := by
  have hk : ¬ (gx_m j).2.2.2.1.2.1 = 9 := hk
  constructor
  · refine gx_wM hj ?_
    unfold gx_mw
    rw [if_neg hk]
    exact List.mem_cons_self
  · refine gx_wM hj ?_
    unfold gx_mw
    rw [if_neg hk]
    exact List.mem_cons_of_mem _ List.mem_cons_self
theorem gx_w0 {j : Nat} (hj : j < gx_nj) (hk : gx_kd j = 0) : Jvm.Cond.static (gx_y j) ∈ gx_words := by
  have hk : (gx_m j).2.2.2.1.2.1 = 0 := hk
  refine gx_wM hj ?_
  unfold gx_mw
  rw [if_neg (show ¬ (gx_m j).2.2.2.1.2.1 = 9 by rw [hk]; decide), if_pos hk]
  exact List.mem_cons_of_mem _ (List.mem_cons_of_mem _ List.mem_cons_self)
theorem gx_w1 {j : Nat} (hj : j < gx_nj) (hk : gx_kd j = 1) : Jvm.Cond.instanceMethod (gx_y j) ∈ gx_words ∧ Jvm.Cond.selects (gx_y j).cls (gx_y j) (gx_y j) ∈ gx_words := by
  have hk : (gx_m j).2.2.2.1.2.1 = 1 := hk
  constructor
  · refine gx_wM hj ?_
    unfold gx_mw
    rw [if_neg (show ¬ (gx_m j).2.2.2.1.2.1 = 9 by rw [hk]; decide), if_neg (show ¬ (gx_m j).2.2.2.1.2.1 = 0 by rw [hk]; decide), if_pos hk]
    exact List.mem_cons_of_mem _ (List.mem_cons_of_mem _ List.mem_cons_self)
  · refine gx_wM hj ?_
    unfold gx_mw
    rw [if_neg (show ¬ (gx_m j).2.2.2.1.2.1 = 9 by rw [hk]; decide), if_neg (show ¬ (gx_m j).2.2.2.1.2.1 = 0 by rw [hk]; decide), if_pos hk]
    exact List.mem_cons_of_mem _ (List.mem_cons_of_mem _ (List.mem_cons_of_mem _ List.mem_cons_self))
theorem gx_w2 {j : Nat} (hj : j < gx_nj) (hk : gx_kd j = 2) : Jvm.Cond.instanceMethod (gx_y j) ∈ gx_words ∧ Jvm.Cond.code (gx_y j) (gx_b j) (gx_nl j) none ∈ gx_words ∧ (gx_y j).name = "<init>" ∧ gx_hd j = [] := by
  obtain ⟨n1, n2, n3⟩ := (gx_parts hj).2.2.2.2.2.2.1 hk
  have hk' : (gx_m j).2.2.2.1.2.1 = 2 := hk
  refine ⟨?_, ?_, n1, n3⟩
  · refine gx_wM hj ?_
    unfold gx_mw
    rw [if_neg (show ¬ (gx_m j).2.2.2.1.2.1 = 9 by rw [hk']; decide), if_neg (show ¬ (gx_m j).2.2.2.1.2.1 = 0 by rw [hk']; decide), if_neg (show ¬ (gx_m j).2.2.2.1.2.1 = 1 by rw [hk']; decide)]
    exact List.mem_cons_of_mem _ (List.mem_cons_of_mem _ List.mem_cons_self)
  · have := (gx_wM0 hj (by rw [hk]; decide)).1
    rw [if_pos n3, n2] at this
    exact this
theorem gx_rc_lt {j : Nat} (hj : j < gx_nj) (hk : gx_kd j = 1) : gx_rc j < 100 := ((gx_parts hj).2.2.2.2.2.1 hk).2
theorem gx_rc_nm {j : Nat} (hj : j < gx_nj) (hk : gx_kd j = 1) {r : vw_C} (hr : gx_cl[gx_rc j]? = some r) : r.1 = (gx_y j).cls := by
  have h := ((gx_parts hj).2.2.2.2.2.1 hk).1
  rw [hr] at h
  exact Option.some.inj h
end
section
theorem gx_ki_w {o idx : Nat} {x : Int32} (h : gx_ki o idx = some x) : Jvm.Cond.constant (gx_o o) idx x ∈ gx_words := gx_wK (List.mem_map.mpr ⟨_, gx_find h, rfl⟩)
theorem gx_kl_w {o idx : Nat} {x : Int64} (h : gx_kl o idx = some x) : Jvm.Cond.constantLong (gx_o o) idx x ∈ gx_words := gx_wKL (List.mem_map.mpr ⟨_, gx_find h, rfl⟩)
section GXP
variable {p : Program} {l : Launch} {e : Env} {R : Room} {s : State} {m : MethodId} {args : Array Value} {below : List Frame} {meth : Method} {c : Code} {H : Heap} {locs : List Loc} {cells slots : Nat} {Q : State → Prop}
variable {cc : ByteArray} {ls : Array Slot}
set_option maxHeartbeats 4000000 in
theorem gx_pW (hx : p.tables.exec = Jvm.exec) (hb : c.code = cc) {o nL ba b : Nat} (hown : s.vm.findClass (gx_o o) = some m.cls) (hw : ∀ w ∈ gx_words, w.before args s = true)
    {ins : Instr} {pc pc' : Nat} {L L' : gx_L} {st st' : List Value} (hd : ∃ len, decode cc pc = .ok (ins, len) ∧ gx_lok ins len = true) (hl : lv_has ls nL (gx_l ba b L)) (h : gx_p o nL ins pc L st = some (pc', L', st'))
    (kk : ∀ ls' : Array Slot, lv_has ls' nL (gx_l ba b L') → W p l e R s m args below meth c H locs cells slots Q (F0 m pc' ls' (gx_t ba b st'))) :
    W p l e R s m args below meth c H locs cells slots Q (F0 m pc ls (gx_t ba b st)) := by
  obtain ⟨len, hd, hlen⟩ := hd
  cases ins with
  | aconst_null =>
    have e1 : len = 1 := by simpa [gx_lok, gx_len] using hlen
    subst e1
    cases h
    exact lv_null hx hb hd (kk _ hl)
  | iconst n =>
    have e1 : len = 1 := by simpa [gx_lok, gx_len] using hlen
    subst e1
    cases h
    exact lv_iconst hx hb hd rfl (kk _ hl)
  | bipush n =>
    have e1 : len = 2 := by simpa [gx_lok, gx_len] using hlen
    subst e1
    cases h
    exact lv_bipush hx hb hd rfl (kk _ hl)
  | sipush n =>
    have e1 : len = 3 := by simpa [gx_lok, gx_len] using hlen
    subst e1
    cases h
    exact lv_sipush hx hb hd rfl (kk _ hl)
  | lconst n =>
    have e1 : len = 1 := by simpa [gx_lok, gx_len] using hlen
    subst e1
    cases h
    exact lv_lconst hx hb hd rfl (kk _ hl)
  | ldc idx =>
    have e1 : len = 2 := by simpa [gx_lok, gx_len] using hlen
    subst e1
    simp only [gx_p] at h
    obtain ⟨x, h1, h2⟩ := Option.map_eq_some_iff.mp h
    cases h2
    exact lv_ldc hx hb hown (hw _ (gx_ki_w h1)) hd (kk _ hl)
  | ldc2_w idx =>
    have e1 : len = 3 := by simpa [gx_lok, gx_len] using hlen
    subst e1
    simp only [gx_p] at h
    obtain ⟨x, h1, h2⟩ := Option.map_eq_some_iff.mp h
    cases h2
    exact lv_ldc2 hx hb hown (hw _ (gx_kl_w h1)) hd (kk _ hl)
  | iload_n k =>
    have e1 : len = 1 := by simpa [gx_lok, gx_len] using hlen
    subst e1
    obtain ⟨x, h1, h2⟩ := Option.map_eq_some_iff.mp h
    obtain ⟨v, h3, h4⟩ := Option.bind_eq_some_iff.mp h1
    have h5 := gx_i1_e h4
    subst h5
    cases h2
    exact lv_iload_n hx hb hd rfl (gx_at_l hl h3) (kk _ hl)
  | iload i =>
    have e1 : len = 2 := by simpa [gx_lok, gx_len] using hlen
    subst e1
    obtain ⟨x, h1, h2⟩ := Option.map_eq_some_iff.mp h
    obtain ⟨v, h3, h4⟩ := Option.bind_eq_some_iff.mp h1
    have h5 := gx_i1_e h4
    subst h5
    cases h2
    exact lv_iload hx hb hd (gx_at_l hl h3) (kk _ hl)
  | lload_n k =>
    have e1 : len = 1 := by simpa [gx_lok, gx_len] using hlen
    subst e1
    obtain ⟨x, h1, h2⟩ := Option.map_eq_some_iff.mp h
    obtain ⟨v, h3, h4⟩ := Option.bind_eq_some_iff.mp h1
    have h5 := gx_l1_e h4
    subst h5
    cases h2
    exact lv_lload_n hx hb hd rfl (gx_at_l hl h3) (kk _ hl)
  | lload i =>
    have e1 : len = 2 := by simpa [gx_lok, gx_len] using hlen
    subst e1
    obtain ⟨x, h1, h2⟩ := Option.map_eq_some_iff.mp h
    obtain ⟨v, h3, h4⟩ := Option.bind_eq_some_iff.mp h1
    have h5 := gx_l1_e h4
    subst h5
    cases h2
    exact lv_lload hx hb hd (gx_at_l hl h3) (kk _ hl)
  | aload_n k =>
    have e1 : len = 1 := by simpa [gx_lok, gx_len] using hlen
    subst e1
    obtain ⟨v, h1, h2⟩ := Option.bind_eq_some_iff.mp h
    split at h2
    · cases h2
      have h6 := gx_at_l hl h1
      cases v with
      | ref a => exact lv_aload_n hx hb hd rfl h6 (kk _ hl)
      | null => exact lv_aload_nN hx hb hd rfl h6 (kk _ hl)
      | float a => exact lv_aload_n hx hb hd rfl h6 (kk _ hl)
      | _ => rename_i hc; simp [Value.isRef, gx_fl] at hc
    · cases h2
  | aload i =>
    have e1 : len = 2 := by simpa [gx_lok, gx_len] using hlen
    subst e1
    obtain ⟨v, h1, h2⟩ := Option.bind_eq_some_iff.mp h
    split at h2
    · cases h2
      have h6 := gx_at_l hl h1
      cases v with
      | ref a => exact lv_aload hx hb hd h6 (kk _ hl)
      | null => exact lv_aloadN hx hb hd h6 (kk _ hl)
      | float a => exact lv_aload hx hb hd h6 (kk _ hl)
      | _ => rename_i hc; simp [Value.isRef, gx_fl] at hc
    · cases h2
  | istore_n k =>
    have e1 : len = 1 := by simpa [gx_lok, gx_len] using hlen
    subst e1
    obtain ⟨⟨x, r⟩, h1, h2⟩ := Option.bind_eq_some_iff.mp h
    have h5 := gx_a1_e h1
    subst h5
    split at h2
    · rename_i hn
      cases h2
      exact lv_istore_n hx hb hd rfl hl hn (gx_l_s1 ba b L _ (.int x)) (fun ls' hl' => kk ls' hl')
    · cases h2
  | istore i =>
    have e1 : len = 2 := by simpa [gx_lok, gx_len] using hlen
    subst e1
    obtain ⟨⟨x, r⟩, h1, h2⟩ := Option.bind_eq_some_iff.mp h
    have h5 := gx_a1_e h1
    subst h5
    split at h2
    · rename_i hn
      cases h2
      exact lv_istore hx hb hd hl hn (gx_l_s1 ba b L _ (.int x)) (fun ls' hl' => kk ls' hl')
    · cases h2
  | lstore_n k =>
    have e1 : len = 1 := by simpa [gx_lok, gx_len] using hlen
    subst e1
    obtain ⟨⟨x, r⟩, h1, h2⟩ := Option.bind_eq_some_iff.mp h
    have h5 := gx_b1_e h1
    subst h5
    split at h2
    · rename_i hn
      cases h2
      exact lv_lstore_n hx hb hd rfl hl hn (gx_l_s2 ba b L _ (.long x)) (fun ls' hl' => kk ls' hl')
    · cases h2
  | lstore i =>
    have e1 : len = 2 := by simpa [gx_lok, gx_len] using hlen
    subst e1
    obtain ⟨⟨x, r⟩, h1, h2⟩ := Option.bind_eq_some_iff.mp h
    have h5 := gx_b1_e h1
    subst h5
    split at h2
    · rename_i hn
      cases h2
      exact lv_lstore hx hb hd hl hn (gx_l_s2 ba b L _ (.long x)) (fun ls' hl' => kk ls' hl')
    · cases h2
  | astore_n k =>
    have e1 : len = 1 := by simpa [gx_lok, gx_len] using hlen
    subst e1
    simp only [gx_p] at h
    split at h
    · split at h
      · rename_i hn
        cases h
        exact lv_astore_n hx hb hd rfl hl hn (gx_l_s1 ba b L _ (.ref _)) (fun ls' hl' => kk ls' hl')
      · cases h
    · split at h
      · rename_i hn
        cases h
        exact lv_astore_nN hx hb hd rfl hl hn (gx_l_s1 ba b L _ .null) (fun ls' hl' => kk ls' hl')
      · cases h
    · cases h
  | astore i =>
    have e1 : len = 2 := by simpa [gx_lok, gx_len] using hlen
    subst e1
    simp only [gx_p] at h
    split at h
    · split at h
      · rename_i hn
        cases h
        exact lv_astore hx hb hd hl hn (gx_l_s1 ba b L _ (.ref _)) (fun ls' hl' => kk ls' hl')
      · cases h
    · split at h
      · rename_i hn
        cases h
        exact lv_astoreN hx hb hd hl hn (gx_l_s1 ba b L _ .null) (fun ls' hl' => kk ls' hl')
      · cases h
    · cases h
  | iinc i n =>
    have e1 : len = 3 := by simpa [gx_lok, gx_len] using hlen
    subst e1
    obtain ⟨x, h1, h2⟩ := Option.bind_eq_some_iff.mp h
    obtain ⟨v, h3, h4⟩ := Option.bind_eq_some_iff.mp h1
    have h5 := gx_i1_e h4
    subst h5
    split at h2
    · rename_i hn
      cases h2
      obtain ⟨k, hk⟩ := gx_ix_l (ba := ba) (b := b) h3
      exact lv_iinc hx hb hd hl hk rfl hn (gx_l_s1 ba b L _ (.int _)) (fun ls' hl' => kk ls' hl')
    · cases h2
  | iadd =>
    have e1 : len = 1 := by simpa [gx_lok, gx_len] using hlen
    subst e1
    simp only [gx_p, gx_fa2, gx_fb2, gx_fab, Option.bind_some] at h
    obtain ⟨⟨y, x, r⟩, h1, h2⟩ := Option.map_eq_some_iff.mp h
    have h5 := gx_a2_e h1
    subst h5
    cases h2
    exact lv_iadd hx hb hd (kk _ hl)
  | isub =>
    have e1 : len = 1 := by simpa [gx_lok, gx_len] using hlen
    subst e1
    simp only [gx_p, gx_fa2, gx_fb2, gx_fab, Option.bind_some] at h
    obtain ⟨⟨y, x, r⟩, h1, h2⟩ := Option.map_eq_some_iff.mp h
    have h5 := gx_a2_e h1
    subst h5
    cases h2
    exact lv_isub hx hb hd (kk _ hl)
  | imul =>
    have e1 : len = 1 := by simpa [gx_lok, gx_len] using hlen
    subst e1
    simp only [gx_p, gx_fa2, gx_fb2, gx_fab, Option.bind_some] at h
    obtain ⟨⟨y, x, r⟩, h1, h2⟩ := Option.map_eq_some_iff.mp h
    have h5 := gx_a2_e h1
    subst h5
    cases h2
    exact lv_imul hx hb hd (kk _ hl)
  | iand =>
    have e1 : len = 1 := by simpa [gx_lok, gx_len] using hlen
    subst e1
    simp only [gx_p, gx_fa2, gx_fb2, gx_fab, Option.bind_some] at h
    obtain ⟨⟨y, x, r⟩, h1, h2⟩ := Option.map_eq_some_iff.mp h
    have h5 := gx_a2_e h1
    subst h5
    cases h2
    exact lv_iand hx hb hd (kk _ hl)
  | ior =>
    have e1 : len = 1 := by simpa [gx_lok, gx_len] using hlen
    subst e1
    simp only [gx_p, gx_fa2, gx_fb2, gx_fab, Option.bind_some] at h
    obtain ⟨⟨y, x, r⟩, h1, h2⟩ := Option.map_eq_some_iff.mp h
    have h5 := gx_a2_e h1
    subst h5
    cases h2
    exact lv_ior hx hb hd (kk _ hl)
  | ixor =>
    have e1 : len = 1 := by simpa [gx_lok, gx_len] using hlen
    subst e1
    simp only [gx_p, gx_fa2, gx_fb2, gx_fab, Option.bind_some] at h
    obtain ⟨⟨y, x, r⟩, h1, h2⟩ := Option.map_eq_some_iff.mp h
    have h5 := gx_a2_e h1
    subst h5
    cases h2
    exact lv_ixor hx hb hd (kk _ hl)
  | ishl =>
    have e1 : len = 1 := by simpa [gx_lok, gx_len] using hlen
    subst e1
    simp only [gx_p, gx_fa2, gx_fb2, gx_fab, Option.bind_some] at h
    obtain ⟨⟨y, x, r⟩, h1, h2⟩ := Option.map_eq_some_iff.mp h
    have h5 := gx_a2_e h1
    subst h5
    cases h2
    exact lv_ishl hx hb hd (kk _ hl)
  | ishr =>
    have e1 : len = 1 := by simpa [gx_lok, gx_len] using hlen
    subst e1
    simp only [gx_p, gx_fa2, gx_fb2, gx_fab, Option.bind_some] at h
    obtain ⟨⟨y, x, r⟩, h1, h2⟩ := Option.map_eq_some_iff.mp h
    have h5 := gx_a2_e h1
    subst h5
    cases h2
    exact lv_ishr hx hb hd (kk _ hl)
  | iushr =>
    have e1 : len = 1 := by simpa [gx_lok, gx_len] using hlen
    subst e1
    simp only [gx_p, gx_fa2, gx_fb2, gx_fab, Option.bind_some] at h
    obtain ⟨⟨y, x, r⟩, h1, h2⟩ := Option.map_eq_some_iff.mp h
    have h5 := gx_a2_e h1
    subst h5
    cases h2
    exact lv_iushr hx hb hd rfl (kk _ hl)
  | ladd =>
    have e1 : len = 1 := by simpa [gx_lok, gx_len] using hlen
    subst e1
    simp only [gx_p, gx_fa2, gx_fb2, gx_fab, Option.bind_some] at h
    obtain ⟨⟨y, x, r⟩, h1, h2⟩ := Option.map_eq_some_iff.mp h
    have h5 := gx_b2_e h1
    subst h5
    cases h2
    exact lv_ladd hx hb hd (kk _ hl)
  | lsub =>
    have e1 : len = 1 := by simpa [gx_lok, gx_len] using hlen
    subst e1
    simp only [gx_p, gx_fa2, gx_fb2, gx_fab, Option.bind_some] at h
    obtain ⟨⟨y, x, r⟩, h1, h2⟩ := Option.map_eq_some_iff.mp h
    have h5 := gx_b2_e h1
    subst h5
    cases h2
    exact lv_lsub hx hb hd (kk _ hl)
  | lmul =>
    have e1 : len = 1 := by simpa [gx_lok, gx_len] using hlen
    subst e1
    simp only [gx_p, gx_fa2, gx_fb2, gx_fab, Option.bind_some] at h
    obtain ⟨⟨y, x, r⟩, h1, h2⟩ := Option.map_eq_some_iff.mp h
    have h5 := gx_b2_e h1
    subst h5
    cases h2
    exact lv_lmul hx hb hd (kk _ hl)
  | land =>
    have e1 : len = 1 := by simpa [gx_lok, gx_len] using hlen
    subst e1
    simp only [gx_p, gx_fa2, gx_fb2, gx_fab, Option.bind_some] at h
    obtain ⟨⟨y, x, r⟩, h1, h2⟩ := Option.map_eq_some_iff.mp h
    have h5 := gx_b2_e h1
    subst h5
    cases h2
    exact lv_land hx hb hd (kk _ hl)
  | lor =>
    have e1 : len = 1 := by simpa [gx_lok, gx_len] using hlen
    subst e1
    simp only [gx_p, gx_fa2, gx_fb2, gx_fab, Option.bind_some] at h
    obtain ⟨⟨y, x, r⟩, h1, h2⟩ := Option.map_eq_some_iff.mp h
    have h5 := gx_b2_e h1
    subst h5
    cases h2
    exact lv_lor hx hb hd (kk _ hl)
  | lxor =>
    have e1 : len = 1 := by simpa [gx_lok, gx_len] using hlen
    subst e1
    simp only [gx_p, gx_fa2, gx_fb2, gx_fab, Option.bind_some] at h
    obtain ⟨⟨y, x, r⟩, h1, h2⟩ := Option.map_eq_some_iff.mp h
    have h5 := gx_b2_e h1
    subst h5
    cases h2
    exact lv_lxor hx hb hd (kk _ hl)
  | lshl =>
    have e1 : len = 1 := by simpa [gx_lok, gx_len] using hlen
    subst e1
    simp only [gx_p, gx_fa2, gx_fb2, gx_fab, Option.bind_some] at h
    obtain ⟨⟨y, x, r⟩, h1, h2⟩ := Option.map_eq_some_iff.mp h
    have h5 := gx_ab_e h1
    subst h5
    cases h2
    exact lv_lshl hx hb hd rfl (kk _ hl)
  | lshr =>
    have e1 : len = 1 := by simpa [gx_lok, gx_len] using hlen
    subst e1
    simp only [gx_p, gx_fa2, gx_fb2, gx_fab, Option.bind_some] at h
    obtain ⟨⟨y, x, r⟩, h1, h2⟩ := Option.map_eq_some_iff.mp h
    have h5 := gx_ab_e h1
    subst h5
    cases h2
    exact lv_lshr hx hb hd rfl (kk _ hl)
  | lushr =>
    have e1 : len = 1 := by simpa [gx_lok, gx_len] using hlen
    subst e1
    simp only [gx_p, gx_fa2, gx_fb2, gx_fab, Option.bind_some] at h
    obtain ⟨⟨y, x, r⟩, h1, h2⟩ := Option.map_eq_some_iff.mp h
    have h5 := gx_ab_e h1
    subst h5
    cases h2
    exact lv_lushr hx hb hd rfl (kk _ hl)
  | idiv =>
    have e1 : len = 1 := by simpa [gx_lok, gx_len] using hlen
    subst e1
    obtain ⟨⟨y, x, r⟩, h1, h2⟩ := Option.bind_eq_some_iff.mp h
    have h5 := gx_a2_e h1
    subst h5
    split at h2
    · cases h2
    · rename_i hn
      cases h2
      exact lv_idiv hx hb hd hn (kk _ hl)
  | irem =>
    have e1 : len = 1 := by simpa [gx_lok, gx_len] using hlen
    subst e1
    obtain ⟨⟨y, x, r⟩, h1, h2⟩ := Option.bind_eq_some_iff.mp h
    have h5 := gx_a2_e h1
    subst h5
    split at h2
    · cases h2
    · rename_i hn
      cases h2
      exact lv_irem hx hb hd hn (kk _ hl)
  | ineg =>
    have e1 : len = 1 := by simpa [gx_lok, gx_len] using hlen
    subst e1
    obtain ⟨⟨x, r⟩, h1, h2⟩ := Option.map_eq_some_iff.mp h
    have h5 := gx_a1_e h1
    subst h5
    cases h2
    exact lv_ineg hx hb hd (kk _ hl)
  | lneg =>
    have e1 : len = 1 := by simpa [gx_lok, gx_len] using hlen
    subst e1
    obtain ⟨⟨x, r⟩, h1, h2⟩ := Option.map_eq_some_iff.mp h
    have h5 := gx_b1_e h1
    subst h5
    cases h2
    exact lv_lneg hx hb hd (kk _ hl)
  | i2l =>
    have e1 : len = 1 := by simpa [gx_lok, gx_len] using hlen
    subst e1
    obtain ⟨⟨x, r⟩, h1, h2⟩ := Option.map_eq_some_iff.mp h
    have h5 := gx_a1_e h1
    subst h5
    cases h2
    exact lv_i2l hx hb hd rfl (kk _ hl)
  | l2i =>
    have e1 : len = 1 := by simpa [gx_lok, gx_len] using hlen
    subst e1
    obtain ⟨⟨x, r⟩, h1, h2⟩ := Option.map_eq_some_iff.mp h
    have h5 := gx_b1_e h1
    subst h5
    cases h2
    exact lv_l2i hx hb hd rfl (kk _ hl)
  | lcmp =>
    have e1 : len = 1 := by simpa [gx_lok, gx_len] using hlen
    subst e1
    obtain ⟨⟨y, x, r⟩, h1, h2⟩ := Option.map_eq_some_iff.mp h
    have h5 := gx_b2_e h1
    subst h5
    cases h2
    exact W.lcmp hx hb hd (kk _ hl)
  | dup =>
    have e1 : len = 1 := by simpa [gx_lok, gx_len] using hlen
    subst e1
    simp only [gx_p] at h
    split at h
    · split at h
      · rename_i hn
        cases h
        exact lv_dup hx hb hd ((gx_v_cat ba b _).trans hn) (kk _ hl)
      · cases h
    · cases h
  | pop =>
    have e1 : len = 1 := by simpa [gx_lok, gx_len] using hlen
    subst e1
    simp only [gx_p] at h
    split at h
    · split at h
      · rename_i hn
        cases h
        exact lv_pop hx hb hd ((gx_v_cat ba b _).trans hn) (kk _ hl)
      · cases h
    · cases h
  | dup_x1 =>
    have e1 : len = 1 := by simpa [gx_lok, gx_len] using hlen
    subst e1
    simp only [gx_p] at h
    split at h
    · split at h
      · rename_i hn
        cases h
        exact lv_dup_x1 hx hb hd ((gx_v_cat ba b _).trans hn.1) ((gx_v_cat ba b _).trans hn.2) (kk _ hl)
      · cases h
    · cases h
  | dup2 =>
    have e1 : len = 1 := by simpa [gx_lok, gx_len] using hlen
    subst e1
    simp only [gx_p] at h
    split at h
    · split at h
      · rename_i hn
        cases h
        exact lv_dup2_11 hx hb hd ((gx_v_cat ba b _).trans hn.1) ((gx_v_cat ba b _).trans hn.2) (kk _ hl)
      · cases h
    · cases h
  | ifCond cn off =>
    have e1 : len = 3 := by simpa [gx_lok, gx_len] using hlen
    subst e1
    obtain ⟨⟨x, r⟩, h1, h2⟩ := Option.bind_eq_some_iff.mp h
    have h5 := gx_a1_e h1
    subst h5
    obtain ⟨t, h3, h4⟩ := Option.map_eq_some_iff.mp h2
    have ht := gx_j_e h3
    by_cases hc : gx_c1 cn x = true
    · rw [if_pos hc] at h4
      cases h4
      cases cn with
      | eq => exact lv_if_eq hx hb hd ht (fun _ => kk _ hl) (fun hn => absurd (of_decide_eq_true hc) hn)
      | ne => exact lv_if_ne hx hb hd ht (fun _ => kk _ hl) (fun hn => absurd hn (of_decide_eq_true hc))
      | lt => exact lv_if_lt hx hb hd ht (fun _ => kk _ hl) (fun hn => absurd (of_decide_eq_true hc) hn)
      | ge => exact lv_if_ge hx hb hd ht (fun _ => kk _ hl) (fun hn => absurd (of_decide_eq_true hc) hn)
      | gt => exact lv_if_gt hx hb hd ht (fun _ => kk _ hl) (fun hn => absurd (of_decide_eq_true hc) hn)
      | le => exact lv_if_le hx hb hd ht (fun _ => kk _ hl) (fun hn => absurd (of_decide_eq_true hc) hn)
    · rw [if_neg hc] at h4
      cases h4
      cases cn with
      | eq => exact lv_if_eq hx hb hd ht (fun hn => absurd (decide_eq_true hn) hc) (fun _ => kk _ hl)
      | ne => exact lv_if_ne hx hb hd ht (fun hn => absurd (decide_eq_true hn) hc) (fun _ => kk _ hl)
      | lt => exact lv_if_lt hx hb hd ht (fun hn => absurd (decide_eq_true hn) hc) (fun _ => kk _ hl)
      | ge => exact lv_if_ge hx hb hd ht (fun hn => absurd (decide_eq_true hn) hc) (fun _ => kk _ hl)
      | gt => exact lv_if_gt hx hb hd ht (fun hn => absurd (decide_eq_true hn) hc) (fun _ => kk _ hl)
      | le => exact lv_if_le hx hb hd ht (fun hn => absurd (decide_eq_true hn) hc) (fun _ => kk _ hl)
  | if_icmp cn off =>
    have e1 : len = 3 := by simpa [gx_lok, gx_len] using hlen
    subst e1
    obtain ⟨⟨y, x, r⟩, h1, h2⟩ := Option.bind_eq_some_iff.mp h
    have h5 := gx_a2_e h1
    subst h5
    obtain ⟨t, h3, h4⟩ := Option.map_eq_some_iff.mp h2
    have ht := gx_j_e h3
    by_cases hc : gx_c2 cn x y = true
    · rw [if_pos hc] at h4
      cases h4
      cases cn with
      | eq => exact lv_icmp_eq hx hb hd ht (fun _ => kk _ hl) (fun hn => absurd (of_decide_eq_true hc) hn)
      | ne => exact lv_icmp_ne hx hb hd ht (fun _ => kk _ hl) (fun hn => absurd hn (of_decide_eq_true hc))
      | lt => exact lv_icmp_lt hx hb hd ht (fun _ => kk _ hl) (fun hn => absurd (of_decide_eq_true hc) hn)
      | ge => exact lv_icmp_ge hx hb hd ht (fun _ => kk _ hl) (fun hn => absurd (of_decide_eq_true hc) hn)
      | gt => exact lv_icmp_gt hx hb hd ht (fun _ => kk _ hl) (fun hn => absurd (of_decide_eq_true hc) hn)
      | le => exact lv_icmp_le hx hb hd ht (fun _ => kk _ hl) (fun hn => absurd (of_decide_eq_true hc) hn)
    · rw [if_neg hc] at h4
      cases h4
      cases cn with
      | eq => exact lv_icmp_eq hx hb hd ht (fun hn => absurd (decide_eq_true hn) hc) (fun _ => kk _ hl)
      | ne => exact lv_icmp_ne hx hb hd ht (fun hn => absurd (decide_eq_true hn) hc) (fun _ => kk _ hl)
      | lt => exact lv_icmp_lt hx hb hd ht (fun hn => absurd (decide_eq_true hn) hc) (fun _ => kk _ hl)
      | ge => exact lv_icmp_ge hx hb hd ht (fun hn => absurd (decide_eq_true hn) hc) (fun _ => kk _ hl)
      | gt => exact lv_icmp_gt hx hb hd ht (fun hn => absurd (decide_eq_true hn) hc) (fun _ => kk _ hl)
      | le => exact lv_icmp_le hx hb hd ht (fun hn => absurd (decide_eq_true hn) hc) (fun _ => kk _ hl)
  | ifnull off =>
    have e1 : len = 3 := by simpa [gx_lok, gx_len] using hlen
    subst e1
    simp only [gx_p] at h
    split at h
    · cases h
      exact lv_ifnull hx hb hd (kk _ hl)
    · obtain ⟨t, h3, h4⟩ := Option.map_eq_some_iff.mp h
      cases h4
      exact lv_ifnullN hx hb hd (gx_j_e h3) (kk _ hl)
    · cases h
  | ifnonnull off =>
    have e1 : len = 3 := by simpa [gx_lok, gx_len] using hlen
    subst e1
    simp only [gx_p] at h
    split at h
    · obtain ⟨t, h3, h4⟩ := Option.map_eq_some_iff.mp h
      cases h4
      exact lv_ifnonnull hx hb hd (gx_j_e h3) (kk _ hl)
    · cases h
      exact lv_ifnonnullN hx hb hd (kk _ hl)
    · cases h
  | goto off =>
    have e1 : len = 3 := by simpa [gx_lok, gx_len] using hlen
    subst e1
    obtain ⟨t, h3, h4⟩ := Option.map_eq_some_iff.mp h
    cases h4
    exact lv_goto hx hb hd (gx_j_e h3) (kk _ hl)
  | tableswitch d lo hi offs =>
    obtain ⟨⟨x, r⟩, h1, h2⟩ := Option.bind_eq_some_iff.mp h
    have h5 := gx_a1_e h1
    subst h5
    obtain ⟨off, h6, h7⟩ := Option.bind_eq_some_iff.mp h2
    obtain ⟨t, h3, h4⟩ := Option.map_eq_some_iff.mp h7
    cases h4
    have ht := gx_j_e h3
    unfold gx_tab at h6
    split at h6
    · rename_i c1
      cases h6
      exact lv_tableOut hx hb hd (Or.inl c1) ht (kk _ hl)
    · rename_i c1
      split at h6
      · rename_i c2
        cases h6
        exact lv_tableOut hx hb hd (Or.inr c2) ht (kk _ hl)
      · rename_i c2
        exact lv_tableIn hx hb hd c1 c2 h6 ht (kk _ hl)
  | lookupswitch d ps =>
    obtain ⟨⟨x, r⟩, h1, h2⟩ := Option.bind_eq_some_iff.mp h
    have h5 := gx_a1_e h1
    subst h5
    split at h2
    · rename_i hc
      obtain ⟨t, h3, h4⟩ := Option.map_eq_some_iff.mp h2
      cases h4
      exact lv_lookup hx hb hd hc rfl (gx_j_e h3) (kk _ hl)
    · cases h2
  | _ => cases h
end GXP
end
section
/-! what a heap of the small machine says of the machine's own -/
def gx_ty : Nat → FieldType
  | 0 => .int
  | 1 => .long
  | 2 => .boolean
  | 3 => .object gx_elem
  | _ => .array .int
/-- the array classes' numbers -/
def gx_AK (U : State) (aC : Nat → ClassId) : Prop := ∀ t, t < 5 → ∃ (k : Class) (comp : ClassId), U.vm.classes[aC t]? = some k ∧ k.kind = .array comp (gx_ty t) ∧ U.vm.findClass ("[" ++ (gx_ty t).toString) = some (aC t) ∧ (t = 3 → U.vm.findClass gx_elem = some comp)
/-- the classes' numbers and their fields' slots -/
def gx_KN (U : State) (D : va_G) : Prop := ∀ (ci : Nat) (q : vw_C), gx_cl[ci]? = some q → u_Kn U q.1 q.2.1 q.2.2 (D.1 ci) (D.2 ci)
def gx_at (D : va_G) (aC : Nat → ClassId) (ba b a : Nat) (c : gx_C) (H : Heap) : Prop :=
  if c.1 < 100 then ∃ r : vw_C, gx_cl[c.1]? = some r ∧ r.2.2 = c.2.length ∧ t_OB a (D.1 c.1) r.2.2 (D.2 c.1) H (fun k => gx_v ba b (vp_V c.2 k))
  else ∃ cell : Cell, H[a]? = some cell ∧ cell.cls = aC (c.1 - 100) ∧ cell.vm = .none ∧ cell.slots = (gx_t ba b c.2).toArray
def gx_rel (D : va_G) (aC : Nat → ClassId) (ba b : Nat) (h : gx_H) (H : Heap) : Prop := H.size = ba + h.length ∧ ∀ (k : Nat) (c : gx_C), h[k]? = some c → gx_at D aC ba b (ba + k) c H
/-- the law's script -/
def gx_X (b : Nat) (xs : List Int32) (U : State) (H : Heap) : Prop := ∃ scr : Cell, H[b]? = some scr ∧ U.isArrayOf scr .int ∧ scr.vm ≠ .unknown ∧ scr.slots.size = xs.length ∧ ∀ (j : Nat) (x : Int32), xs[j]? = some x → scr.slots[j]? = some (.int x)
theorem gx_at.kept {D : va_G} {aC : Nat → ClassId} {ba b a : Nat} {c : gx_C} {H H1 : Heap} (h : gx_at D aC ba b a c H) (e : H1[a]? = H[a]?) : gx_at D aC ba b a c H1 := by
  unfold gx_at at h ⊢
  split at h
  · rename_i hc
    rw [if_pos hc]
    obtain ⟨r, h1, h2, h3⟩ := h
    exact ⟨r, h1, h2, h3.kept e⟩
  · rename_i hc
    rw [if_neg hc]
    obtain ⟨cell, h1, h2⟩ := h
    exact ⟨cell, e.trans h1, h2⟩
theorem gx_at.obj {D : va_G} {aC : Nat → ClassId} {ba b a ci : Nat} {fs : List Value} {H : Heap} (h : gx_at D aC ba b a (ci, fs) H) (hc : ci < 100) : ∃ r : vw_C, gx_cl[ci]? = some r ∧ r.2.2 = fs.length ∧ t_OB a (D.1 ci) r.2.2 (D.2 ci) H (fun k => gx_v ba b (vp_V fs k)) := by
  unfold gx_at at h
  rw [if_pos hc] at h
  exact h
theorem gx_at.arr {D : va_G} {aC : Nat → ClassId} {ba b a t : Nat} {vs : List Value} {H : Heap} (h : gx_at D aC ba b a (100 + t, vs) H) : ∃ cell : Cell, H[a]? = some cell ∧ cell.cls = aC t ∧ cell.vm = .none ∧ cell.slots = (gx_t ba b vs).toArray := by
  unfold gx_at at h
  rw [if_neg (show ¬ (100 + t) < 100 by omega)] at h
  obtain ⟨cell, h1, h2, h3⟩ := h
  exact ⟨cell, h1, by rw [h2]; congr 1; show 100 + t - 100 = t; omega, h3⟩
/-- a cell of the small machine is no cell of statics -/
theorem gx_at.vm {D : va_G} {aC : Nat → ClassId} {ba b a : Nat} {c : gx_C} {H : Heap} (h : gx_at D aC ba b a c H) : ∃ cell : Cell, H[a]? = some cell ∧ cell.vm = .none := by
  unfold gx_at at h
  split at h
  · obtain ⟨r, -, -, cell, h1, -, h3, -⟩ := h
    exact ⟨cell, h1, h3⟩
  · obtain ⟨cell, h1, -, h3, -⟩ := h
    exact ⟨cell, h1, h3⟩
theorem gx_size {ba b : Nat} {vs : List Value} {cell : Cell} (h : cell.slots = (gx_t ba b vs).toArray) : cell.slots.size = vs.length := by
  rw [h]; simp [gx_t]
theorem gx_slot {ba b : Nat} {vs : List Value} {cell : Cell} (h : cell.slots = (gx_t ba b vs).toArray) {i : Nat} {v : Value} (hv : vs[i]? = some v) : cell.slots[i]? = some (gx_v ba b v) := by
  rw [h]; simp [gx_t, hv]
theorem gx_arrOf {s : State} {aC : Nat → ClassId} (hA : gx_AK s aC) {t : Nat} (ht : t < 5) {cell : Cell} (h1 : cell.cls = aC t) (h2 : cell.vm = .none) : s.isArrayOf cell (gx_ty t) := by
  obtain ⟨k, comp, q1, q2, -⟩ := hA t ht
  exact ⟨fun z hz => (by rw [h2] at hz; cases hz), k, (by rw [h1]; exact q1), comp, q2⟩
theorem gx_known {cell : Cell} (h : cell.vm = .none) : cell.vm ≠ .unknown := by rw [h]; intro q; cases q
/-- one cell changes, no other does -/
theorem gx_rel.set {D : va_G} {aC : Nat → ClassId} {ba b : Nat} {h : gx_H} {H H1 : Heap} {k : Nat} {c : gx_C} (hr : gx_rel D aC ba b h H) (hs : H1.size = H.size) (ho : ∀ q, q ≠ ba + k → H1[q]? = H[q]?) (hc : gx_at D aC ba b (ba + k) c H1) : gx_rel D aC ba b (h.set k c) H1 := by
  refine ⟨by rw [hs, hr.1, List.length_set], fun j d hj => ?_⟩
  by_cases e : k = j
  · subst e
    rw [List.getElem?_set] at hj
    simp only [if_true] at hj
    split at hj
    · cases hj; exact hc
    · cases hj
  · rw [List.getElem?_set_ne e] at hj
    exact (hr.2 j d hj).kept (ho _ (by omega))
/-- a cell is made -/
theorem gx_rel.push {D : va_G} {aC : Nat → ClassId} {ba b : Nat} {h : gx_H} {H H1 : Heap} {c : gx_C} (hr : gx_rel D aC ba b h H) (hs : H1.size = H.size + 1) (ho : ∀ q, q < H.size → H1[q]? = H[q]?) (hc : gx_at D aC ba b H.size c H1) : gx_rel D aC ba b (h ++ [c]) H1 := by
  refine ⟨by rw [hs, hr.1]; simp; omega, fun j d hj => ?_⟩
  by_cases e : j < h.length
  · rw [List.getElem?_append_left e] at hj
    exact (hr.2 j d hj).kept (ho _ (by rw [hr.1]; omega))
  · rw [List.getElem?_append_right (by omega)] at hj
    have e2 : j - h.length = 0 := by
      rcases Nat.eq_zero_or_pos (j - h.length) with q | q
      · exact q
      · rw [List.getElem?_cons] at hj
        rw [if_neg (by omega)] at hj
        cases hj
    rw [e2] at hj
    cases hj
    have e3 : ba + j = H.size := by rw [hr.1]; omega
    rw [e3]
    exact hc
theorem gx_F_w {o idx ci k : Nat} (h : gx_F o idx = some (ci, k)) {r : vw_C} (hr : gx_cl[ci]? = some r) : Jvm.Cond.fieldLink (gx_o o) idx (r.2.1 k).1 (r.2.1 k).2.1 (r.2.1 k).2.2.1 ∈ gx_words := by
  refine gx_wF (List.mem_map.mpr ⟨_, gx_find h, ?_⟩)
  simp [gx_fw, hr]
section GXQ
variable {p : Program} {l : Launch} {e : Env} {R : Room} {s : State} {m : MethodId} {args : Array Value} {below : List Frame} {meth : Method} {c : Code} {H : Heap} {locs : List Loc} {cells slots : Nat} {Q : State → Prop}
variable {cc : ByteArray} {ls : Array Slot} {D : va_G} {aC : Nat → ClassId} {ba b : Nat} {h0 : gx_H}
theorem gx_inb {j : Int32} {n k : Nat} (h1 : ¬ j < 0) (h2 : j.toNatClampNeg < n) (h3 : k = n) : ¬ (j < 0 ∨ k ≤ j.toNatClampNeg) := by
  rintro (q | q)
  · exact h1 q
  · omega
theorem gx_ilt {vs : List Value} {i : Nat} {v : Value} (h : vs[i]? = some v) : i < vs.length := by
  rcases Nat.lt_or_ge i vs.length with q | q
  · exact q
  · rw [List.getElem?_eq_none q] at h; cases h
set_option maxHeartbeats 4000000 in
theorem gx_qW (hx : p.tables.exec = Jvm.exec) (hb : c.code = cc) {o nL : Nat} {xs : Option (List Int32)} (hown : s.vm.findClass (gx_o o) = some m.cls) (hw : ∀ w ∈ gx_words, w.before args s = true) (hK : gx_KN s D) (hA : gx_AK s aC) (hr : gx_rel D aC ba b h0 H) (hX : ∀ l, xs = some l → gx_X b l s H)
    {ins : Instr} {pc pc' : Nat} {L L' : gx_L} {st st' : List Value} (hd : ∃ len, decode cc pc = .ok (ins, len) ∧ gx_lok ins len = true) (hl : lv_has ls nL (gx_l ba b L)) (h : gx_q xs o h0 ins pc L st = some (pc', L', st'))
    (kk : ∀ ls' : Array Slot, lv_has ls' nL (gx_l ba b L') → W p l e R s m args below meth c H locs cells slots Q (F0 m pc' ls' (gx_t ba b st'))) :
    W p l e R s m args below meth c H locs cells slots Q (F0 m pc ls (gx_t ba b st)) := by
  obtain ⟨len, hd, hlen⟩ := hd
  cases ins with
  | getfield idx =>
    have e1 : len = 3 := by simpa [gx_lok, gx_len] using hlen
    subst e1
    obtain ⟨⟨a, r⟩, h1, h2⟩ := Option.bind_eq_some_iff.mp h
    have h5 := gx_r1_e h1
    subst h5
    obtain ⟨⟨ci, k⟩, h3, h4⟩ := Option.bind_eq_some_iff.mp h2
    obtain ⟨fs, h6, h7⟩ := Option.bind_eq_some_iff.mp h4
    obtain ⟨v, h8, h9⟩ := Option.map_eq_some_iff.mp h7
    cases h9
    have h10 := hr.2 _ _ (gx_ob_e h6)
    obtain ⟨r1, g1, g2, cell, q1, q2, q3, q4⟩ := h10.obj (gx_small h3)
    have hk : k < r1.2.2 := by rw [g2]; exact gx_ilt h8
    obtain ⟨hS, hfc, kC, hkC, hkind⟩ := hK ci _ g1
    obtain ⟨cf, kf, fi, f, hi, hsl⟩ := hS k hk
    refine W.getf hx hb hown (hw _ (gx_F_w h3 g1)) hi (u_facts hfc hkC (u_lays hw (gx_wC g1) hk) hi).1 q1 (gx_known q3) (v := gx_v ba b v) ?_ rfl rfl hd (kk _ hl)
    rw [hsl, q4 k hk]
    simp [vp_V, h8]
  | iaload =>
    have e1 : len = 1 := by simpa [gx_lok, gx_len] using hlen
    subst e1
    simp only [gx_q] at h
    split at h
    · rename_i q hq
      obtain ⟨i, a, r⟩ := q
      have h5 := gx_ar_e hq
      subst h5
      obtain ⟨x, h1, h2⟩ := Option.map_eq_some_iff.mp h
      obtain ⟨v, h3, h4⟩ := Option.bind_eq_some_iff.mp h1
      have h6 := gx_i1_e h4
      subst h6
      cases h2
      obtain ⟨vs, g1, g2, g3⟩ := gx_rd_e h3
      obtain ⟨cell, q1, q2, q3, q4⟩ := (hr.2 _ _ g1).arr (t := 0)
      exact W.iald hx hb q1 (gx_arrOf hA (t := 0) (by decide) q2 q3) (gx_known q3) (gx_inb g2 (gx_ilt g3) (gx_size q4)) (gx_slot q4 g3) rfl rfl hd (kk _ hl)
    · obtain ⟨⟨i, z, r⟩, h1, h2⟩ := Option.bind_eq_some_iff.mp h
      have h5 := gx_sc_e h1
      subst h5
      obtain ⟨lx, hlx, h2⟩ := Option.bind_eq_some_iff.mp h2
      dsimp only at h2
      split at h2
      · cases h2
      · rename_i hn
        obtain ⟨x, h3, h4⟩ := Option.map_eq_some_iff.mp h2
        cases h4
        obtain ⟨scr, q1, q2, q3, q4, q5⟩ := hX lx hlx
        have hlt : i.toNatClampNeg < lx.length := by
          rcases Nat.lt_or_ge i.toNatClampNeg lx.length with q | q
          · exact q
          · rw [List.getElem?_eq_none q] at h3; cases h3
        exact W.iald hx hb q1 q2 q3 (gx_inb hn hlt q4) (q5 _ _ h3) rfl rfl hd (kk _ hl)
  | laload =>
    have e1 : len = 1 := by simpa [gx_lok, gx_len] using hlen
    subst e1
    obtain ⟨⟨i, a, r⟩, h0', h0''⟩ := Option.bind_eq_some_iff.mp h
    have h5 := gx_ar_e h0'
    subst h5
    obtain ⟨x, h1, h2⟩ := Option.map_eq_some_iff.mp h0''
    obtain ⟨v, h3, h4⟩ := Option.bind_eq_some_iff.mp h1
    have h6 := gx_l1_e h4
    subst h6
    cases h2
    obtain ⟨vs, g1, g2, g3⟩ := gx_rd_e h3
    obtain ⟨cell, q1, q2, q3, q4⟩ := (hr.2 _ _ g1).arr (t := 1)
    exact W.lald hx hb q1 (gx_arrOf hA (t := 1) (by decide) q2 q3) (gx_known q3) (gx_inb g2 (gx_ilt g3) (gx_size q4)) (gx_slot q4 g3) rfl rfl hd (kk _ hl)
  | baload =>
    have e1 : len = 1 := by simpa [gx_lok, gx_len] using hlen
    subst e1
    obtain ⟨⟨i, a, r⟩, h0', h0''⟩ := Option.bind_eq_some_iff.mp h
    have h5 := gx_ar_e h0'
    subst h5
    obtain ⟨x, h1, h2⟩ := Option.map_eq_some_iff.mp h0''
    obtain ⟨v, h3, h4⟩ := Option.bind_eq_some_iff.mp h1
    have h6 := gx_i1_e h4
    subst h6
    cases h2
    obtain ⟨vs, g1, g2, g3⟩ := gx_rd_e h3
    obtain ⟨cell, q1, q2, q3, q4⟩ := (hr.2 _ _ g1).arr (t := 2)
    exact W.zald hx hb q1 (gx_arrOf hA (t := 2) (by decide) q2 q3) (gx_known q3) (gx_inb g2 (gx_ilt g3) (gx_size q4)) (gx_slot q4 g3) rfl rfl hd (kk _ hl)
  | aaload =>
    have e1 : len = 1 := by simpa [gx_lok, gx_len] using hlen
    subst e1
    obtain ⟨⟨i, a, r⟩, h0', h0''⟩ := Option.bind_eq_some_iff.mp h
    have h5 := gx_ar_e h0'
    subst h5
    dsimp only at h0''
    split at h0''
    · rename_i v h3
      split at h0''
      · cases h0''
        obtain ⟨vs, g1, g2, g3⟩ := gx_rd_e h3
        obtain ⟨cell, q1, q2, q3, q4⟩ := (hr.2 _ _ g1).arr (t := 3)
        exact W.aald hx hb q1 (gx_arrOf hA (t := 3) (by decide) q2 q3) rfl (gx_known q3) (gx_inb g2 (gx_ilt g3) (gx_size q4)) (gx_slot q4 g3) rfl rfl hd (kk _ hl)
      · cases h0''
    · obtain ⟨v, h3, h4⟩ := Option.bind_eq_some_iff.mp h0''
      split at h4
      · cases h4
        obtain ⟨vs, g1, g2, g3⟩ := gx_rd_e h3
        obtain ⟨cell, q1, q2, q3, q4⟩ := (hr.2 _ _ g1).arr (t := 4)
        exact W.aald hx hb q1 (gx_arrOf hA (t := 4) (by decide) q2 q3) rfl (gx_known q3) (gx_inb g2 (gx_ilt g3) (gx_size q4)) (gx_slot q4 g3) rfl rfl hd (kk _ hl)
      · cases h4
  | arraylength =>
    have e1 : len = 1 := by simpa [gx_lok, gx_len] using hlen
    subst e1
    simp only [gx_q] at h
    split at h
    · obtain ⟨lx, hlx, h2⟩ := Option.map_eq_some_iff.mp h
      cases h2
      obtain ⟨scr, q1, q2, q3, q4, q5⟩ := hX lx hlx
      exact W.alen hx hb q1 q2 (by rw [q4]) rfl rfl hd (kk _ hl)
    · cases h
  | _ => cases h
end GXQ
end
section
/-! what is written -/
def gx_fok (ini : Bool) (o ci k : Nat) (v : Value) : Bool := match gx_cl[ci]? with
  | some r => decide (narrow (gx_fty ci k) v = v) && (fits (gx_fty ci k) v && (!gx_fl v && (!(r.2.1 k).2.2.2 || (ini && decide ((r.2.1 k).1 = gx_o o)))))
  | none => false
def gx_wr (h : gx_H) (a t : Nat) (i : Int32) (v : Value) : Option gx_H := match h[a]? with
  | some q => if q.1 = t ∧ ¬ i < 0 ∧ i.toNatClampNeg < q.2.length then some (h.set a (t, q.2.set i.toNatClampNeg v)) else none
  | none => none
theorem gx_wr_e {h h' : gx_H} {a t : Nat} {i : Int32} {v : Value} (e : gx_wr h a t i v = some h') : ∃ vs, h[a]? = some (t, vs) ∧ ¬ i < 0 ∧ i.toNatClampNeg < vs.length ∧ h' = h.set a (t, vs.set i.toNatClampNeg v) := by
  unfold gx_wr at e
  split at e
  · rename_i q hq
    obtain ⟨t', vs⟩ := q
    split at e
    · rename_i cnd
      obtain ⟨c1, c2, c3⟩ := cnd
      cases c1
      cases e
      exact ⟨vs, hq, c2, c3, rfl⟩
    · cases e
  · cases e
abbrev gx_S : Type := Option (Nat × List Value × gx_H)
def gx_w (o : Nat) (ini : Bool) (h : gx_H) (ins : Instr) (pc : Nat) (st : List Value) : gx_S := match ins with
  | .putfield idx => match st with
    | v :: .ref a :: r => (gx_F o idx).bind fun f => (gx_ob h a f.1).bind fun fs => if gx_fok ini o f.1 f.2 v = true ∧ f.2 < fs.length then some (pc + 3, r, h.set a (f.1, fs.set f.2 v)) else none
    | _ => none
  | .iastore => match st with
    | .int x :: .int i :: .ref a :: r => (gx_wr h a 100 i (.int x)).map fun h' => (pc + 1, r, h')
    | _ => none
  | .lastore => match st with
    | .long x :: .int i :: .ref a :: r => (gx_wr h a 101 i (.long x)).map fun h' => (pc + 1, r, h')
    | _ => none
  | .bastore => match st with
    | .int x :: .int i :: .ref a :: r => (gx_wr h a 102 i (.int (x &&& 1))).map fun h' => (pc + 1, r, h')
    | _ => none
  | .aastore => match st with
    | .ref v :: .int i :: .ref a :: r => (gx_ob h v gx_ei).bind fun _ => (gx_wr h a 103 i (.ref v)).map fun h' => (pc + 1, r, h')
    | _ => none
  | _ => none
theorem gx_v_narrow {ty : FieldType} {ba b : Nat} {v : Value} (h : narrow ty v = v) (hf : gx_fl v = false) : narrow ty (gx_v ba b v) = gx_v ba b v := by
  cases v with
  | ref a => cases ty <;> rfl
  | float a => cases hf
  | _ => exact h
theorem gx_v_fits {ty : FieldType} {ba b : Nat} {v : Value} (h : fits ty v = true) (hf : gx_fl v = false) : fits ty (gx_v ba b v) = true := by
  cases v with
  | ref a => cases ty <;> first | rfl | exact h
  | float a => cases hf
  | _ => exact h
theorem gx_setSlot {ba b : Nat} {vs : List Value} {cell : Cell} (h : cell.slots = (gx_t ba b vs).toArray) (i : Nat) (v : Value) : (cell.setSlot i (gx_v ba b v)).slots = (gx_t ba b (vs.set i v)).toArray := by
  simp [Cell.setSlot, h, gx_t, List.map_set]
theorem gx_arrAt {D : va_G} {aC : Nat → ClassId} {ba b a t i : Nat} {vs : List Value} {v : Value} {cell : Cell} {H1 : Heap} (e1 : H1[a]? = some (cell.setSlot i (gx_v ba b v))) (q2 : cell.cls = aC t) (q3 : cell.vm = .none) (q4 : cell.slots = (gx_t ba b vs).toArray) : gx_at D aC ba b a (100 + t, vs.set i v) H1 := by
  unfold gx_at
  rw [if_neg (show ¬ (100 + t) < 100 by omega)]
  exact ⟨_, e1, by show cell.cls = _; rw [q2]; congr 1; show t = 100 + t - 100; omega, q3, gx_setSlot q4 i v⟩
section GXW
variable {p : Program} {l : Launch} {e : Env} {R : Room} {s : State} {m : MethodId} {args : Array Value} {below : List Frame} {meth : Method} {c : Code} {H : Heap} {locs : List Loc} {cells slots : Nat} {Q : State → Prop}
variable {cc : ByteArray} {ls : Array Slot} {D : va_G} {aC : Nat → ClassId} {ba b : Nat} {h0 : gx_H}
theorem gx_ne {q ba a : Nat} (h : q < ba) : q ≠ ba + a := by omega
theorem gx_lo1 {ba a i : Nat} {locs : List Loc} (h : ∀ q ∈ locs, ba ≤ q.base) : ∀ q ∈ locs ++ [(⟨ba + a, i⟩ : Loc)], ba ≤ q.base := by
  intro q hq
  rcases List.mem_append.mp hq with g | g
  · exact h q g
  · rw [List.mem_singleton] at g
    subst g
    exact Nat.le_add_right _ _
set_option maxHeartbeats 4000000 in
theorem gx_wW (hx : p.tables.exec = Jvm.exec) (hb : c.code = cc) {o : Nat} {ini : Bool} (hini : ini = true → meth.name = "<init>") (hown : s.vm.findClass (gx_o o) = some m.cls) (hw : ∀ w ∈ gx_words, w.before args s = true) (hK : gx_KN s D) (hA : gx_AK s aC) (hr : gx_rel D aC ba b h0 H) (hlo : ∀ q ∈ locs, ba ≤ q.base)
    {ins : Instr} {pc pc' : Nat} {st st' : List Value} {h1 : gx_H} (hd : ∃ len, decode cc pc = .ok (ins, len) ∧ gx_lok ins len = true) (h : gx_w o ini h0 ins pc st = some (pc', st', h1))
    (kk : ∀ (H1 : Heap) (locs1 : List Loc), gx_rel D aC ba b h1 H1 → (∀ q ∈ locs1, ba ≤ q.base) → (∀ q, q < ba → H1[q]? = H[q]?) → W p l e R s m args below meth c H1 locs1 cells slots Q (F0 m pc' ls (gx_t ba b st'))) :
    W p l e R s m args below meth c H locs cells slots Q (F0 m pc ls (gx_t ba b st)) := by
  obtain ⟨len, hd, hlen⟩ := hd
  cases ins with
  | putfield idx =>
    have e1 : len = 3 := by simpa [gx_lok, gx_len] using hlen
    subst e1
    simp only [gx_w] at h
    split at h
    · rename_i v a r
      obtain ⟨⟨ci, k⟩, h3, h4⟩ := Option.bind_eq_some_iff.mp h
      obtain ⟨fs, h6, h7⟩ := Option.bind_eq_some_iff.mp h4
      split at h7
      · rename_i hc
        obtain ⟨hf, hlf⟩ := hc
        cases h7
        have hob := gx_ob_e h6
        obtain ⟨r1, g1, g2, cell, q1, q2, q3, q4⟩ := (hr.2 _ _ hob).obj (gx_small h3)
        have hk : k < r1.2.2 := by rw [g2]; exact hlf
        unfold gx_fok at hf
        simp only [g1] at hf
        simp only [Bool.and_eq_true, Bool.or_eq_true, decide_eq_true_eq] at hf
        obtain ⟨f1, f2, f3, f4⟩ := hf
        have f3 : gx_fl v = false := by simpa using f3
        have n1 := gx_v_narrow (ba := ba) (b := b) f1 f3
        have n2 := gx_v_fits (ba := ba) (b := b) f2 f3
        have hty := gx_ftyok ci r1 g1
        have hap := va_apart (own := gx_o o) hw (gx_wC g1) (gx_fty ci) hty (gx_nm ci r1 g1) (tys := []) ⟨hK, fun k q hq => by cases hq⟩ g1
        obtain ⟨hS, hfc, kC, hkC, hkind⟩ := hK ci _ g1
        obtain ⟨cf, kf, fi, f, hi, hsl⟩ := hS k hk
        have hst := (u_facts hfc hkC (u_lays hw (gx_wC g1) hk) hi).1
        have hin : u_lay r1.1 r1.2.1 k ∈ gx_words := gx_wC g1 _ (u_in_lay hk)
        have hlay := hw _ hin
        have fin : ∀ H' : Heap, H'[ba + a]? = some (cell.setSlot (D.2 ci k) (gx_v ba b v)) → H'.size = H.size → (∀ q, q ≠ ba + a → H'[q]? = H[q]?) → gx_rel D aC ba b (h0.set a (ci, fs.set k v)) H' := by
          intro H' e1 e2 e3
          refine hr.set e2 e3 ?_
          unfold gx_at
          rw [if_pos (gx_small h3)]
          refine ⟨r1, g1, by rw [g2]; simp, t_OB.to (V := updV (fun k => gx_v ba b (vp_V fs k)) k (gx_v ba b v)) ⟨_, e1, q2, q3, t_set q4 hap hk _⟩ (fun j _ => ?_)⟩
          by_cases hj : j = k
          · subst hj
            simp [updV, vp_V, hlf]
          · simp [updV, vp_V, hj, List.getD_eq_getElem?_getD, List.getElem?_set_ne (Ne.symm hj)]
        by_cases hfin : (r1.2.1 k).2.2.2 = true
        · have f5 : ini = true ∧ (r1.2.1 k).1 = gx_o o := by
            rcases f4 with q | q
            · rw [hfin] at q; cases q
            · exact q
          unfold u_lay at hlay
          rw [if_pos hfin] at hlay
          have hcf : m.cls = cf := by
            obtain ⟨_, _, c', _, _, _, -, -, hf', -, -, -, hown2, -⟩ := Cond.laysFinal_spec hlay
            have e1 : c' = cf := by have := hi.symm.trans hf'; simp at this; exact this.1.symm
            rw [f5.2] at hown2
            rw [← e1]; exact Option.some.inj (hown.symm.trans hown2)
          have h6 := u_fits hfc hkC hkind (Or.inr hlay) hi (hty k hk) n1 n2
          refine W.putFinK hx hb hown (hw _ (gx_F_w h3 g1)) hi hst hcf (hini f5.1) (by rw [q2]; exact h6) q1 q3 (by rw [hsl]; exact k2_hasslot (q4 k hk)) rfl rfl hd fun H' e1 e2 e3 => ?_
          rw [hsl] at e1 ⊢
          exact kk H' _ (fin H' e1 e2 e3) (gx_lo1 hlo) (fun q hq => e3 q (gx_ne hq))
        · have hfin : (r1.2.1 k).2.2.2 = false := by simpa using hfin
          unfold u_lay at hlay
          rw [if_neg (by rw [hfin]; decide)] at hlay
          have h6 := u_store hfc hkC hkind hlay hi (hty k hk) n1 n2
          refine W.putK hx hb (f := f) ⟨hown, hw _ (gx_F_w h3 g1), ⟨_, _, _, hi⟩, hst⟩ (by rw [q2]; exact h6) q1 q3 (by rw [hsl]; exact k2_hasslot (q4 k hk)) rfl rfl hd fun H' e1 e2 e3 => ?_
          rw [hsl] at e1 ⊢
          exact kk H' _ (fin H' e1 e2 e3) (gx_lo1 hlo) (fun q hq => e3 q (gx_ne hq))
      · cases h7
    · cases h
  | iastore =>
    have e1 : len = 1 := by simpa [gx_lok, gx_len] using hlen
    subst e1
    simp only [gx_w] at h
    split at h
    · obtain ⟨h2, h3, h4⟩ := Option.map_eq_some_iff.mp h
      cases h4
      obtain ⟨vs, g1, g2, g3, rfl⟩ := gx_wr_e h3
      obtain ⟨cell, q1, q2, q3, q4⟩ := (hr.2 _ _ g1).arr (t := 0)
      refine W.iast hx hb q1 (gx_arrOf hA (t := 0) (by decide) q2 q3) (gx_known q3) (gx_inb g2 g3 (gx_size q4)) rfl rfl hd fun H' e1 e2 e3 => ?_
      exact kk H' _ (hr.set e2 e3 (gx_arrAt (v := .int _) e1 q2 q3 q4)) (gx_lo1 hlo) (fun q hq => e3 q (gx_ne hq))
    · cases h
  | lastore =>
    have e1 : len = 1 := by simpa [gx_lok, gx_len] using hlen
    subst e1
    simp only [gx_w] at h
    split at h
    · obtain ⟨h2, h3, h4⟩ := Option.map_eq_some_iff.mp h
      cases h4
      obtain ⟨vs, g1, g2, g3, rfl⟩ := gx_wr_e h3
      obtain ⟨cell, q1, q2, q3, q4⟩ := (hr.2 _ _ g1).arr (t := 1)
      refine W.last hx hb q1 (gx_arrOf hA (t := 1) (by decide) q2 q3) (gx_known q3) (gx_inb g2 g3 (gx_size q4)) rfl rfl hd fun H' e1 e2 e3 => ?_
      exact kk H' _ (hr.set e2 e3 (gx_arrAt (v := .long _) e1 q2 q3 q4)) (gx_lo1 hlo) (fun q hq => e3 q (gx_ne hq))
    · cases h
  | bastore =>
    have e1 : len = 1 := by simpa [gx_lok, gx_len] using hlen
    subst e1
    simp only [gx_w] at h
    split at h
    · obtain ⟨h2, h3, h4⟩ := Option.map_eq_some_iff.mp h
      cases h4
      obtain ⟨vs, g1, g2, g3, rfl⟩ := gx_wr_e h3
      obtain ⟨cell, q1, q2, q3, q4⟩ := (hr.2 _ _ g1).arr (t := 2)
      refine W.zast hx hb q1 (gx_arrOf hA (t := 2) (by decide) q2 q3) (gx_known q3) (gx_inb g2 g3 (gx_size q4)) rfl rfl hd fun H' e1 e2 e3 => ?_
      exact kk H' _ (hr.set e2 e3 (gx_arrAt (v := .int _) e1 q2 q3 q4)) (gx_lo1 hlo) (fun q hq => e3 q (gx_ne hq))
    · cases h
  | aastore =>
    have e1 : len = 1 := by simpa [gx_lok, gx_len] using hlen
    subst e1
    simp only [gx_w] at h
    split at h
    · obtain ⟨fv, h5, h6⟩ := Option.bind_eq_some_iff.mp h
      obtain ⟨h2, h3, h4⟩ := Option.map_eq_some_iff.mp h6
      cases h4
      obtain ⟨vs, g1, g2, g3, rfl⟩ := gx_wr_e h3
      obtain ⟨cell, q1, q2, q3, q4⟩ := (hr.2 _ _ g1).arr (t := 3)
      obtain ⟨r1, w1, w2, cellV, v1, v2, v3, -⟩ := (hr.2 _ _ (gx_ob_e h5)).obj gx_ei_lt
      have hcls := (hK gx_ei r1 w1).2
      have hnm := gx_ei_nm w1
      obtain ⟨kA, comp, k1, k2, -, k3⟩ := hA 3 (by decide)
      have hcomp : comp = D.1 gx_ei := Option.some.inj ((k3 rfl).symm.trans (by rw [← hnm]; exact hcls.1))
      subst hcomp
      obtain ⟨kC, hkC, -⟩ := hcls.2
      refine W.aast hx hb q1 (fun q h => by rw [q3] at h; cases h) (gx_known q3) (by rw [q2]; exact k1) k2 rfl hkC ⟨g2, by rw [gx_size q4]; exact g3⟩ v1 (fun q h => by rw [v3] at h; cases h) (by rw [v2]; exact hkC) (by rw [v2]; exact va_assign hcls) rfl rfl hd fun H' e1 e2 e3 => ?_
      exact kk H' _ (hr.set e2 e3 (gx_arrAt (v := .ref _) e1 q2 q3 q4)) (gx_lo1 hlo) (fun q hq => e3 q (gx_ne hq))
    · cases h
  | _ => cases h
end GXW
end
section
/-! what is made -/
def gx_dv (ci : Nat) : List Value := match gx_cl[ci]? with
  | some r => (List.range r.2.2).map (fun k => defaultValue (gx_fty ci k))
  | none => []
def gx_tag : ArrayType → Option Nat
  | .int => some 0
  | .long => some 1
  | .boolean => some 2
  | _ => none
def gx_ct (o idx : Nat) : Option Nat := (gx_CT.find? (fun q => q.1 == o && q.2.1 == idx)).map (fun q => q.2.2)
/-- behind it: pc, stack, heap, how many cells and slots more -/
abbrev gx_M : Type := Option (Nat × List Value × gx_H × Nat × Nat)
def gx_n (o : Nat) (h : gx_H) (ins : Instr) (pc : Nat) (st : List Value) : gx_M := match ins with
  | .new idx => (gx_ct o idx).bind fun ci => if ci < 100 then some (pc + 3, .ref h.length :: st, h ++ [(ci, gx_dv ci)], 1, (gx_dv ci).length) else none
  | .newarray at' => (gx_a1 st).bind fun q => (gx_tag at').bind fun t => if q.1 < 0 ∨ 100000 < q.1.toNatClampNeg then none else some (pc + 2, .ref h.length :: q.2, h ++ [(100 + t, List.replicate q.1.toNatClampNeg (defaultValue (gx_ty t)))], 1, q.1.toNatClampNeg)
  | .anewarray idx => (gx_a1 st).bind fun q => (gx_ct o idx).bind fun ci => if ci ≠ gx_ei ∨ q.1 < 0 ∨ 100000 < q.1.toNatClampNeg then none else some (pc + 3, .ref h.length :: q.2, h ++ [(103, List.replicate q.1.toNatClampNeg .null)], 1, q.1.toNatClampNeg)
  | _ => none
theorem gx_ct_w {o idx ci : Nat} (h : gx_ct o idx = some ci) {r : vw_C} (hr : gx_cl[ci]? = some r) : Jvm.Cond.classLink (gx_o o) idx r.1 ∈ gx_words ∧ Jvm.Cond.instantiable r.1 r.2.2 ∈ gx_words ∧ Jvm.Cond.initialized r.1 ∈ gx_words := by
  have h1 := gx_find h
  refine ⟨gx_wN (List.mem_flatMap.mpr ⟨_, h1, ?_⟩), gx_wN (List.mem_flatMap.mpr ⟨_, h1, ?_⟩), gx_wN (List.mem_flatMap.mpr ⟨_, h1, ?_⟩)⟩ <;> simp [gx_nw, hr]
theorem gx_replicate {ba b n : Nat} {v : Value} (hv : gx_v ba b v = v) : (Array.replicate n v) = (gx_t ba b (List.replicate n v)).toArray := by
  simp [gx_t, hv]
theorem gx_arrNew {D : va_G} {aC : Nat → ClassId} {ba b a t n : Nat} {v : Value} {H1 : Heap} (hv : gx_v ba b v = v) (e : H1[a]? = some { cls := aC t, slots := Array.replicate n v, vm := .none }) : gx_at D aC ba b a (100 + t, List.replicate n v) H1 := by
  unfold gx_at
  rw [if_neg (show ¬ (100 + t) < 100 by omega)]
  exact ⟨_, e, by show aC t = _; congr 1; show t = 100 + t - 100; omega, rfl, gx_replicate hv⟩
section GXN
variable {p : Program} {l : Launch} {e : Env} {R : Room} {s : State} {m : MethodId} {args : Array Value} {below : List Frame} {meth : Method} {c : Code} {H : Heap} {locs : List Loc} {cells slots : Nat} {Q : State → Prop}
variable {cc : ByteArray} {ls : Array Slot} {D : va_G} {aC : Nat → ClassId} {ba b : Nat} {h0 : gx_H}
theorem gx_push_size {H : Heap} {x : Cell} : (H.push x).size = H.size + 1 := Array.size_push x
theorem gx_push_old {H : Heap} {x : Cell} (q : Nat) (hq : q < H.size) : (H.push x)[q]? = H[q]? := by
  rw [Array.getElem?_push, if_neg (Nat.ne_of_lt hq)]
theorem gx_push_new {H : Heap} {x : Cell} : (H.push x)[H.size]? = some x := by simp
set_option maxHeartbeats 4000000 in
theorem gx_nW (hx : p.tables.exec = Jvm.exec) (hb : c.code = cc) {o : Nat} (hown : s.vm.findClass (gx_o o) = some m.cls) (hw : ∀ w ∈ gx_words, w.before args s = true) (hK : gx_KN s D) (hA : gx_AK s aC) (hr : gx_rel D aC ba b h0 H)
    {ins : Instr} {pc pc' mc ms : Nat} {st st' : List Value} {h1 : gx_H} (hd : ∃ len, decode cc pc = .ok (ins, len) ∧ gx_lok ins len = true) (h : gx_n o h0 ins pc st = some (pc', st', h1, mc, ms)) (hc : cells + mc ≤ R.cells) (hsl : slots + ms ≤ R.slots)
    (kk : ∀ (H1 : Heap), gx_rel D aC ba b h1 H1 → (∀ q, q < ba → H1[q]? = H[q]?) → W p l e R s m args below meth c H1 locs (cells + mc) (slots + ms) Q (F0 m pc' ls (gx_t ba b st'))) :
    W p l e R s m args below meth c H locs cells slots Q (F0 m pc ls (gx_t ba b st)) := by
  obtain ⟨len, hd, hlen⟩ := hd
  have hba : ∀ q, q < ba → q < H.size := fun q hq => by rw [hr.1]; omega
  cases ins with
  | new idx =>
    have e1 : len = 3 := by simpa [gx_lok, gx_len] using hlen
    subst e1
    obtain ⟨ci, h2, h3⟩ := Option.bind_eq_some_iff.mp h
    split at h3
    · rename_i hci
      cases h3
      obtain ⟨r, hrr⟩ := gx_ct_r (gx_find h2)
      obtain ⟨w1, w2, w3⟩ := gx_ct_w h2 hrr
      have hl : (gx_dv ci).length = r.2.2 := by simp [gx_dv, hrr]
      rw [hl] at hsl kk
      have hKn := hK ci _ hrr
      refine W.newcK hx hb hown (hw _ w1) (hw _ w2) (hw _ w3) rfl hd hc hsl hKn.2.1 rfl fun H1 kC hkC e1 z1 o1 => ?_
      have hob : gx_at D aC ba b H.size (ci, gx_dv ci) H1 := by
        unfold gx_at
        rw [if_pos hci]
        refine ⟨r, hrr, hl.symm, (u_born (gx_fty ci) hw (gx_wC hrr) hKn hkC e1 (gx_ftyok ci r hrr)).to fun j hj => ?_⟩
        have e5 : vp_V (gx_dv ci) j = defaultValue (gx_fty ci j) := by simp [vp_V, gx_dv, hrr, List.getD_eq_getElem?_getD, hj]
        show _ = gx_v ba b (vp_V (gx_dv ci) j)
        rw [e5]
        exact (gx_defv (gx_nofl ci r hrr j hj)).symm
      have e6 : ba + h0.length = H.size := hr.1.symm
      have := kk H1 (hr.push z1 o1 hob) (fun q hq => o1 q (hba q hq))
      show W p l e R s m args below meth c H1 locs (cells + 1) (slots + r.2.2) Q (F0 m (pc + 3) ls (.ref H.size :: gx_t ba b st))
      rw [← e6]
      exact this
    · cases h3
  | newarray at' =>
    have e1 : len = 2 := by simpa [gx_lok, gx_len] using hlen
    subst e1
    obtain ⟨⟨n, r⟩, h2, h3⟩ := Option.bind_eq_some_iff.mp h
    have h5 := gx_a1_e h2
    subst h5
    obtain ⟨t, h6, h7⟩ := Option.bind_eq_some_iff.mp h3
    dsimp only at h7
    split at h7
    · cases h7
    · rename_i hn
      cases h7
      have hn1 : ¬ n < 0 := fun q => hn (Or.inl q)
      have hn2 : n.toNatClampNeg ≤ 100000 := Nat.not_lt.mp fun q => hn (Or.inr q)
      have ht : newarray.typeOf at' = gx_ty t ∧ t < 5 ∧ gx_v ba b (defaultValue (gx_ty t)) = defaultValue (gx_ty t) ∧ Jvm.Cond.arrayClass (newarray.typeOf at') ∈ gx_words := by
        cases at' <;> first | cases h6
        · exact ⟨rfl, by decide, rfl, gx_wA (by simp [newarray.typeOf])⟩
        · exact ⟨rfl, by decide, rfl, gx_wA (by simp [newarray.typeOf])⟩
        · exact ⟨rfl, by decide, rfl, gx_wA (by simp [newarray.typeOf])⟩
      obtain ⟨t1, t2, t3, t4⟩ := ht
      refine W.newa hx hb (hw _ t4) rfl hd rfl hn1 ?_ hc hsl fun cA kA comp e1 e2 e3 => ?_
      · rw [t1]
        have : componentBytes (gx_ty t) ≤ 8 := by
          cases at' <;> first | cases h6
          all_goals decide
        calc n.toNatClampNeg * componentBytes (gx_ty t) ≤ 100000 * 8 := Nat.mul_le_mul hn2 this
          _ ≤ 536870912 := by decide
      · rw [t1] at e1 ⊢
        obtain ⟨k, comp', -, -, k3, -⟩ := hA t t2
        have hcA : cA = aC t := Option.some.inj (e1.symm.trans k3)
        subst hcA
        have e6 : ba + h0.length = H.size := hr.1.symm
        have := kk _ (hr.push gx_push_size gx_push_old (gx_arrNew (n := n.toNatClampNeg) t3 gx_push_new)) (fun q hq => gx_push_old q (hba q hq))
        show W p l e R s m args below meth c _ locs (cells + 1) (slots + n.toNatClampNeg) Q (F0 m (pc + 2) ls (.ref H.size :: gx_t ba b r))
        rw [← e6]
        exact this
  | anewarray idx =>
    have e1 : len = 3 := by simpa [gx_lok, gx_len] using hlen
    subst e1
    obtain ⟨⟨n, r⟩, h2, h3⟩ := Option.bind_eq_some_iff.mp h
    have h5 := gx_a1_e h2
    subst h5
    obtain ⟨ci, h6, h7⟩ := Option.bind_eq_some_iff.mp h3
    dsimp only at h7
    split at h7
    · cases h7
    · rename_i hn
      cases h7
      have hn0 : ci = gx_ei := Classical.byContradiction fun q => hn (Or.inl q)
      have hn1 : ¬ n < 0 := fun q => hn (Or.inr (Or.inl q))
      have hn2 : n.toNatClampNeg ≤ 100000 := Nat.not_lt.mp fun q => hn (Or.inr (Or.inr q))
      subst hn0
      obtain ⟨rr, hrr⟩ := gx_ct_r (gx_find h6)
      obtain ⟨w1, w2, w3⟩ := gx_ct_w h6 hrr
      have hnm := gx_ei_nm hrr
      rw [hnm] at w1
      refine W.anew hx hb hown (hw _ w1) (hw _ gx_wO) rfl hd rfl hn1 (by omega) hc hsl fun cA kA comp e1 e2 e3 e4 => ?_
      obtain ⟨k, comp', -, -, k3, -⟩ := hA 3 (by decide)
      have hcA : cA = aC 3 := Option.some.inj (e1.symm.trans k3)
      subst hcA
      have e6 : ba + h0.length = H.size := hr.1.symm
      have := kk _ (hr.push gx_push_size gx_push_old (gx_arrNew (t := 3) (n := n.toNatClampNeg) rfl gx_push_new)) (fun q hq => gx_push_old q (hba q hq))
      show W p l e R s m args below meth c _ locs (cells + 1) (slots + n.toNatClampNeg) Q (F0 m (pc + 3) ls (.ref H.size :: gx_t ba b r))
      rw [← e6]
      exact this
  | _ => cases h
end GXN
end
section
/-! calls: of method j, arguments A (the receiver first), rest: what stays on the stack -/
def gx_mt (o idx : Nat) : Option (Nat × Bool) := (gx_MT.find? (fun q => q.1 == o && q.2.1 == idx)).map (fun q => q.2.2)
def gx_c (o : Nat) (h : gx_H) (ins : Instr) (st : List Value) : Option (Nat × List Value × List Value) := match ins with
  | .invokestatic idx => (gx_mt o idx).bind fun q => if gx_kd q.1 = 0 ∧ gx_np q.1 ≤ st.length then some (q.1, (st.take (gx_np q.1)).reverse, st.drop (gx_np q.1)) else none
  | .invokevirtual idx => (gx_mt o idx).bind fun q => if gx_kd q.1 = 1 ∧ gx_np q.1 ≤ st.length then (gx_r1 (st.drop (gx_np q.1))).bind fun z => (gx_ob h z.1 (gx_rc q.1)).map fun _ => (q.1, .ref z.1 :: (st.take (gx_np q.1)).reverse, z.2) else none
  | .invokespecial idx => (gx_mt o idx).bind fun q => if gx_kd q.1 = 2 ∧ gx_np q.1 ≤ st.length then (gx_r1 (st.drop (gx_np q.1))).map fun z => (q.1, .ref z.1 :: (st.take (gx_np q.1)).reverse, z.2) else none
  | _ => none
theorem gx_sw {o idx j : Nat} {n : Bool} (h : gx_mt o idx = some (j, n)) : (if n = true then Jvm.Cond.methodLinkNest (gx_o o) idx (gx_y j) gx_host else Jvm.Cond.methodLink (gx_o o) idx (gx_y j)) ∈ gx_words ∧ j < gx_nj := by
  have h1 := gx_find h
  exact ⟨gx_wS (List.mem_map.mpr ⟨_, h1, rfl⟩), gx_mtj h1⟩
section GXC
variable {p : Program} {l : Launch} {e : Env} {R : Room} {s : State} {m : MethodId} {args : Array Value} {below : List Frame} {meth : Method} {c : Code} {T : State} {locs : List Loc} {cells slots : Nat}
variable {cc : ByteArray} {ls : Array Slot} {D : va_G} {aC : Nat → ClassId} {ba b : Nat} {h0 : gx_H}
/-- what the tables say of method j -/
theorem gx_meth (hw : ∀ w ∈ gx_words, w.before args s = true) {j : Nat} (hj : j < gx_nj) (hk : gx_kd j ≠ 9) : ∃ (mk : MethodId) (mt : Method) (ct : Code), s.methodNamed? (gx_y j) = some mk ∧ s.vm.method? mk = some mt ∧ mt.code = some ct ∧ ct.code = gx_b j ∧ ct.maxLocals = gx_nl j ∧
    ct.exceptionTable.toList.map (fun h => (h.startPc, h.endPc, h.handlerPc, h.catchType)) = gx_hd j ∧ mt.sig.returnType = gx_rt j ∧ mt.locks = false ∧ mt.sig.parameters.length = gx_np j ∧ ∃ kk : Class, s.vm.classes[mk.cls]? = some kk ∧ kk.init = .initialized := by
  have hc := hw _ (gx_wM0 hj hk).1
  have hi := hw _ (gx_wM0 hj hk).2
  have hnp := gx_npok j hj
  by_cases he : gx_hd j = []
  · rw [if_pos he] at hc
    obtain ⟨mk, hn⟩ := Cond.code_named hc
    obtain ⟨mt, ct, h1, h2, h3, h4, h5, h6, h7, h8⟩ := Cond.code_spec hn hc
    obtain ⟨kP, hkP, -⟩ := className_of_methodNamed hn
    rw [h8] at hnp
    refine ⟨mk, mt, ct, hn, h1, h2, h3, h4, ?_, h5, h6, Option.some.inj hnp, kP, hkP, Cond.initialized_spec (findClass_of_methodNamed hn) hkP hi⟩
    have h0 : ct.exceptionTable.size = 0 := by simpa [Array.isEmpty] using h7
    have h9 : ct.exceptionTable.toList = [] := List.eq_nil_of_length_eq_zero (by simpa using h0)
    rw [h9, he]
    rfl
  · rw [if_neg he] at hc
    obtain ⟨mk, mt, ct, hn, h1, h2, h3, h4, h5, h6, h7, h8⟩ := Cond.codeWith_spec hc
    obtain ⟨kP, hkP, -⟩ := className_of_methodNamed hn
    rw [h8] at hnp
    exact ⟨mk, mt, ct, hn, h1, h2, h3, h4, h5, h6, h7, Option.some.inj hnp, kP, hkP, Cond.initialized_spec (findClass_of_methodNamed hn) hkP hi⟩
theorem gx_stk {st : List Value} {n : Nat} : gx_t ba b st = ((gx_t ba b (st.take n).reverse)).reverse ++ gx_t ba b (st.drop n) := by
  simp only [gx_t, List.map_reverse, List.reverse_reverse, ← List.map_append, List.take_append_drop]
set_option maxHeartbeats 4000000 in
theorem gx_into (X : Stand p l e R s m args below meth c T locs cells slots) (hx : p.tables.exec = Jvm.exec) (hb : c.code = cc) {o : Nat} (hown : s.vm.findClass (gx_o o) = some m.cls) (hw : ∀ w ∈ gx_words, w.before args s = true) (hK : gx_KN s D) (hr : gx_rel D aC ba b h0 T.heap)
    {ins : Instr} {pc j : Nat} {st A rest : List Value} (hd : ∃ len, decode cc pc = .ok (ins, len) ∧ gx_lok ins len = true) (h : gx_c o h0 ins st = some (j, A, rest)) :
    ∃ (vm₁ : Vm) (mk : MethodId), s.methodNamed? (gx_y j) = some mk ∧ j < gx_nj ∧ Stand p l e R s m args below meth c (T.setVm vm₁) locs cells slots ∧ decode cc pc = .ok (ins, 3) ∧
      ∀ target, (∀ acts, Steps p.tables e below (doInvoke e ((T.setVm vm₁).setTop (F0 m pc ls (gx_t ba b rest))) acts mk (gx_t ba b A).toArray).1 target) → Steps p.tables e below (T.setTop (F0 m pc ls (gx_t ba b st))) target := by
  obtain ⟨len, hd, hlen⟩ := hd
  cases ins with
  | invokestatic idx =>
    have e1 : len = 3 := by simpa [gx_lok, gx_len] using hlen
    subst e1
    obtain ⟨⟨j', n⟩, h1, h2⟩ := Option.bind_eq_some_iff.mp h
    dsimp only at h2
    split at h2
    · rename_i hc
      cases h2
      obtain ⟨hs1, hj⟩ := gx_sw h1
      obtain ⟨mk, mt, ct, q1, q2, q3, q4, q5, q6, q7, q8, q9, kP, q10, q11⟩ := gx_meth hw hj (by rw [hc.1]; decide)
      have hsta := hw _ (gx_w0 hj hc.1)
      have hstatic : mt.isStatic = true := Cond.static_spec q1 q2 hsta
      have hln : (gx_t ba b (st.take (gx_np j)).reverse).length = mt.sig.parameters.length := by rw [q9]; simp [gx_t, hc.2]
      have hsite := hw _ hs1
      cases n with
      | true =>
        obtain ⟨vm₁, X₁, st1⟩ := X.invokestaticNest hx hown hsite q1 q2 hstatic q10 q11 (gx_plain j hj).2 (g := F0 m pc ls (gx_t ba b st)) rfl hln (rest := gx_t ba b (st.drop (gx_np j))) gx_stk (by rw [hb]; exact hd)
        exact ⟨vm₁, mk, q1, hj, X₁, hd, st1⟩
      | false =>
        obtain ⟨vm₁, X₁, st1⟩ := X.invokestatic hx hown hsite q1 q2 hstatic q10 q11 (gx_plain j hj).2 (g := F0 m pc ls (gx_t ba b st)) rfl hln (rest := gx_t ba b (st.drop (gx_np j))) gx_stk (by rw [hb]; exact hd)
        exact ⟨vm₁, mk, q1, hj, X₁, hd, st1⟩
    · cases h2
  | invokevirtual idx =>
    have e1 : len = 3 := by simpa [gx_lok, gx_len] using hlen
    subst e1
    obtain ⟨⟨j', n⟩, h1, h2⟩ := Option.bind_eq_some_iff.mp h
    dsimp only at h2
    split at h2
    · rename_i hc
      obtain ⟨⟨a, z⟩, h3, h4⟩ := Option.bind_eq_some_iff.mp h2
      obtain ⟨fs, h5, h6⟩ := Option.map_eq_some_iff.mp h4
      cases h6
      have h7 := gx_r1_e h3
      obtain ⟨hs1, hj⟩ := gx_sw h1
      obtain ⟨mk, mt, ct, q1, q2, q3, q4, q5, q6, q7, q8, q9, kP, q10, q11⟩ := gx_meth hw hj (by rw [hc.1]; decide)
      have hln : (gx_t ba b (st.take (gx_np j)).reverse).length = mt.sig.parameters.length := by rw [q9]; simp [gx_t, hc.2]
      have hstk : gx_t ba b st = (gx_t ba b (st.take (gx_np j)).reverse).reverse ++ .ref (ba + a) :: gx_t ba b z := by
        rw [gx_stk (ba := ba) (b := b) (st := st) (n := gx_np j), h7]
        rfl
      obtain ⟨r1, g1, g2, cell, w1, w2, w3, -⟩ := (hr.2 _ _ (gx_ob_e h5)).obj (gx_rc_lt hj hc.1)
      have hcl := (hK _ _ g1).2.1
      rw [gx_rc_nm hj hc.1 g1] at hcl
      have hinst := hw _ (gx_w1 hj hc.1).1
      have hsel := hw _ (gx_w1 hj hc.1).2
      obtain ⟨mk', mt', i1, i2, i3, i4⟩ := Cond.instanceMethod_spec hinst
      cases q1.symm.trans i1
      cases q2.symm.trans i2
      obtain ⟨c2, r2, m2, s1, s2, s3, s4, kQ, s5, s6⟩ := Cond.selects_spec hsel
      cases hcl.symm.trans s1
      cases (State.methodFound?_of_named q1 (gx_plain j hj).2).symm.trans s2
      cases q1.symm.trans s3
      have hselP : selectMethod e.platform s.vm cell.cls mk = .method mk := by rw [Launch.admits_selectMethod X.admits, w2]; exact s4
      have hsite := hw _ hs1
      cases n with
      | true =>
        obtain ⟨vm₁, X₁, st1⟩ := X.invokevirtualNest hx hown hsite q1 q2 i3 s5 s6 (gx_plain j hj).2 w1 (fun z h => by rw [w3] at h; cases h) hselP q2 i4 s5 s6 (g := F0 m pc ls (gx_t ba b st)) rfl hln (rest := gx_t ba b z) hstk (by rw [hb]; exact hd)
        exact ⟨vm₁, mk, q1, hj, X₁, hd, st1⟩
      | false =>
        obtain ⟨vm₁, X₁, st1⟩ := X.invokevirtual hx hown hsite q1 q2 i3 s5 s6 (gx_plain j hj).2 w1 (fun z h => by rw [w3] at h; cases h) hselP q2 i4 s5 s6 (g := F0 m pc ls (gx_t ba b st)) rfl hln (rest := gx_t ba b z) hstk (by rw [hb]; exact hd)
        exact ⟨vm₁, mk, q1, hj, X₁, hd, st1⟩
    · cases h2
  | invokespecial idx =>
    have e1 : len = 3 := by simpa [gx_lok, gx_len] using hlen
    subst e1
    obtain ⟨⟨j', n⟩, h1, h2⟩ := Option.bind_eq_some_iff.mp h
    dsimp only at h2
    split at h2
    · rename_i hc
      obtain ⟨⟨a, z⟩, h3, h6⟩ := Option.map_eq_some_iff.mp h2
      cases h6
      have h7 := gx_r1_e h3
      obtain ⟨hs1, hj⟩ := gx_sw h1
      obtain ⟨i1, i2, i3, i4⟩ := gx_w2 hj hc.1
      have hinst := hw _ i1
      have hcode := hw _ i2
      have hpl : e.platform.magicAccessors = ({} : Platform).magicAccessors := by rw [X.admits.platform]
      have hln : ∀ sig, parseMethodDescriptor (gx_y j).desc = some sig → (gx_t ba b (st.take (gx_np j)).reverse).length = sig.parameters.length := fun sig hsig => by
        have hnp := gx_npok j hj
        rw [hsig] at hnp
        have hnp : sig.parameters.length = gx_np j := Option.some.inj hnp
        rw [hnp]
        simp [gx_t, hc.2]
      have hstk : gx_t ba b st = (gx_t ba b (st.take (gx_np j)).reverse).reverse ++ .ref (ba + a) :: gx_t ba b z := by
        rw [gx_stk (ba := ba) (b := b) (st := st) (n := gx_np j), h7]
        rfl
      have hsite := hw _ hs1
      cases n with
      | true =>
        obtain ⟨mk, mt, ct, kP, vm₁, q1, -, -, -, -, -, -, -, hW₁, st1⟩ := Steps.initColdArgsNest (e := e) X.here hx X.warmed hpl hown i3 (gx_plain j hj).2 hsite hinst hcode (f := F0 m pc ls (gx_t ba b st)) rfl hln hstk (by rw [hb]; exact hd)
        exact ⟨vm₁, mk, q1, hj, X.noted hW₁, hd, st1⟩
      | false =>
        obtain ⟨mk, mt, ct, kP, vm₁, q1, -, -, -, -, -, -, -, hW₁, st1⟩ := Steps.initColdArgs (e := e) X.here hx X.warmed hpl hown i3 (gx_plain j hj).2 hsite hinst hcode (f := F0 m pc ls (gx_t ba b st)) rfl hln hstk (by rw [hb]; exact hd)
        exact ⟨vm₁, mk, q1, hj, X.noted hW₁, hd, st1⟩
    · cases h2
  | _ => cases h
end GXC
end
section
/-! Object.<init>, System.arraycopy of ints, new int[n][k] -/
def gx_sp (at_ : Nat) (xs : List (Value × Nat)) (vs : List Value) : List Value := xs.foldl (fun vs q => vs.set (at_ + q.2) q.1) vs
def gx_cpy (src dst : List Value) (sp dp n : Nat) : List Value := gx_sp dp (((List.range n).map fun i => src.getD (sp + i) .null).zipIdx) dst
def gx_ot (o idx : Nat) : Bool := gx_OT.any (fun q => q.1 == o && q.2.1 == idx)
def gx_ac (o idx : Nat) : Bool := gx_AT.any (fun q => q.1 == o && q.2.1 == idx)
def gx_rt2 (o idx : Nat) : Bool := gx_RT.any (fun q => q.1 == o && q.2.1 == idx)
def gx_bi (o : Nat) (h : gx_H) (ins : Instr) (pc : Nat) (st : List Value) : gx_S := match ins with
  | .invokespecial idx => (gx_r1 st).bind fun q => if gx_ot o idx = true ∧ (q.2.map fun v => v.category).sum ≤ 8 then some (pc + 3, q.2, h) else none
  | .invokestatic idx => match st with
    | .int n :: .int dp :: .ref a :: .int sp :: .ref a0 :: r => (gx_ob h a0 100).bind fun vs => (gx_ob h a 100).bind fun ws =>
      if gx_ac o idx = true ∧ (r.map fun v => v.category).sum ≤ 8 ∧ ¬ sp < 0 ∧ ¬ dp < 0 ∧ ¬ n < 0 ∧ sp.toNatClampNeg + n.toNatClampNeg ≤ vs.length ∧ dp.toNatClampNeg + n.toNatClampNeg ≤ ws.length ∧ vs.all (fun v => (gx_i1 v).isSome) = true then some (pc + 3, r, h.set a (100, gx_cpy vs ws sp.toNatClampNeg dp.toNatClampNeg n.toNatClampNeg)) else none
    | _ => none
  | _ => none
def gx_mu (o : Nat) (h : gx_H) (ins : Instr) (pc : Nat) (st : List Value) : gx_M := match ins with
  | .multianewarray idx dims => (gx_a2 st).bind fun q => if gx_rt2 o idx = true ∧ dims = 2 ∧ ¬ q.2.1 < 0 ∧ ¬ q.1 < 0 ∧ q.2.1.toNatClampNeg ≤ 1000 ∧ q.1.toNatClampNeg ≤ 1000 then
      some (pc + 4, .ref h.length :: q.2.2, h ++ ((104, (List.range q.2.1.toNatClampNeg).map (fun i => Value.ref (h.length + 1 + i))) :: List.replicate q.2.1.toNatClampNeg (100, List.replicate q.1.toNatClampNeg (.int 0))), 1 + q.2.1.toNatClampNeg, q.2.1.toNatClampNeg + q.2.1.toNatClampNeg * q.1.toNatClampNeg) else none
  | _ => none
theorem gx_at_arr {D : va_G} {aC : Nat → ClassId} {ba b a t : Nat} {vs : List Value} {H : Heap} (h : ∃ ce : Cell, H[a]? = some ce ∧ ce.cls = aC t ∧ ce.vm = .none ∧ ce.slots = (gx_t ba b vs).toArray) : gx_at D aC ba b a (100 + t, vs) H := by
  unfold gx_at
  rw [if_neg (show ¬ (100 + t) < 100 by omega)]
  obtain ⟨ce, h1, h2, h3⟩ := h
  exact ⟨ce, h1, by rw [h2]; congr 1; show t = 100 + t - 100; omega, h3⟩
theorem gx_any {l : List (Nat × Nat × Unit)} {o idx : Nat} (h : l.any (fun q => q.1 == o && q.2.1 == idx) = true) : (o, idx, ()) ∈ l := by
  obtain ⟨⟨a, i, z⟩, h1, h2⟩ := List.any_eq_true.mp h
  simp only [Bool.and_eq_true, beq_iff_eq] at h2
  obtain ⟨rfl, rfl⟩ := h2
  exact h1
theorem gx_pairs {ba b at_ : Nat} : ∀ (xs : List (Value × Nat)) (vs : List Value) (cell : Cell), cell.slots = (gx_t ba b vs).toArray → (cell.storePairs at_ (xs.map (fun q => (gx_v ba b q.1, q.2)))).slots = (gx_t ba b (gx_sp at_ xs vs)).toArray ∧ (cell.storePairs at_ (xs.map (fun q => (gx_v ba b q.1, q.2)))).cls = cell.cls ∧ (cell.storePairs at_ (xs.map (fun q => (gx_v ba b q.1, q.2)))).vm = cell.vm
  | [], vs, ce, h => ⟨h, rfl, rfl⟩
  | x :: xs, vs, ce, h => gx_pairs xs (vs.set (at_ + x.2) x.1) (ce.setSlot (at_ + x.2) (gx_v ba b x.1)) (gx_setSlot h _ _)
theorem gx_zip {ba b : Nat} : ∀ (l : List Value) (i : Nat), (l.map (gx_v ba b)).zipIdx i = (l.zipIdx i).map (fun q => (gx_v ba b q.1, q.2))
  | [], _ => rfl
  | x :: l, i => by
    rw [List.map_cons, List.zipIdx_cons, List.zipIdx_cons, List.map_cons, gx_zip l (i + 1)]
theorem gx_stretch {ba b sp n : Nat} {vs : List Value} {cell : Cell} (h : cell.slots = (gx_t ba b vs).toArray) : cell.stretch sp n = ((List.range n).map fun i => vs.getD (sp + i) .null).map (gx_v ba b) := by
  unfold Cell.stretch
  rw [List.map_map]
  refine List.map_congr_left fun i _ => ?_
  rw [h]
  simp only [Function.comp, gx_t, Array.getD_eq_getD_getElem?, List.getElem?_toArray, List.getElem?_map, List.getD_eq_getElem?_getD]
  cases vs[sp + i]? <;> rfl
section GXB
variable {p : Program} {l : Launch} {e : Env} {R : Room} {s : State} {m : MethodId} {args : Array Value} {below : List Frame} {meth : Method} {c : Code} {H : Heap} {locs : List Loc} {cells slots : Nat} {Q : State → Prop}
variable {cc : ByteArray} {ls : Array Slot} {D : va_G} {aC : Nat → ClassId} {ba b : Nat} {h0 : gx_H}
theorem gx_nn {z : Int32} (hz : ¬ z < 0) : z.toInt = (z.toNatClampNeg : Int) := by
  have hz0 : (0 : Int) ≤ z.toInt := by
    have := Int32.not_lt.mp hz
    simpa using Int32.le_iff_toInt_le.mp this
  show z.toInt = ((z.toInt.toNat : Nat) : Int)
  omega
set_option maxHeartbeats 4000000 in
theorem gx_biW (hx : p.tables.exec = Jvm.exec) (hb : c.code = cc) {o : Nat} (hml : c.maxLocals = ls.size) (hown : s.vm.findClass (gx_o o) = some m.cls) (hw : ∀ w ∈ gx_words, w.before args s = true) (hA : gx_AK s aC) (hr : gx_rel D aC ba b h0 H) (hlo : ∀ q ∈ locs, ba ≤ q.base) (hR : 8 ≤ R.frames ∧ 300 ≤ R.locals)
    {ins : Instr} {pc pc' : Nat} {st st' : List Value} {h1 : gx_H} (hd : ∃ len, decode cc pc = .ok (ins, len) ∧ gx_lok ins len = true) (h : gx_bi o h0 ins pc st = some (pc', st', h1))
    (kk : ∀ (H1 : Heap) (locs1 : List Loc), gx_rel D aC ba b h1 H1 → (∀ q ∈ locs1, ba ≤ q.base) → (∀ q, q < ba → H1[q]? = H[q]?) → W p l e R s m args below meth c H1 locs1 cells slots Q (F0 m pc' ls (gx_t ba b st'))) :
    W p l e R s m args below meth c H locs cells slots Q (F0 m pc ls (gx_t ba b st)) := by
  obtain ⟨len, hd, hlen⟩ := hd
  cases ins with
  | invokespecial idx =>
    have e1 : len = 3 := by simpa [gx_lok, gx_len] using hlen
    subst e1
    obtain ⟨⟨a, r⟩, h2, h3⟩ := Option.bind_eq_some_iff.mp h
    have h5 := gx_r1_e h2
    subst h5
    dsimp only at h3
    split at h3
    · rename_i hc
      cases h3
      have w1 : Jvm.Cond.methodLink (gx_o o) idx objectInit ∈ gx_words := gx_pick gx_cOI.1 gx_cOI.2 (List.mem_append_left _ (List.mem_map.mpr ⟨_, gx_any hc.1, rfl⟩))
      have w2 : Jvm.Cond.instanceMethod objectInit ∈ gx_words := gx_pick gx_cOI.1 gx_cOI.2 (List.mem_append_right _ List.mem_cons_self)
      have w3 : Jvm.Cond.code objectInit ⟨#[0xb1]⟩ 1 none ∈ gx_words := gx_pick gx_cOI.1 gx_cOI.2 (List.mem_append_right _ (List.mem_cons_of_mem _ List.mem_cons_self))
      refine W.objInit hx hb hown (hw _ w1) (hw _ w2) (hw _ w3) rfl hml.symm rfl hd (by omega) ?_ (kk H locs hr hlo (fun q _ => rfl))
      have := hc.2
      show 2 * 0 + ((gx_t ba b st').map fun v => v.category).sum + 12 ≤ R.locals
      rw [gx_t_cat]
      omega
    · cases h3
  | invokestatic idx =>
    have e1 : len = 3 := by simpa [gx_lok, gx_len] using hlen
    subst e1
    simp only [gx_bi] at h
    split at h
    · rename_i n dp a sp a0 r
      obtain ⟨vs, h2, h3⟩ := Option.bind_eq_some_iff.mp h
      obtain ⟨ws, h4, h5⟩ := Option.bind_eq_some_iff.mp h3
      split at h5
      · rename_i hc
        cases h5
        obtain ⟨c1, c2, c3, c4, c5, c6, c7, c8⟩ := hc
        have w1 : Jvm.Cond.methodLink (gx_o o) idx arraycopyName ∈ gx_words := gx_pick gx_cAC.1 gx_cAC.2 (List.mem_append_left _ (List.mem_map.mpr ⟨_, gx_any c1, rfl⟩))
        have w2 : Jvm.Cond.native arraycopyName ∈ gx_words := gx_pick gx_cAC.1 gx_cAC.2 (List.mem_append_right _ List.mem_cons_self)
        have w3 : Jvm.Cond.static arraycopyName ∈ gx_words := gx_pick gx_cAC.1 gx_cAC.2 (List.mem_append_right _ (List.mem_cons_of_mem _ List.mem_cons_self))
        have w4 : Jvm.Cond.initialized "java/lang/System" ∈ gx_words := gx_pick gx_cAC.1 gx_cAC.2 (List.mem_append_right _ (List.mem_cons_of_mem _ (List.mem_cons_of_mem _ List.mem_cons_self)))
        obtain ⟨cs, s1, s2, s3, s4⟩ := (hr.2 _ _ (gx_ob_e h2)).arr (t := 0)
        obtain ⟨cd, d1, d2, d3, d4⟩ := (hr.2 _ _ (gx_ob_e h4)).arr (t := 0)
        obtain ⟨k, comp, k1, k2, -⟩ := hA 0 (by decide)
        have hst := gx_stretch (ba := ba) (b := b) (sp := sp.toNatClampNeg) (n := n.toNatClampNeg) s4
        intro T hT X
        obtain ⟨vm', X', step⟩ := X.arraycopy hx hown (hw _ w1) (hw _ w2) (hw _ w3) (hw _ w4) (src := ba + a0) (dst := ba + a) (cs := cs) (cd := cd) (srcPos := sp) (destPos := dp) (n := n) (by rw [hT]; exact s1) (by rw [hT]; exact d1)
          (fun _ h => by rw [s3] at h; cases h) (fun _ h => by rw [d3] at h; cases h) (gx_known s3) (gx_known d3) (by rw [s2]; exact k1) (by rw [d2]; exact k1) k2 k2 rfl c3 c4 c5
          (by rw [gx_nn c3, gx_nn c5, gx_size s4]; omega) (by rw [gx_nn c4, gx_nn c5, gx_size d4]; omega)
          (fun vm₁ _ i hi => by
            have hi2 : sp.toNatClampNeg + i < vs.length := by omega
            have e1 : cs.slots.getD (sp.toNatClampNeg + i) .null = gx_v ba b vs[sp.toNatClampNeg + i] := by
              rw [Array.getD_eq_getD_getElem?, gx_slot s4 (List.getElem?_eq_getElem hi2)]
              rfl
            obtain ⟨x, hx1⟩ := Option.isSome_iff_exists.mp (List.all_eq_true.mp c8 _ (List.getElem_mem hi2))
            rw [e1, gx_i1_e hx1]
            exact ⟨rfl, trivial⟩)
          (g := F0 m pc ls (.int n :: .int dp :: .ref (ba + a) :: .int sp :: .ref (ba + a0) :: gx_t ba b st')) rfl (by rw [hml]) (rest := gx_t ba b st') rfl (by rw [hb]; exact hd) (by omega) (by
            have e7 : nativeFrameWords "java/lang/System" "arraycopy" 5 ≤ 200 := by decide +kernel
            show 2 * 0 + ((gx_t ba b st').map fun v => v.category).sum + _ ≤ _
            rw [gx_t_cat]
            omega)
        have hl : ba + a < H.size := (Array.getElem?_eq_some_iff.mp d1).1
        have e5 : copied cs cd sp dp n = cd.storePairs dp.toNatClampNeg ((((List.range n.toNatClampNeg).map fun i => vs.getD (sp.toNatClampNeg + i) .null).zipIdx).map (fun q => (gx_v ba b q.1, q.2))) := by
          show cd.storeRun _ (cs.stretch _ _) = _
          rw [hst, Cell.storeRun, gx_zip]
        obtain ⟨p1, p2, p3⟩ := gx_pairs (at_ := dp.toNatClampNeg) (((List.range n.toNatClampNeg).map fun i => vs.getD (sp.toNatClampNeg + i) .null).zipIdx) ws cd d4
        have hheap : ((T.setVm vm').setCell (ba + a) (copied cs cd sp dp n)).heap = H.setIfInBounds (ba + a) (copied cs cd sp dp n) := by rw [← hT]; rfl
        obtain ⟨t, a1, b1⟩ := kk (H.setIfInBounds (ba + a) (copied cs cd sp dp n)) _ (hr.set (by simp) (fun q hq => by simp [Array.getElem?_setIfInBounds, Ne.symm hq]) (gx_at_arr (t := 0) ⟨copied cs cd sp dp n, by simp [Array.getElem?_setIfInBounds, hl], by rw [e5, p2]; exact d2, by rw [e5, p3]; exact d3, by rw [e5]; exact p1⟩))
          (fun q hq => by
            rcases List.mem_append.mp hq with g | g
            · exact hlo q g
            · obtain ⟨z, -, hz⟩ := List.mem_map.mp g
              rw [← hz]
              exact Nat.le_add_right _ _)
          (fun q hq => by simp [Array.getElem?_setIfInBounds, show ba + a ≠ q by omega]) _ hheap X'
        exact ⟨t, step t a1, b1⟩
      · cases h5
    · cases h
  | _ => cases h
end GXB
end
section
section GXM
variable {p : Program} {l : Launch} {e : Env} {R : Room} {s : State} {m : MethodId} {args : Array Value} {below : List Frame} {meth : Method} {c : Code} {H : Heap} {locs : List Loc} {cells slots : Nat} {Q : State → Prop}
variable {cc : ByteArray} {ls : Array Slot} {D : va_G} {aC : Nat → ClassId} {ba b : Nat} {h0 : gx_H}
set_option maxHeartbeats 4000000 in
theorem gx_muW (hx : p.tables.exec = Jvm.exec) (hb : c.code = cc) {o : Nat} (hown : s.vm.findClass (gx_o o) = some m.cls) (hw : ∀ w ∈ gx_words, w.before args s = true) (hA : gx_AK s aC) (hr : gx_rel D aC ba b h0 H)
    {ins : Instr} {pc pc' mc ms : Nat} {st st' : List Value} {h1 : gx_H} (hd : ∃ len, decode cc pc = .ok (ins, len) ∧ gx_lok ins len = true) (h : gx_mu o h0 ins pc st = some (pc', st', h1, mc, ms)) (hc : cells + mc ≤ R.cells) (hsl : slots + ms ≤ R.slots)
    (kk : ∀ (H1 : Heap), gx_rel D aC ba b h1 H1 → (∀ q, q < ba → H1[q]? = H[q]?) → W p l e R s m args below meth c H1 locs (cells + mc) (slots + ms) Q (F0 m pc' ls (gx_t ba b st'))) :
    W p l e R s m args below meth c H locs cells slots Q (F0 m pc ls (gx_t ba b st)) := by
  obtain ⟨len, hd, hlen⟩ := hd
  cases ins with
  | multianewarray idx dims =>
    have e1 : len = 4 := by simpa [gx_lok, gx_len] using hlen
    subst e1
    obtain ⟨⟨k, n, r⟩, h2, h3⟩ := Option.bind_eq_some_iff.mp h
    have h5 := gx_a2_e h2
    subst h5
    dsimp only at h3
    split at h3
    · rename_i hcn
      obtain ⟨c1, c2, c3, c4, c5, c6⟩ := hcn
      subst c2
      cases h3
      have w1 : Jvm.Cond.classLink (gx_o o) idx ("[" ++ (FieldType.array .int).toString) ∈ gx_words := gx_pick gx_cMU.1 gx_cMU.2 (List.mem_append_left _ (List.mem_map.mpr ⟨_, gx_any c1, rfl⟩))
      have w2 : Jvm.Cond.arrayOver (.array .int) ∈ gx_words := gx_pick gx_cMU.1 gx_cMU.2 (List.mem_append_right _ List.mem_cons_self)
      have w3 : Jvm.Cond.arrayClass .int ∈ gx_words := gx_wA (by simp)
      intro T hT X
      obtain ⟨vm₁, cA, comp, hW, fA, fC, hO, hI, X', step⟩ := X.multianewarray2F hx hown (hw _ w1) (hw _ w2) (hw _ w3) (g := F0 m pc ls (.int k :: .int n :: gx_t ba b r)) rfl (by rw [hb]; exact hd) rfl c3 c4
        (by omega) (by show _ * 4 ≤ _; omega) (by omega) rfl rfl hc hsl
      obtain ⟨-, -, -, -, k3, -⟩ := hA 4 (by decide)
      obtain ⟨-, -, -, -, k4, -⟩ := hA 0 (by decide)
      have ecA : cA = aC 4 := Option.some.inj (fA.symm.trans k3)
      have ecC : comp = aC 0 := Option.some.inj (fC.symm.trans k4)
      subst ecA
      subst ecC
      obtain ⟨f1, f2, f3, f4⟩ := Jvm.Free.Multi.fill_facts (T.setVm vm₁) (aC 4) (aC 0) n.toNatClampNeg k.toNatClampNeg (defaultValue .int) n.toNatClampNeg
      have hsz : (T.setVm vm₁).heap.size = H.size := by rw [← hT]; rfl
      have hhp : (T.setVm vm₁).heap = H := by rw [← hT]; rfl
      rw [hsz] at f1 f2
      have e6 : ba + h0.length = H.size := hr.1.symm
      have hold : ∀ q, q < H.size → (Jvm.Free.Multi.fill (T.setVm vm₁) (aC 4) (aC 0) n.toNatClampNeg k.toNatClampNeg (defaultValue .int) n.toNatClampNeg).heap[q]? = H[q]? := fun q hq => by
        have := Jvm.Free.Multi.fill_old (T.setVm vm₁) (aC 4) (aC 0) n.toNatClampNeg k.toNatClampNeg (defaultValue .int) (a := q) (by rw [hsz]; exact hq) n.toNatClampNeg
        rw [hhp] at this
        exact this
      have hrel : gx_rel D aC ba b (h0 ++ ((104, (List.range n.toNatClampNeg).map (fun i => Value.ref (h0.length + 1 + i))) :: List.replicate n.toNatClampNeg (100, List.replicate k.toNatClampNeg (.int 0)))) (Jvm.Free.Multi.fill (T.setVm vm₁) (aC 4) (aC 0) n.toNatClampNeg k.toNatClampNeg (defaultValue .int) n.toNatClampNeg).heap := by
        refine ⟨by rw [f1, hr.1]; simp; omega, fun j d hj => ?_⟩
        by_cases q1 : j < h0.length
        · rw [List.getElem?_append_left q1] at hj
          exact (hr.2 j d hj).kept (hold _ (by omega))
        · rw [List.getElem?_append_right (by omega)] at hj
          by_cases q2 : j = h0.length
          · subst q2
            rw [Nat.sub_self] at hj
            cases hj
            rw [e6]
            refine gx_at_arr (t := 4) ⟨_, f2, (Jvm.Free.Multi.outerC_facts _ _ _ _).1, (Jvm.Free.Multi.outerC_facts _ _ _ _).2.1, ?_⟩
            apply Array.ext_getElem?
            intro i
            by_cases hi : i < n.toNatClampNeg
            · rw [Jvm.Free.Multi.outerC_slot _ _ _ _ _ hi, if_pos hi]
              have e9 : H.size + 1 + i = ba + (h0.length + 1 + i) := by omega
              simp only [gx_t, List.getElem?_toArray, List.getElem?_map, List.getElem?_range hi, Option.map_some, gx_v]
              rw [e9]
            · have a1 := (Jvm.Free.Multi.outerC_facts (aC 4) n.toNatClampNeg H.size n.toNatClampNeg).2.2
              have a2 : ((gx_t ba b ((List.range n.toNatClampNeg).map (fun i => Value.ref (h0.length + 1 + i)))).toArray).size = n.toNatClampNeg := by simp [gx_t]
              rw [Array.getElem?_eq_none (Nat.le_trans (Nat.le_of_eq a1) (Nat.not_lt.mp hi)), Array.getElem?_eq_none (Nat.le_trans (Nat.le_of_eq a2) (Nat.not_lt.mp hi))]
          · obtain ⟨z, hz⟩ : ∃ z, j - h0.length = z + 1 := ⟨j - h0.length - 1, by omega⟩
            rw [hz, List.getElem?_cons_succ, List.getElem?_replicate] at hj
            split at hj
            · rename_i hzn
              cases hj
              have e7 : ba + j = H.size + 1 + z := by omega
              rw [e7]
              have := Jvm.Free.Multi.fill_inner (T.setVm vm₁) (aC 4) (aC 0) n.toNatClampNeg k.toNatClampNeg (defaultValue .int) n.toNatClampNeg z hzn
              rw [hsz] at this
              exact gx_arrNew (t := 0) (v := .int 0) rfl this
            · cases hj
      obtain ⟨t, a1, b1⟩ := kk _ hrel (fun q hq => hold q (by omega)) _ rfl (by simpa only [Nat.add_assoc] using X')
      refine ⟨t, step t ?_, b1⟩
      have e8 : T.heap.size = ba + h0.length := by rw [hT]; exact hr.1
      rw [e8]
      exact a1
    · cases h3
  | _ => cases h
end GXM
end
section
section GXT
variable {p : Program} {l : Launch} {e : Env} {R : Room} {s : State} {m : MethodId} {args : Array Value} {below : List Frame} {meth : Method} {c : Code} {T : State} {locs : List Loc} {cells slots : Nat}
/-- an invocation under way, seen as one that begins here -/
theorem gx_rebase (X : Stand p l e R s m args below meth c T locs cells slots) {R' : Room} (h1 : R'.frames ≤ R.frames) (h2 : R'.locals ≤ R.locals) (h3 : cells + R'.cells ≤ R.cells) (h4 : slots + R'.slots ≤ R.slots) : Stand p l e R' (T.setFrames (.invoking m args :: below)) m args below meth c T [] 0 0 := by
  obtain ⟨g₀, hfr⟩ := X.frames_eq
  have hcur : T.cur < T.threads.size := State.cur_lt_of_frames hfr
  obtain ⟨th, hth, -⟩ := State.frames_cons hfr
  have hf' : (T.setFrames (.invoking m args :: below)).frames = .invoking m args :: below := State.frames_setFrames _ hcur
  have hm' : (T.setFrames (.invoking m args :: below)).vm.method? m = some meth := X.method'
  have hroom := X.room
  obtain ⟨hh1, hh2⟩ := X.heapHas h3 h4
  have hloc := State.localsInUse_invoking X.frames X.method X.code
  have hloc' := State.localsInUse_invoking hf' hm' X.code
  refine ⟨X.admits, X.cas, X.clock, hf', ?_, ?_, hm', X.code, X.here, X.tail, State.WarmedH.refl (T.setFrames (.invoking m args :: below)), (State.stackLimits_setFrames _ _ _).symm, (State.stackBytes_setFrames _ _).symm, ?_⟩
  · simp only [State.hasRoom, Bool.and_eq_true, decide_eq_true_eq] at hroom ⊢
    rw [hloc, X.frames] at hroom
    rw [hloc', hf', State.stackLimits_setFrames, X.limits, State.stackBytes_setFrames, X.bytes]
    obtain ⟨⟨⟨⟨r1, r2, r3, r4, r5, r6⟩, -⟩, -⟩, -⟩ := hroom
    refine ⟨⟨⟨⟨by omega, by omega, by omega, by omega, by omega, r6⟩, hh1⟩, hh2⟩, X.book⟩
  · have hh := X.hears
    have hc : ∀ x, (T.setFrames (.invoking m args :: below)).code? x = s.code? x := fun x => by
      rw [State.code?_eq, State.code?_eq]
      show (T.vm.method? x).bind _ = _
      rw [X.warmed.alike.method?]
    have hmm : (T.setFrames (.invoking m args :: below)).vm.method? m = s.vm.method? m := hm'.trans X.method.symm
    revert hh
    unfold State.hears
    split <;> simp only [hc, hmm] <;> exact id
  · obtain ⟨th', hth', -⟩ := State.frames_cons hf'
    have hcur' : (T.setFrames (.invoking m args :: below)).cur < (T.setFrames (.invoking m args :: below)).threads.size := State.cur_lt_of_frames hf'
    have h0 := (State.sameButNew.refl (T.setFrames (.invoking m args :: below)) hth').setFrames T.frames hcur'
    rw [State.setFrames_setFrames, State.setFrames_self hth] at h0
    exact h0
end GXT
end
section
/-! what holds at the law's beginning holds at every state behind it: the tables are warmer, the old cells are as they were -/
def gx_le (s U : State) : Prop := s.WarmedH U.vm ∧ ∀ q, q < s.heap.size → U.heap[q]? = s.heap[q]?
set_option maxHeartbeats 4000000 in
theorem gx_aom {A A' : Array Value} {u U : State} (hvm : u.vm.Alike U.vm) (h : (Jvm.Cond.arrayOver (.array .int)).before A u = true) : (Jvm.Cond.arrayOver (.array .int)).before A' U = true := by
  simp only [Cond.before, Cond.holds, Cond.value, beq_iff_eq, Option.bind_eq_some_iff, Option.map_eq_some_iff] at h ⊢
  obtain ⟨comp, hc, c, hi, k, hk, hb⟩ := h
  obtain ⟨k', hk', he⟩ := hvm.2.2 _ _ hk
  refine ⟨comp, by rw [hvm.findClass]; exact hc, c, ?_, k', hk', ?_⟩
  · refine (va_idx_bare U.vm comp).symm.trans ?_
    first | rw [hvm.bare_eq] | rw [← hvm.bare_eq]
    exact (va_idx_bare u.vm comp).trans hi
  · have e1 : k'.kind = k.kind := by rw [he]
    rw [e1, hvm.findClass]
    exact hb
set_option maxHeartbeats 4000000 in
theorem gx_lsm {O n d : String} {A A' : Array Value} {s U : State} (hL : gx_le s U) (h : (Jvm.Cond.laysStatic O n d).before A s = true) : (Jvm.Cond.laysStatic O n d).before A' U = true := by
  have h1 : (Jvm.Cond.laysStatic O n d).before A (s.setVm U.vm) = true := by
    have := Cond.value_setVm₂ (args := A) (o := none) (vm' := U.vm) (vm₁ := U.vm) (s := s) hL.1.alike hL.1.alike (.laysStatic O n d) [] rfl
    unfold Cond.before Cond.holds at h ⊢
    rw [this]
    exact h
  have e1 : (s.setVm U.vm).fieldFound? O n d = U.fieldFound? O n d := rfl
  simp only [Cond.before, Cond.holds, Cond.value, beq_iff_eq, State.vm_setVm, e1] at h1 ⊢
  split at h1
  · rename_i c c' k z f g1 g2
    obtain ⟨cell, g3, g4⟩ := Option.map_eq_some_iff.mp h1
    obtain ⟨a, g5, g6⟩ := Option.bind_eq_some_iff.mp g3
    have g6 : s.heap[a]? = some cell := g6
    have g7 : U.heap[a]? = some cell := by rw [hL.2 a (Array.getElem?_eq_some_iff.mp g6).1]; exact g6
    refine Option.map_eq_some_iff.mpr ⟨cell, Option.bind_eq_some_iff.mpr ⟨a, g5, g7⟩, g4⟩
  · cases h1
set_option maxHeartbeats 4000000 in
theorem gx_irm {O n d : String} {A A' : Array Value} {s U : State} (hL : gx_le s U) (h : (Jvm.Cond.isRef (.static O n d)).before A s = true) : (Jvm.Cond.isRef (.static O n d)).before A' U = true := by
  have h1 : (Jvm.Cond.isRef (.static O n d)).before A (s.setVm U.vm) = true := by
    have := Cond.value_setVm₂ (args := A) (o := none) (vm' := U.vm) (vm₁ := U.vm) (s := s) hL.1.alike hL.1.alike (.isRef (.static O n d)) [] rfl
    unfold Cond.before Cond.holds at h ⊢
    rw [this]
    exact h
  have key : ∀ v, (Term.static O n d).eval A (s.setVm U.vm) none [] (s.setVm U.vm) = some v → (Term.static O n d).eval A' U none [] U = some v := by
    intro v hv
    have e1 : (s.setVm U.vm).fieldNamed? O n d true = U.fieldNamed? O n d true := rfl
    simp only [Term.eval, e1, Option.bind_eq_bind, Option.bind_eq_some_iff] at hv ⊢
    obtain ⟨⟨z, k, sl⟩, g1, g2⟩ := hv
    obtain ⟨a, g3, cell, g4, g5⟩ := g2
    have g4 : s.heap[a]? = some cell := g4
    exact ⟨(z, k, sl), g1, a, g3, cell, by rw [hL.2 a (Array.getElem?_eq_some_iff.mp g4).1]; exact g4, g5⟩
  simp only [Cond.before, Cond.holds, Cond.value, beq_iff_eq] at h1 ⊢
  cases hv : (Term.static O n d).eval A (s.setVm U.vm) none [] (s.setVm U.vm) with
  | none => rw [hv] at h1; cases h1
  | some v => rw [hv] at h1; rw [key v hv]; exact h1
set_option maxHeartbeats 4000000 in
theorem gx_move {A A' : Array Value} {s U : State} (hL : gx_le s U) {w : Jvm.Cond} (hm : gx_mv w = true) (hin : w ∈ lw_tbl) (h : w.before A s = true) : w.before A' U = true := by
  unfold gx_mv at hm
  rw [Bool.or_eq_true] at hm
  rcases hm with hm | hm
  · exact word_at hL.1 (Or.inl hm) h
  · split at hm
    · exact word_at hL.1 (Or.inr ⟨_, rfl⟩) h
    · exact va_Nw.use rfl (va_Nw.warmM hL.1 (va_Nw.of rfl h))
    · exact va_Nw.use rfl (va_Nw.warmC hL.1 (va_Nw.of rfl h))
    · exact va_Nw.use rfl (va_Nw.warmD hL.1 (va_Nw.of rfl h))
    · rename_i ty
      have h2 : lw_tbl.all (fun w => match w with | .arrayOver ty => decide (ty = .array .int) || (match ty with | .object _ => true | _ => false) | _ => true) = true := by decide +kernel
      have h3 := List.all_eq_true.mp h2 _ hin
      dsimp only at h3
      rw [Bool.or_eq_true] at h3
      rcases h3 with h3 | h3
      · have h3 : ty = .array .int := of_decide_eq_true h3
        subst h3
        exact gx_aom hL.1.alike h
      · cases ty with
        | object C => exact va_AO.use (va_AO.moved hL.1.alike (va_AO.of h))
        | _ => cases h3
    · exact gx_lsm hL h
    · cases hm
end
section
/-! the machine's run -/
def gx_rr : Option FieldType → Bool
  | some (.object _) | some (.array _) => true
  | _ => false
def gx_e (j : Nat) (ins : Instr) (st : List Value) : Option (Option Value) := match ins with
  | .return_ => match st with
    | [] => if gx_rt j = none then some none else none
    | _ => none
  | .ireturn => match st with
    | [.int v] => match gx_rt j with
      | some ty => if narrow ty (.int v) = .int v then some (some (.int v)) else none
      | none => none
    | _ => none
  | .lreturn => match st with
    | [.long v] => if gx_rt j = some .long then some (some (.long v)) else none
    | _ => none
  | .areturn => match st with
    | [v] => if v.isRef = true ∧ gx_rr (gx_rt j) = true then some (some v) else none
    | _ => none
  | _ => none
def gx_xt (o idx : Nat) : Option Nat := (gx_XT.find? (fun q => q.1 == o && q.2.1 == idx)).map (fun q => q.2.2)
def gx_cov (q : Nat × Nat × Nat × Nat) (pc : Nat) : Bool := decide (q.1 ≤ pc) && decide (pc < q.2.1)
/-- classes of exceptions of which the first is not of the second's kind -/
def gx_NC : List (Nat × Nat) := [(9, 8), (11, 8)]
/-- the search through a method's handlers -/
def gx_catL (o pc : Nat) (h : gx_H) (x : Nat) : List (Nat × Nat × Nat × Nat) → Bool → Option (Option Nat)
  | [], seen => if seen = true then none else some none
  | q :: r, seen => if gx_cov q pc = true then (gx_xt o q.2.2.2).bind fun t => (h[x]?).bind fun y => if y.1 = t then some (some q.2.2.1) else if gx_NC.any (fun n => n.1 == y.1 && n.2 == t) = true then gx_catL o pc h x r true else none
    else gx_catL o pc h x r seen
/-- an exception x comes out of a call at pc: none covers pc, or where the first handler lies that does and that takes it -/
def gx_cat (j pc : Nat) (h : gx_H) (x : Nat) : Option (Option Nat) := gx_catL (gx_mo j) pc h x (gx_hd j) false
/-- throw new X("..") -/
def gx_th (j pc : Nat) (ins : Instr) (st : List Value) : Option Nat := match ins with
  | .new idx => match gx_I j (pc + 3), gx_I j (pc + 4), gx_I j (pc + 6), gx_I j (pc + 9) with
    | some .dup, some (.ldc si), some (.invokespecial ic), some .athrow => if gx_hd j = [] ∧ st = [] then (gx_TH.find? (fun q => q.1 == gx_mo j && (q.2.1 == idx && (q.2.2.1 == si && q.2.2.2.1 == ic)))).map (fun q => q.2.2.2.2) else none
    | _, _, _, _ => none
  | _ => none
def gx_run (xs : Option (List Int32)) : Nat → Nat → Nat → Nat → gx_L → List Value → gx_H → Nat → Nat → Option (Outcome × gx_H × Nat × Nat)
  | 0, _, _, _, _, _, _, _, _ => none
  | n + 1, d, j, pc, L, st, h, k, u => match gx_I j pc with
    | none => none
    | some ins => match gx_p (gx_mo j) (gx_nl j) ins pc L st with
      | some q => gx_run xs n d j q.1 q.2.1 q.2.2 h k u
      | none => match gx_q xs (gx_mo j) h ins pc L st with
        | some q => gx_run xs n d j q.1 q.2.1 q.2.2 h k u
        | none => match gx_w (gx_mo j) (gx_in j) h ins pc st with
          | some q => gx_run xs n d j q.1 L q.2.1 q.2.2 k u
          | none => match gx_n (gx_mo j) h ins pc st with
            | some q => gx_run xs n d j q.1 L q.2.1 q.2.2.1 (k + q.2.2.2.1) (u + q.2.2.2.2)
            | none => match gx_mu (gx_mo j) h ins pc st with
              | some q => gx_run xs n d j q.1 L q.2.1 q.2.2.1 (k + q.2.2.2.1) (u + q.2.2.2.2)
              | none => match gx_e j ins st with
                | some v => some (.returned v, h, k, u)
                | none => match gx_bi (gx_mo j) h ins pc st with
                  | some q => gx_run xs n d j q.1 L q.2.1 q.2.2 k u
                  | none => match gx_th j pc ins st with
                    | some t => some (.threw h.length, h ++ [(t, [])], k + 1, u + 6)
                    | none => match d, gx_c (gx_mo j) h ins st with
                      | d' + 1, some q => if (q.2.2.map fun v => v.category).sum ≤ 8 ∧ (lg_sl q.2.1).length ≤ gx_nl q.1 then (match gx_run xs n d' q.1 0 (lv_args 0 q.2.1) [] h 0 0 with
                        | some (.returned v, h', kc, uc) => gx_run xs n d j (pc + 3) L (v.toList ++ q.2.2) h' (k + kc) (u + uc)
                        | some (.threw x, h', kc, uc) => (match gx_cat j pc h' x with
                          | some none => some (.threw x, h', k + kc, u + uc)
                          | some (some pc') => gx_run xs n d j pc' L [.ref x] h' (k + kc) (u + uc)
                          | none => none)
                        | none => none) else none
                      | _, _ => none
/-! the small machine's run is the machine's own -/
def gx_oc (ba b : Nat) : Outcome → Outcome
  | .returned v => .returned (v.map (gx_v ba b))
  | .threw k => .threw (ba + k)
def gx_Q (D : va_G) (aC : Nat → ClassId) (ba b : Nat) (s : State) (below : List Frame) (o : Outcome) (h : gx_H) (k u : Nat) (t : State) : Prop :=
  t.status = .running ∧ Ended t below (gx_oc ba b o) ∧ s.WarmedH t.vm ∧ (∃ L : List Loc, s.sameButNew ({ t with vm := s.vm } : State) L k u ∧ ∀ q ∈ L, ba ≤ q.base) ∧ gx_rel D aC ba b h t.heap ∧ ∀ q, q < ba → t.heap[q]? = s.heap[q]?
def gx_rm (d : Nat) (R : Room) : Prop := d + 8 ≤ R.frames ∧ d * 100 + 300 ≤ R.locals
theorem gx_under {tb : Tables} {e : Env} {f : Frame} {below : List Frame} {s t : State} (h : Steps tb e (f :: below) s t) : Steps tb e below s t := by
  obtain ⟨n, hn, hw⟩ := h
  refine ⟨n, hn, fun k hk => ?_⟩
  obtain ⟨above, h1, h2, h3⟩ := hw k hk
  refine ⟨above ++ [f], by rw [h1]; simp, by simp, fun a q => ?_⟩
  cases above with
  | nil => exact h2 rfl
  | cons x r =>
    have := congrArg List.length q
    simp at this
theorem gx_mono (xs : Option (List Int32)) : ∀ (n d j pc : Nat) (L : gx_L) (st : List Value) (h : gx_H) (k u : Nat) (o : Outcome) (h' : gx_H) (k' u' : Nat), gx_run xs n d j pc L st h k u = some (o, h', k', u') → k ≤ k' ∧ u ≤ u' := by
  intro n
  induction n with
  | zero => intro d j pc L st h k u o h' k' u' e; cases e
  | succ n ih =>
    intro d j pc L st h k u o h' k' u' e
    rw [gx_run] at e
    repeat' split at e
    all_goals first
      | cases e; exact ⟨by omega, by omega⟩
      | exact ih _ _ _ _ _ _ _ _ _ _ _ _ e
      | (have := ih _ _ _ _ _ _ _ _ _ _ _ _ e; omega)
      | cases e
theorem W.mono {p : Program} {l : Launch} {e : Env} {R : Room} {s : State} {m : MethodId} {args : Array Value} {below : List Frame} {meth : Method} {c : Code} {H : Heap} {locs : List Loc} {cells slots : Nat} {Q Q' : State → Prop} {g : JFrame} (h : W p l e R s m args below meth c H locs cells slots Q g) (hq : ∀ t, Q t → Q' t) : W p l e R s m args below meth c H locs cells slots Q' g := fun T hT X => by
  obtain ⟨t, a, b⟩ := h T hT X
  exact ⟨t, a, hq t b⟩
/-- what is known of the law's beginning -/
def gx_s0 (s₀ : State) (D : va_G) (aC : Nat → ClassId) (ba b : Nat) (xs : Option (List Int32)) : Prop :=
  ba = s₀.heap.size ∧ b < ba ∧ (∀ w ∈ lw_tbl, w.before #[Value.ref b] s₀ = true) ∧ ((Jvm.Cond.isRef (.static "java/lang/Throwable" "UNASSIGNED_STACK" "[Ljava/lang/StackTraceElement;")).before #[Value.ref b] s₀ = true ∧ (Jvm.Cond.isRef (.static "java/lang/Throwable" "SUPPRESSED_SENTINEL" "Ljava/util/List;")).before #[Value.ref b] s₀ = true) ∧
  gx_KN s₀ D ∧ gx_AK s₀ aC ∧ (∀ l, xs = some l → gx_X b l s₀ s₀.heap) ∧ (∀ z ∈ gx_ST, ∃ q, vk_R (gx_o z.1) z.2.1 z.2.2 q s₀) ∧ ∀ n ∈ gx_NC, (Jvm.Cond.not (.castable (gx_xn n.1) (gx_xn n.2))).before #[Value.ref b] s₀ = true
/-- what is known of an invocation of method j -/
def gx_cx (p : Program) (e : Env) (s₀ : State) (D : va_G) (aC : Nat → ClassId) (ba b : Nat) (xs : Option (List Int32)) (j : Nat) (s : State) (m : MethodId) (meth : Method) (c : Code) : Prop :=
  p.tables.exec = Jvm.exec ∧ e.platform.stackTraces = false ∧ c.code = gx_b j ∧ c.maxLocals = gx_nl j ∧ c.exceptionTable.toList.map (fun h => (h.startPc, h.endPc, h.handlerPc, h.catchType)) = gx_hd j ∧ meth.sig.returnType = gx_rt j ∧ meth.locks = false ∧ (gx_in j = true → meth.name = "<init>") ∧
  s.vm.findClass (gx_o (gx_mo j)) = some m.cls ∧ gx_s0 s₀ D aC ba b xs ∧ gx_le s₀ s ∧ ∃ h, gx_rel D aC ba b h s.heap
theorem gx_wat {s₀ s : State} {D : va_G} {aC : Nat → ClassId} {ba b : Nat} {xs : Option (List Int32)} (h0 : gx_s0 s₀ D aC ba b xs) (hL : gx_le s₀ s) {A : Array Value} : ∀ w ∈ gx_words, w.before A s = true := fun w hw => by
  obtain ⟨h1, h2⟩ := List.mem_filter.mp hw
  exact gx_move hL h2 h1 (h0.2.2.1 w h1)
theorem gx_KNm {s U : State} {D : va_G} (h : gx_KN s D) (hvm : s.vm.Alike U.vm) : gx_KN U D := fun ci q hq => u_Kn_moved hvm (h ci q hq)
theorem gx_AKm {s U : State} {aC : Nat → ClassId} (h : gx_AK s aC) (hvm : s.vm.Alike U.vm) : gx_AK U aC := fun t ht => by
  obtain ⟨k, comp, h1, h2, h3, h4⟩ := h t ht
  obtain ⟨k', hk', he⟩ := hvm.2.2 _ _ h1
  exact ⟨k', comp, hk', by rw [he]; exact h2, by rw [hvm.findClass]; exact h3, fun e => by rw [hvm.findClass]; exact h4 e⟩
theorem gx_Xm {s₀ s : State} {H : Heap} {D : va_G} {aC : Nat → ClassId} {ba b : Nat} {xs : Option (List Int32)} (h0 : gx_s0 s₀ D aC ba b xs) (hvm : s₀.vm.Alike s.vm) (hH : ∀ q, q < ba → H[q]? = s₀.heap[q]?) : ∀ l, xs = some l → gx_X b l s H := by
  intro l hl
  obtain ⟨scr, q1, q2, q3, q4, q5⟩ := h0.2.2.2.2.2.2.1 l hl
  exact ⟨scr, by rw [hH b h0.2.1]; exact q1, State.isArrayOf_alike hvm q2, q3, q4, q5⟩
end
section
/-! throw new NoSuchElementException(".."): its constructor passes the text on by another pool number -/
def gx_six13 : ByteArray := ⟨#[0x2a, 0x2b, 0xb7, 0x00, 0x0d, 0xb1]⟩
theorem gx_s13_0 : decode gx_six13 0 = .ok (.aload_n 0, 1) := by decide +kernel
theorem gx_s13_1 : decode gx_six13 1 = .ok (.aload_n 1, 1) := by decide +kernel
theorem gx_s13_2 : decode gx_six13 2 = .ok (.invokespecial 13, 3) := by decide +kernel
theorem gx_s13_5 : decode gx_six13 5 = .ok (.return_, 1) := by decide +kernel
/-- what is asked of the tables -/
def gx_nsA (own : String) (ic : Nat) (X Y : String) (names : List String) : List Jvm.Cond :=
  Bundle.throwableAtoms ++ (Bundle.throwableSAtoms ++ (Bundle.passSAtoms X Y 13 gx_six13 ++ (Bundle.chainSAtoms Y names ++
  [.methodLink own ic (Bundle.initS X), .instantiable X 6, .selects X Bundle.tFill0 Bundle.tFill0, .selects X Bundle.tFill Bundle.tFill,
   .lays X Bundle.tN "cause" "Ljava/lang/Throwable;", .lays X Bundle.tN "stackTrace" Bundle.steD, .lays X Bundle.tN "suppressedExceptions" Bundle.listD, .lays X Bundle.tN "detailMessage" "Ljava/lang/String;",
   .isRef (.static Bundle.tN "UNASSIGNED_STACK" Bundle.steD), .isRef (.static Bundle.tN "SUPPRESSED_SENTINEL" Bundle.listD),
   .fieldLink Bundle.tN 198 Bundle.tN "backtrace" "Ljava/lang/Object;", .lays Bundle.tN Bundle.tN "backtrace" "Ljava/lang/Object;", .lays X Bundle.tN "backtrace" "Ljava/lang/Object;"])))
section GXNS
variable {p : Program} {l : Launch} {e : Env} {R : Room} {s : State} {m₀ : MethodId} {args : Array Value} {below : List Frame} {meth : Method} {c : Code} {V : State} {locs : List Loc} {cells slots : Nat}
/-- a method that a class selects for itself, asked of the tables -/
theorem gx_nsSel (X : Stand p l e R s m₀ args below meth c V locs cells slots) {cls : String} {cid : ClassId} {tn : MethodName} {mi : MethodId} (hf : s.vm.findClass cls = some cid) (hn : s.methodNamed? tn = some mi) (hi : tn.cls ≠ "java/lang/invoke/MethodHandle" ∧ tn.cls ≠ "java/lang/invoke/VarHandle") (h : (Jvm.Cond.selects cls tn tn).holds args s none s [] = true) : selectMethod e.platform s.vm cid mi = .method mi := by
  obtain ⟨c2, r2, m2, q1, q2, q3, q4, -⟩ := Cond.selects_spec h
  rw [hf] at q1; cases q1
  rw [State.methodFound?_of_named hn hi] at q2; cases q2
  rw [hn] at q3; cases q3
  rw [Launch.admits_selectMethod X.admits]; exact q4
/-- what a statics cell of the start still is -/
theorem gx_nsStat (X : Stand p l e R s m₀ args below meth c V locs cells slots) (hlocs : ∀ x ∈ locs, ∀ cell, s.heap[x.base]? = some cell → cell.vm.isStatics = false) {b : Addr} {cs : Cell} (hcs : s.heap[b]? = some cs) (hst : cs.vm.isStatics = true) : ∃ cv, V.heap[b]? = some cv ∧ cv.vm ≠ .unknown ∧ ∀ i : Nat, cv.slots[i]? = cs.slots[i]? := by
  obtain ⟨cv, h1, h2, -, h4⟩ := X.same.2.2.2.2.2 b cs hcs
  refine ⟨cv, h1, fun q => ?_, fun i => h4 i fun hm => ?_⟩
  · rw [h2] at q; rw [q] at hst; cases hst
  · have := hlocs _ hm cs hcs
    rw [hst] at this; cases this
set_option maxHeartbeats 4000000 in
theorem gx_ctorThrowN (X : Stand p l e R s m₀ args below meth c V locs cells slots) (hexec : p.tables.exec = Jvm.exec) (htr : e.platform.stackTraces = false) {own cls up : String} {names : List String} {ic : Nat}
    (hown : s.vm.findClass own = some m₀.cls) (hcls : Bundle.fit cls = true) (hup : Bundle.fit up = true) (hnames : ∀ n ∈ names, Bundle.fit n = true)
    (h : ∀ a ∈ gx_nsA own ic cls up names, a.before args s = true)
    (hlocs : ∀ x ∈ locs, ∀ cell, s.heap[x.base]? = some cell → cell.vm.isStatics = false)
    {a : Addr} {cX : ClassId} {kX : Class} (hfoundX : s.vm.findClass cls = some cX) (hkX : s.vm.classes[cX]? = some kX) (hcell : V.heap[a]? = some (freshCell cX kX)) (hnew : s.heap.size ≤ a)
    {msg : Value} (hmsg : msg.isRef = true)
    {g : JFrame} (hg : g.method = m₀) (hsize : g.locals.size = c.maxLocals) (hlocked : g.locked = none) (hentered : g.entered = []) {rest : List Value} (hstack : g.stack = msg :: .ref a :: .ref a :: rest)
    (hd6 : decode c.code g.pc = .ok (.invokespecial ic, 3)) (hd9 : decode c.code (g.pc + 3) = .ok (.athrow, 1)) (hout : ∀ x ∈ c.exceptionTable.toList, covers x (g.pc + 3) = false)
    (hRframes : names.length + 4 < R.frames) (hRlocals : 2 * g.monitorRoom + ((Value.ref a :: rest).map fun v => v.category).sum + (13 * (names.length + 2) + 42) ≤ R.locals) (hlocks : meth.locks = false) :
    ∃ U : State, Steps p.tables e below (V.setTop g) U ∧ U.status = .running ∧ Ended U below (.threw a) ∧ s.WarmedH U.vm ∧ s.sameButNew ({ U with vm := s.vm } : State) locs cells slots ∧
      ∃ ce, U.heap[a]? = some ce ∧ s.vm.findClass cls = some ce.cls ∧ ce.vm = .none := by
  have hpl : e.platform.magicAccessors = ({} : Platform).magicAccessors := by rw [X.admits.platform]
  have hin : ∀ x, x ∈ gx_nsA own ic cls up names → x.holds args s none s [] = true := fun x hx => h x hx
  obtain ⟨T, Z0, L, -, Y⟩ := ThrowableC.of_atoms (args := args) (s := s) (pl := e.platform) (by rw [X.admits.platform]) (by rw [X.admits.platform]) hpl (fun x hx => h x (by simp [gx_nsA, hx]))
  obtain ⟨Z, M, LZ, LM, hnZ⟩ := Init0T.ofS_atoms (args := args) hpl L Y (fun x hx => h x (by simp [gx_nsA, hx]))
  obtain ⟨P1, Ps, hlen, L1, hL, hP1m, hlink1, hlink⟩ := Bundle.chainS (args := args) hpl hnZ names up hup hnames (fun x hx => h x (by simp [gx_nsA, hx]))
  obtain ⟨P0, L0, hP0m, hP0s⟩ := PassC.ofS_atoms (args := args) (s := s) hpl (X := cls) (Y := up) (Bundle.fit_spec hcls).1 (Bundle.fit_spec hup).2 gx_s13_0 gx_s13_1 gx_s13_2 gx_s13_5 (fun x hx => h x (by simp [gx_nsA, hx]))
  have hfound : s.vm.findClass cls = some P0.m.cls := findClass_of_methodNamed hP0m
  cases Option.some.inj (hfoundX.symm.trans hfound)
  obtain ⟨c1, kX', hc1, hk, hord, -, -, hn6⟩ := Cond.instantiable_spec (hin (.instantiable cls 6) (by simp [gx_nsA]))
  cases Option.some.inj (hc1.symm.trans hfound)
  cases Option.some.inj (hkX.symm.trans hk)
  have hsel0 := gx_nsSel X hfound Y.fill0 (by decide) (hin (.selects cls Bundle.tFill0 Bundle.tFill0) (by simp [gx_nsA]))
  have hselF := gx_nsSel X hfound Y.fill (by decide) (hin (.selects cls Bundle.tFill Bundle.tFill) (by simp [gx_nsA]))
  obtain ⟨cs, hcs, hst⟩ := Y.statics
  obtain ⟨u0, hu0⟩ := Cond.staticRefV Y.unassigned L.unassignedStatic L.statics hcs hst (hin (.isRef (.static Bundle.tN "UNASSIGNED_STACK" Bundle.steD)) (by simp [gx_nsA]))
  obtain ⟨sen, hsen⟩ := Cond.staticRefV Y.sentinel L.sentinelStatic L.statics hcs hst (hin (.isRef (.static Bundle.tN "SUPPRESSED_SENTINEL" Bundle.listD)) (by simp [gx_nsA]))
  obtain ⟨ci198, i198, fB, hk198, hg198, ha198, hsB, -, hnB, htB, hffB⟩ := Cond.ownField (t := .object "java/lang/Object") Y.found L.cls (by decide +kernel) (hin (.fieldLink Bundle.tN 198 Bundle.tN "backtrace" "Ljava/lang/Object;") (by simp [gx_nsA])) (hin (.lays Bundle.tN Bundle.tN "backtrace" "Ljava/lang/Object;") (by simp [gx_nsA])) e.platform hpl
  obtain ⟨cv, hcv', hknown, hkeep⟩ := gx_nsStat X hlocs hcs hst
  have hne : T.aS ≠ a := Nat.ne_of_lt (Nat.lt_of_lt_of_le (Array.getElem?_eq_some_iff.mp hcs).1 hnew)
  obtain ⟨iM, hffM⟩ := Y.msg
  obtain ⟨tyC, dC, hdC, hdnC⟩ := Cond.laysAt hfound hk Y.cause (hin (.lays cls Bundle.tN "cause" "Ljava/lang/Throwable;") (by simp [gx_nsA]))
  obtain ⟨tyS, dS, hdS, hdnS⟩ := Cond.laysAt hfound hk Y.stack (hin (.lays cls Bundle.tN "stackTrace" Bundle.steD) (by simp [gx_nsA]))
  obtain ⟨tyP, dP, hdP, hdnP⟩ := Cond.laysAt hfound hk Y.supp (hin (.lays cls Bundle.tN "suppressedExceptions" Bundle.listD) (by simp [gx_nsA]))
  obtain ⟨tyM, dM, hdM, hdnM⟩ := Cond.laysAt hfound hk hffM (hin (.lays cls Bundle.tN "detailMessage" "Ljava/lang/String;") (by simp [gx_nsA]))
  obtain ⟨tyB, dB, hdB, hdnB⟩ := Cond.laysAt hfound hk hffB (hin (.lays cls Bundle.tN "backtrace" "Ljava/lang/Object;") (by simp [gx_nsA]))
  have bC := Cond.laysApart hdB hdC hdnB hdnC (by rw [hnB, Y.causeName]; decide)
  have bS := Cond.laysApart hdB hdS hdnB hdnS (by rw [hnB, Y.stackName]; decide)
  have bP := Cond.laysApart hdB hdP hdnB hdnP (by rw [hnB, Y.suppName]; decide)
  have hskip : SkipFacts T e.platform s (fun u => u) u0 ((preparedCellV T.toThrowableT (freshCell P0.m.cls kX) a u0 sen).withEntry V.cur) :=
    ⟨{ ci198 := ci198, i198 := i198, fBack := fB }, ⟨hk198, hg198, ha198, hsB⟩, by
      have := fresh_default (c := P0.m.cls) tyB
      rw [htB] at this
      simpa [preparedCellV, Cell.setSlot, Cell.withEntry, Array.getElem?_setIfInBounds, bC, bS, bP, bC.symm, bS.symm, bP.symm, defaultValue] using this, fun _ _ => rfl⟩
  obtain ⟨tm, -, -, -, vm₁, hnC, -, -, -, -, -, -, -, hW₁, st1⟩ := Steps.initColdS (tb := p.tables) (e := e) (below := below) (s := s) (U := V) X.here hexec X.warmed hpl hown (t := Bundle.initS cls) rfl rfl (Bundle.fit_spec hcls).2
    (hin (.methodLink own ic (Bundle.initS cls)) (by simp [gx_nsA])) (h (.instanceMethod (Bundle.initS cls)) (by simp [gx_nsA, Bundle.passSAtoms])) (bytes := gx_six13) (maxL := 2) (h (.code (Bundle.initS cls) gx_six13 2 none) (by simp [gx_nsA, Bundle.passSAtoms]))
    (f := g) hg (a := a) (msg := msg) (rest := .ref a :: rest) hstack hd6
  cases Option.some.inj (hnC.symm.trans hP0m)
  obtain ⟨vm₂, X₂, st2⟩ := (X.noted hW₁).ctorMessageOffV hexec (g := { g with stack := .ref a :: rest }) hg hsize T L Z LZ M LM (P0 :: P1 :: Ps)
    (fun P hP => by
      rcases List.mem_cons.mp hP with rfl | hP
      · exact L0
      · rcases List.mem_cons.mp hP with rfl | hP
        · exact L1
        · exact hL P hP) ⟨Option.some.inj (hP0s.symm.trans hP1m), hlink1, hlink⟩ (u0 := u0) (sen := sen) (self := a) hmsg (cell := freshCell P0.m.cls kX) (cellS := cv)
    hcell (fun _ => by simp) (by simp) rfl rfl hsel0 hselF hcv' hne hknown (by rw [hkeep]; exact hu0) (by rw [hkeep]; exact hsen)
    (Takes.of_laid hk hord tyC (by rw [Y.causeType]; rfl)) (Takes.of_laid hk hord tyS (by rw [Y.stackType]; exact fits_refV_array _ u0)) (Takes.of_laid hk hord tyP (by rw [Y.suppType]; exact fits_refV_object _ sen))
    (Takes.of_laid hk hord tyM (by rw [Y.msgType]; exact fits_refV_object _ ⟨msg, hmsg⟩)) Y.objLocals hskip htr [] hd6
    (by simp only [List.length_cons, hlen]; omega) (by simp only [List.length_cons, hlen]; exact hRlocals)
  obtain ⟨hwalk, hrun, hended, hWU, hsame⟩ := X₂.athrowLeaves hexec (g := { g with stack := .ref a :: rest, pc := g.pc + 3 }) hg hlocked hentered hout (a := a) (rest := rest) rfl hd9 hlocks
  have hlt : a < ((V.setVm vm₁).setVm vm₂).heap.size := (Array.getElem?_eq_some_iff.mp hcell).1
  have hU := heapAt_setCell_self (s := (V.setVm vm₁).setVm vm₂) (plainBareV T.toThrowableT (freshCell P0.m.cls kX) a u0 sen msg) hlt
  refine ⟨_, st1 _ (fun acts => ?_), hrun, hended, hWU, hsame.weaken (fun y hy hlt' => ?_) (Nat.le_refl _) (Nat.le_refl _), _, hU, hfound, rfl⟩
  · rw [doInvoke_state]
    exact st2 _ hwalk
  · rcases List.mem_append.mp hy with h1 | h1
    · exact h1
    · exfalso
      have hb : y.base = a := by
        simp only [List.mem_cons, List.not_mem_nil, or_false] at h1
        rcases h1 with rfl | rfl | rfl | rfl | rfl <;> rfl
      rw [hb] at hlt'
      exact Nat.not_lt.mpr hnew hlt'
end GXNS
end
section
theorem gx_owI : ∀ z ∈ gx_XK, ((Bundle.ownAtoms (gx_o z.1) z.2.1 (gx_xn z.2.2) gx_up).filter gx_isr).all (fun w => decide (w = .isRef (.static "java/lang/Throwable" "UNASSIGNED_STACK" "[Ljava/lang/StackTraceElement;") ∨ w = .isRef (.static "java/lang/Throwable" "SUPPRESSED_SENTINEL" "Ljava/util/List;"))) = true := by decide +kernel
theorem gx_owNI : ∀ z ∈ gx_XKN, ((gx_nsA (gx_o z.1) z.2.1 (gx_xn z.2.2) "java/lang/RuntimeException" ["java/lang/Exception"]).filter gx_isr).all (fun w => decide (w = .isRef (.static "java/lang/Throwable" "UNASSIGNED_STACK" "[Ljava/lang/StackTraceElement;") ∨ w = .isRef (.static "java/lang/Throwable" "SUPPRESSED_SENTINEL" "Ljava/util/List;"))) = true := by decide +kernel
theorem gx_owN : ∀ z ∈ gx_XKN, (gx_nsA (gx_o z.1) z.2.1 (gx_xn z.2.2) "java/lang/RuntimeException" ["java/lang/Exception"]).all (fun w => gx_isr w || (decide (w ∈ lw_tbl) && gx_mv w)) = true := by decide +kernel
theorem gx_fitR : Bundle.fit "java/lang/RuntimeException" = true := by decide +kernel
theorem gx_fitX : ∀ n ∈ ["java/lang/Exception"], Bundle.fit n = true := by decide +kernel
theorem gx_xrow {z : Nat × Nat × Nat} (hz : z ∈ gx_XK ++ gx_XKN) : ∃ r, gx_cl[z.2.2]? = some r ∧ r.1 = gx_xn z.2.2 ∧ r.2.2 = 0 := by
  have h : (gx_XK ++ gx_XKN).all (fun z => match gx_cl[z.2.2]? with | some r => decide (r.1 = gx_xn z.2.2 ∧ r.2.2 = 0) | none => false) = true := by decide +kernel
  have h1 := List.all_eq_true.mp h z hz
  split at h1
  · rename_i r hr
    exact ⟨r, hr, of_decide_eq_true h1⟩
  · cases h1
/-- the four instructions behind 'new' of a throw -/
theorem gx_th_e {j pc t : Nat} {ins : Instr} {st : List Value} (h : gx_th j pc ins st = some t) : ∃ idx si ic, ins = .new idx ∧ gx_I j (pc + 3) = some .dup ∧ gx_I j (pc + 4) = some (.ldc si) ∧ gx_I j (pc + 6) = some (.invokespecial ic) ∧ gx_I j (pc + 9) = some .athrow ∧ gx_hd j = [] ∧ st = [] ∧ (gx_mo j, idx, si, ic, t) ∈ gx_TH := by
  unfold gx_th at h
  split at h
  · rename_i idx
    split at h
    · rename_i si ic g1 g2 g3 g4
      split at h
      · rename_i hc
        obtain ⟨⟨a, i2, s2, c2, t2⟩, h1, h2⟩ := Option.map_eq_some_iff.mp h
        have h3 := List.find?_some h1
        have h4 := List.mem_of_find?_eq_some h1
        simp only [Bool.and_eq_true, beq_iff_eq] at h3
        obtain ⟨rfl, rfl, rfl, rfl⟩ := h3
        cases h2
        exact ⟨i2, s2, c2, rfl, g1, g2, g3, g4, hc.1, hc.2, h4⟩
      · cases h
    · cases h
  · cases h
section GXTH
variable {p : Program} {l : Launch} {e : Env} {R : Room} {s : State} {m : MethodId} {args : Array Value} {below : List Frame} {meth : Method} {c : Code} {H : Heap} {locs : List Loc} {cells slots : Nat}
variable {ls : Array Slot} {s₀ : State} {D : va_G} {aC : Nat → ClassId} {ba b : Nat} {h0 : gx_H} {xs : Option (List Int32)} {j : Nat}
theorem gx_d1 {j pc n : Nat} {ins : Instr} (h : gx_I j pc = some ins) (hn : gx_lok ins n = true → gx_len ins = n) (hs : ∀ k, gx_lok ins k = true → k = gx_len ins) : decode (gx_b j) pc = .ok (ins, gx_len ins) := by
  obtain ⟨len, h1, h2⟩ := gx_dec h
  rw [h1, hs len h2]
set_option maxHeartbeats 4000000 in
theorem gx_thW (C0 : gx_cx p e s₀ D aC ba b xs j s m meth c) (hml : c.maxLocals = ls.size) (hr : gx_rel D aC ba b h0 H) (hH : ∀ q, q < ba → H[q]? = s₀.heap[q]?) (hlo : ∀ q ∈ locs, ba ≤ q.base) (hR : 8 ≤ R.frames ∧ 300 ≤ R.locals)
    {ins : Instr} {pc t : Nat} {st : List Value} (hi : gx_I j pc = some ins) (h : gx_th j pc ins st = some t) (hc : cells + 1 ≤ R.cells) (hsl : slots + 6 ≤ R.slots) :
    W p l e R s m args below meth c H locs cells slots (gx_Q D aC ba b s below (.threw h0.length) (h0 ++ [(t, [])]) (cells + 1) (slots + 6)) (F0 m pc ls (gx_t ba b st)) := by
  obtain ⟨idx, si, ic, rfl, g3, g4, g6, g9, hhd, rfl, hth⟩ := gx_th_e h
  obtain ⟨hx, htr, hb, hnl, hhand, hret, hlocks, hini, hown, hs0, hle, hrel0⟩ := C0
  obtain ⟨x1, x2, x3⟩ := gx_THok _ hth
  dsimp only at x1 x2 x3
  have hd0 : decode (gx_b j) pc = .ok (.new idx, 3) := by
    obtain ⟨len, h1, h2⟩ := gx_dec hi
    have e1 : len = 3 := by simpa [gx_lok, gx_len] using h2
    subst e1; exact h1
  have hd3 : decode (gx_b j) (pc + 3) = .ok (.dup, 1) := by
    obtain ⟨len, h1, h2⟩ := gx_dec g3
    have e1 : len = 1 := by simpa [gx_lok, gx_len] using h2
    subst e1; exact h1
  have hd4 : decode (gx_b j) (pc + 4) = .ok (.ldc si, 2) := by
    obtain ⟨len, h1, h2⟩ := gx_dec g4
    have e1 : len = 2 := by simpa [gx_lok, gx_len] using h2
    subst e1; exact h1
  have hd6 : decode (gx_b j) (pc + 6) = .ok (.invokespecial ic, 3) := by
    obtain ⟨len, h1, h2⟩ := gx_dec g6
    have e1 : len = 3 := by simpa [gx_lok, gx_len] using h2
    subst e1; exact h1
  have hd9 : decode (gx_b j) (pc + 9) = .ok (.athrow, 1) := by
    obtain ⟨len, h1, h2⟩ := gx_dec g9
    have e1 : len = 1 := by simpa [gx_lok, gx_len] using h2
    subst e1; exact h1
  have htab : c.exceptionTable.toList = [] := by
    rw [hhd] at hhand
    exact List.map_eq_nil_iff.mp hhand
  obtain ⟨sz, hsz⟩ := Option.isSome_iff_exists.mp x3
  have hsm := List.mem_of_find?_eq_some hsz
  have hse := List.find?_some hsz
  simp only [Bool.and_eq_true, beq_iff_eq] at hse
  obtain ⟨qm, hqm⟩ := hs0.2.2.2.2.2.2.2.1 sz hsm
  rw [hse.1, hse.2] at hqm
  have hfit := gx_fitA _ (List.mem_append.mpr x2)
  intro T hT X
  have hles : gx_le s₀ (T.setFrames (.invoking m args :: below)) := ⟨State.WarmedH.trans hle.1 X.warmed, fun q hq => by
    show T.heap[q]? = _
    rw [hT]
    exact hH q (by rw [hs0.1]; exact hq)⟩
  have X0 := gx_rebase X (R' := { frames := R.frames, cells := 1, slots := 6, locals := R.locals }) (Nat.le_refl _) (Nat.le_refl _) hc hsl
  generalize hs' : T.setFrames (.invoking m args :: below) = s' at X0 hles
  have hheap' : s'.heap = H := by rw [← hs', ← hT]; rfl
  have hvm' : s'.vm = T.vm := by rw [← hs']; rfl
  have hws : ∀ w ∈ gx_words, w.before args s' = true := gx_wat hs0 hles
  have hown' : s'.vm.findClass (gx_o (gx_mo j)) = some m.cls := by
    rw [hvm', X.warmed.alike.findClass]; exact hown
  have hKN := gx_KNm hs0.2.2.2.2.1 hles.1.alike
  have hatom : ∀ (ws : List Jvm.Cond), ws.all (fun w => gx_isr w || (decide (w ∈ lw_tbl) && gx_mv w)) = true → (ws.filter gx_isr).all (fun w => decide (w = .isRef (.static "java/lang/Throwable" "UNASSIGNED_STACK" "[Ljava/lang/StackTraceElement;") ∨ w = .isRef (.static "java/lang/Throwable" "SUPPRESSED_SENTINEL" "Ljava/util/List;"))) = true → ∀ w ∈ ws, w.before args s' = true := by
    intro ws hall hisr w hw
    have h1 := List.all_eq_true.mp hall w hw
    rw [Bool.or_eq_true] at h1
    rcases h1 with h1 | h1
    · have h2 := of_decide_eq_true (List.all_eq_true.mp hisr w (List.mem_filter.mpr ⟨hw, h1⟩))
      rcases h2 with rfl | rfl
      · exact gx_irm hles hs0.2.2.2.1.1
      · exact gx_irm hles hs0.2.2.2.1.2
    · rw [Bool.and_eq_true] at h1
      exact hws w (List.mem_filter.mpr ⟨of_decide_eq_true h1.1, h1.2⟩)
  have hxw : ∀ w ∈ gx_xw (gx_mo j, idx, t), w.before args s' = true := fun w hw => hws w (gx_pick gx_cXC.1 gx_cXC.2 (List.mem_flatMap.mpr ⟨_, x1, hw⟩))
  have K : W p l e { frames := R.frames, cells := 1, slots := 6, locals := R.locals } s' m args below meth c s'.heap [] 0 0 (fun U => U.status = .running ∧ Ended U below (.threw H.size) ∧ s'.WarmedH U.vm ∧ s'.sameButNew ({ U with vm := s'.vm } : State) [] 1 6 ∧ ∃ ce, U.heap[H.size]? = some ce ∧ s'.vm.findClass (gx_xn t) = some ce.cls ∧ ce.vm = .none) (F0 m pc ls []) := by
    refine W.newc hx hb hown' (hxw _ List.mem_cons_self) (hxw _ (List.mem_cons_of_mem _ List.mem_cons_self)) (hxw _ (List.mem_cons_of_mem _ (List.mem_cons_of_mem _ List.mem_cons_self))) rfl hd0 (Nat.le_refl _) (Nat.le_refl _) fun cC kC f1 f2 f3 f4 => ?_
    rw [hheap']
    refine lv_dup hx hb hd3 rfl ?_
    refine va_ldcS hx hb hown' (vk_R.warm hles.1 hqm) hd4 ?_
    intro T2 hT2 X2
    rcases x2 with x2 | x2
    · obtain ⟨U, u1, u2, u3, u4, u5, ce, u6, u7⟩ := X2.ctorThrowS hx htr hown' hfit.1 gx_fitU (hatom _ (gx_owA _ x2) (gx_owI _ x2)) (fun x hx => by cases hx) f1 f2 (by rw [hT2]; simp [freshCell]) (by rw [hheap']; exact Nat.le_refl _) (msg := .ref qm) rfl (g := F0 m (pc + 6) ls [.ref qm, .ref H.size, .ref H.size]) rfl hml.symm rfl rfl (rest := []) rfl (by rw [hb]; exact hd6) (by rw [hb]; exact hd9) (fun x hx => by rw [htab] at hx; cases hx)
        (by show 2 + 3 < R.frames; omega) (by show 2 * 0 + (1 + 0) + (13 * (2 + 1) + 42) ≤ R.locals; omega) hlocks
      exact ⟨U, u1, u2, u3, u4, u5, ce, u6, u7.cls, u7.vm⟩
    · obtain ⟨U, u1, u2, u3, u4, u5, ce, u6, u7⟩ := gx_ctorThrowN X2 hx htr hown' hfit.1 gx_fitR gx_fitX (hatom _ (gx_owN _ x2) (gx_owNI _ x2)) (fun x hx => by cases hx) f1 f2 (by rw [hT2]; simp [freshCell]) (by rw [hheap']; exact Nat.le_refl _) (msg := .ref qm) rfl (g := F0 m (pc + 6) ls [.ref qm, .ref H.size, .ref H.size]) rfl hml.symm rfl rfl (rest := []) rfl (by rw [hb]; exact hd6) (by rw [hb]; exact hd9) (fun x hx => by rw [htab] at hx; cases hx)
        (by show 1 + 4 < R.frames; omega) (by show 2 * 0 + (1 + 0) + (13 * (1 + 2) + 42) ≤ R.locals; omega) hlocks
      exact ⟨U, u1, u2, u3, u4, u5, ce, u6, u7⟩
  obtain ⟨U, hU, k1, k2, k3, k4, ce, k5, k6⟩ := K T (by rw [hheap']; exact hT) X0
  have hsize : U.heap.size = H.size + 1 := by
    have a1 : U.heap.size ≤ s'.heap.size + 1 := k4.2.2.1
    rw [hheap'] at a1
    have a2 : H.size < U.heap.size := (Array.getElem?_eq_some_iff.mp k5).1
    omega
  have hold : ∀ q, q < H.size → U.heap[q]? = H[q]? := fun q hq => by
    have e1 : s'.heap[q]? = some H[q] := by rw [hheap']; exact Array.getElem?_eq_getElem hq
    have := k4.old_cell e1
    rw [show U.heap[q]? = some H[q] from this, Array.getElem?_eq_getElem hq]
  have hba : ba ≤ H.size := by rw [hr.1]; omega
  obtain ⟨r1, hr1, hr1n, hr1z⟩ := gx_xrow (List.mem_append.mpr x2)
  refine ⟨U, hU, k1, ?_, State.WarmedH.trans X.warmed (show T.WarmedH U.vm from ?_), ⟨locs, ?_, hlo⟩, ?_, ?_⟩
  · rw [show gx_oc ba b (.threw h0.length) = .threw H.size from by rw [gx_oc, hr.1]]
    exact k2
  · rw [← hs'] at k3
    exact k3
  · have hB : T.sameButNew ({ U with vm := T.vm } : State) [] 1 6 := by
      rw [← hs'] at k4
      obtain ⟨e1, q2, q3, q4, q5, q6⟩ := k4
      refine ⟨?_, q2, q3, q4, q5, q6⟩
      have e2 : ({ U with vm := T.vm } : State) = _ := e1
      rw [State.setFrames_setFrames] at e2
      exact e2
    have := X.same.trans (hB.setVm s.vm)
    rw [List.append_nil] at this
    exact this
  · refine hr.push hsize hold ?_
    unfold gx_at
    rw [if_pos hfit.2]
    refine ⟨r1, hr1, hr1z, ce, k5, ?_, k6.2, fun k hk => by rw [hr1z] at hk; cases hk⟩
    have a1 := (hKN t r1 hr1).2.1
    have a2 := k6.1
    rw [hr1n] at a1
    exact Option.some.inj (a2.symm.trans a1)
  · intro q hq
    rw [hold q (by omega), hH q hq, hle.2 q (by rw [← hs0.1]; exact hq)]
end GXTH
end
section
section GXK
variable {p : Program} {l : Launch} {e : Env} {R : Room} {s : State} {m : MethodId} {args : Array Value} {below : List Frame} {meth : Method} {c : Code} {T : State} {locs : List Loc} {cells slots : Nat}
/-- a catch type, resolved now or before: the search as from the tables that the resolution leaves -/
theorem gx_goC {Q : Handler → Pre} {E : CtlPost} {d : Bool} {acts : List Action} {S : State} {f : JFrame} {a : Addr} {x : ExceptionTableEntry} {t : List ExceptionTableEntry} {cc : ClassId} {vm' : Vm} (hx : covers x f.pc = true) (h0 : x.catchType ≠ 0)
    (hg : (Jvm.resolveClass f.method.cls x.catchType).Gives e.toSetting S.vm (.ok cc) vm') (hr : vm'.classReady f.method.cls x.catchType cc) (hsz : vm'.classes.size ≤ S.vm.classes.size) :
    wp (findHandler.go f a (x :: t)) Q E e d acts S ↔ wp (findHandler.go f a (x :: t)) Q E e d acts (S.setVm vm') := by
  obtain ⟨ha, ht⟩ := hg.op (op := VmOp.resolveClass f.method.cls x.catchType) rfl
  simp only [covers] at hx
  obtain ⟨k, hkd, hres⟩ := hr
  simp [findHandler.go, hx, h0, ha, ht, hsz, resolveClass_memo e hkd hres, VmOp.dirties, VmOp.acts]
  exact Iff.rfl
theorem gx_nc {A B : String} {ca cb : ClassId} {s : State} {args : Array Value} (h : (Jvm.Cond.not (.castable A B)).before args s = true) (hA : s.vm.findClass A = some ca) (hB : s.vm.findClass B = some cb) : s.vm.assignable ca cb = false := by
  simpa [Cond.before, Cond.holds, Cond.value, hA, hB] using h
theorem gx_ncm {A B : String} {s₀ s : State} {args₀ args : Array Value} (hal : s₀.vm.Alike s.vm) (h : (Jvm.Cond.not (.castable A B)).before args₀ s₀ = true) : (Jvm.Cond.not (.castable A B)).before args s = true := by
  simp only [Cond.before, Cond.holds, Cond.value] at h ⊢
  rw [hal.findClass, hal.findClass]
  cases hA : s₀.vm.findClass A with
  | none => rw [hA] at h; cases h
  | some ca =>
    cases hB : s₀.vm.findClass B with
    | none => rw [hA, hB] at h; cases h
    | some cb =>
      rw [hA, hB] at h
      simp only at h ⊢
      rw [hal.assignable]
      exact h
/-- the search through a class file's own handlers, as the small machine's -/
theorem gx_findL {own : String} (hown : s.vm.findClass own = some m.cls) {a : Addr} {ce : Cell} {t0 : Nat} (hvm : ce.vm = .none) (hcls : s.vm.findClass (gx_xn t0) = some ce.cls) (hkc : ∃ k, s.vm.classes[ce.cls]? = some k)
    {g : JFrame} (hg : g.method = m) {o : Nat} {h : gx_H} {x : Nat} {fs : List Value} (hx : h[x]? = some (t0, fs)) (hcast : (Cond.castable (gx_xn t0) (gx_xn t0)).before args s = true)
    (hnc : ∀ t, gx_NC.any (fun n => n.1 == t0 && n.2 == t) = true → (Jvm.Cond.not (.castable (gx_xn t0) (gx_xn t))).before args s = true)
    (hw : ∀ idx t, gx_xt o idx = some t → idx ≠ 0 ∧ (Cond.classLink own idx (gx_xn t)).before args s = true) :
    ∀ (L : List ExceptionTableEntry) (seen : Bool) (pc' : Nat) (T : State), Stand p l e R s m args below meth c T locs cells slots → gx_catL o g.pc h x (L.map (fun h => (h.startPc, h.endPc, h.handlerPc, h.catchType))) seen = some (some pc') →
      ∃ vm₁, Stand p l e R s m args below meth c (T.setVm vm₁) locs cells slots ∧ ∀ (S : State), S.vm = T.vm → S.heap[a]? = some ce → ∀ (Q : Handler → Pre) (E : CtlPost) (d : Bool) (acts : List Action), wp (findHandler.go g a L) Q E e d acts S ↔ Q (.found pc') d acts (S.setVm vm₁) := by
  subst hg
  intro L
  induction L with
  | nil =>
    intro seen pc' T X hc
    rw [List.map_nil, gx_catL] at hc
    split at hc <;> cases hc
  | cons y L ih =>
    intro seen pc' T X hc
    rw [List.map_cons, gx_catL] at hc
    split at hc
    · rename_i hcov
      have hcov2 : covers y g.pc = true := hcov
      obtain ⟨t, ht, hc1⟩ := Option.bind_eq_some_iff.mp hc
      rw [hx, Option.bind_some] at hc1
      dsimp only at ht hc1
      obtain ⟨hn0, hlink⟩ := hw _ _ ht
      have hpl : e.platform.magicAccessors = ({} : Platform).magicAccessors := by rw [X.admits.platform]
      obtain ⟨cc, hfcc, hcl⟩ := Cond.classLink_spec hown hlink e.platform hpl
      obtain ⟨hg₁, hwarm₁, hready₁⟩ := State.classEntry (e := e) X.warmed hcl
      generalize T.vm.noted g.method.cls y.catchType (.cls cc) = vm₁ at hg₁ hwarm₁ hready₁
      have X₁ := X.noted hwarm₁
      obtain ⟨k1, hk1⟩ := hkc
      obtain ⟨k1', hk1', -⟩ := (X₁.warmed).alike.2.2 _ _ hk1
      obtain ⟨kc, hkc0, -⟩ := Vm.findClass_spec hfcc
      obtain ⟨kc', hkc', -⟩ := (X₁.warmed).alike.2.2 _ _ hkc0
      split at hc1
      · rename_i he
        subst he
        cases hc1
        cases hcls.symm.trans hfcc
        obtain ⟨c1, c2, q1, q2, q3⟩ := Cond.castable_spec hcast
        cases hcls.symm.trans q1
        cases hcls.symm.trans q2
        refine ⟨vm₁, X₁, fun S hS1 hS2 Q E d acts => ?_⟩
        rw [gx_goC hcov2 hn0 (by rw [hS1]; exact hg₁) hready₁ (by rw [hS1]; exact Vm.Alike.size_le (alike_of X.warmed hwarm₁)),
          W.findHandler_go_class (s := S.setVm vm₁) (c := ce.cls) (cell := ce) hcov2 hn0 hready₁ hS2 (fun z hz => by rw [hvm] at hz; cases hz) ⟨k1', hk1'⟩ ⟨k1', hk1'⟩, if_pos (show (S.setVm vm₁).vm.assignable ce.cls ce.cls = true from (X₁.warmed.alike.assignable _ _).trans q3)]
      · split at hc1
        · rename_i hany
          have hno := gx_nc (hnc t hany) hcls hfcc
          obtain ⟨vm₂, X₂, hgo⟩ := ih true pc' (T.setVm vm₁) X₁ hc1
          refine ⟨vm₂, X₂, fun S hS1 hS2 Q E d acts => ?_⟩
          rw [gx_goC hcov2 hn0 (by rw [hS1]; exact hg₁) hready₁ (by rw [hS1]; exact Vm.Alike.size_le (alike_of X.warmed hwarm₁)),
            W.findHandler_go_class (s := S.setVm vm₁) (c := cc) (cell := ce) hcov2 hn0 hready₁ hS2 (fun z hz => by rw [hvm] at hz; cases hz) ⟨k1', hk1'⟩ ⟨kc', hkc'⟩, if_neg (show ¬ (S.setVm vm₁).vm.assignable ce.cls cc = true from by
              rw [show (S.setVm vm₁).vm.assignable ce.cls cc = false from (X₁.warmed.alike.assignable _ _).trans hno]; exact Bool.false_ne_true)]
          exact hgo (S.setVm vm₁) rfl hS2 Q E d acts
        · cases hc1
    · rename_i hcov
      have hcov2 : covers y g.pc = false := Bool.eq_false_iff.mpr hcov
      obtain ⟨vm₂, X₂, hgo⟩ := ih seen pc' T X hc
      refine ⟨vm₂, X₂, fun S hS1 hS2 Q E d acts => ?_⟩
      rw [W.findHandler_go_skip hcov2]
      exact hgo S hS1 hS2 Q E d acts
set_option maxHeartbeats 4000000 in
/-- an exception at a is caught where the search through the handlers says -/
theorem gx_caught (X : Stand p l e R s m args below meth c T locs cells slots) {own : String} (hown : s.vm.findClass own = some m.cls) {a : Addr} {ce : Cell} {t0 : Nat} (hce : T.heap[a]? = some ce) (hvm : ce.vm = .none) (hcls : s.vm.findClass (gx_xn t0) = some ce.cls) (hkc : ∃ k, s.vm.classes[ce.cls]? = some k)
    {g : JFrame} (hg : g.method = m) {o : Nat} {h : gx_H} {x : Nat} {fs : List Value} (hx : h[x]? = some (t0, fs)) (hcast : (Cond.castable (gx_xn t0) (gx_xn t0)).before args s = true)
    (hnc : ∀ t, gx_NC.any (fun n => n.1 == t0 && n.2 == t) = true → (Jvm.Cond.not (.castable (gx_xn t0) (gx_xn t))).before args s = true)
    (hw : ∀ idx t, gx_xt o idx = some t → idx ≠ 0 ∧ (Cond.classLink own idx (gx_xn t)).before args s = true) {pc' : Nat} (hc : gx_catL o g.pc h x (c.exceptionTable.toList.map (fun h => (h.startPc, h.endPc, h.handlerPc, h.catchType))) false = some (some pc')) :
    ∃ vm₁, Stand p l e R s m args below meth c (T.setVm vm₁) locs cells slots ∧ ∀ target, Steps p.tables e below ((T.setVm vm₁).setTop { g with pc := pc', stack := [.ref a] }) target → Steps p.tables e below ((T.setTop g).pushFrame (.throwing a)) target := by
  obtain ⟨vm₁, X₁, hgoL⟩ := gx_findL (a := a) hown hvm hcls hkc hg hx hcast hnc hw c.exceptionTable.toList false pc' T X hc
  subst hg
  refine ⟨vm₁, X₁, fun target hrest => ?_⟩
  have hh : At T g.method c below := X.here
  obtain ⟨hgo, hw⟩ := hh.throwing a
  refine Steps.head hgo hw ?_
  rw [stepThread_throwing (frames_entered hh.top _)]
  have hmeth : T.vm.method? g.method = some meth := X.method'
  have hmeth₁ : (T.setVm vm₁).vm.method? g.method = some meth := X₁.method'
  have hfind : ∀ (Q : Handler → Pre) (E : CtlPost) (d : Bool) (acts : List Action), wp (findHandler g a) Q E e d acts ((T.setTop g).pushFrame (.throwing a)) ↔ Q (.found pc') d acts (((T.setTop g).pushFrame (.throwing a)).setVm vm₁) := by
    intro Q E d acts
    have v1 : ((T.setTop g).pushFrame (.throwing a)).vm = T.vm := Stand.throwing_vm T g a
    have v2 : ((T.setTop g).pushFrame (.throwing a)).heap = T.heap := Stand.throwing_heap T g a
    rw [W.findHandler_eq (by rw [v1]; exact hmeth) X.code]
    exact hgoL _ v1 (by rw [v2]; exact hce) Q E d acts
  have hstep : (stepThrowing e ((T.setTop g).pushFrame (.throwing a)) a (.java g :: T.frames.tail)).1 = (((T.setTop g).pushFrame (.throwing a)).setVm vm₁).setFrames (.java { g with pc := pc', stack := [.ref a] } :: T.frames.tail) := by
    simp only [stepThrowing, searchFrame, vmDo]
    generalize hr : Sem.go _ e false [] ((T.setTop g).pushFrame (.throwing a)) = res
    obtain ⟨as, rfl, ha⟩ := Sem.eq_ok_of hr (a := Handler.found pc') (s' := ((T.setTop g).pushFrame (.throwing a)).setVm vm₁) (acts' := []) (by simp [hfind _ _ _ _])
    rfl
  rw [hstep]
  obtain ⟨g₀, hg0⟩ := Option.isSome_iff_exists.mp hh.top
  obtain ⟨r, hr⟩ := State.topJava?_eq_some.mp hg0
  have hr' : (T.setVm vm₁).frames = .java g₀ :: r := hr
  rw [State.setTop_of_frames _ hr'] at hrest
  have e1 : (((T.setTop g).pushFrame (.throwing a)).setVm vm₁).setFrames (.java { g with pc := pc', stack := [.ref a] } :: T.frames.tail) = ((((T.setTop g).pushFrame (.throwing a)).setFrames (.java { g with pc := pc', stack := [.ref a] } :: T.frames.tail))).setVm vm₁ := rfl
  rw [e1, State.pushFrame, State.setFrames_setFrames, State.setTop_of_frames _ hr, State.setFrames_setFrames, hr]
  exact hrest
end GXK
end
