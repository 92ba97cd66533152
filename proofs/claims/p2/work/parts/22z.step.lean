/-- one value of an array of tag t -/
def gx_rd (h : gx_H) (a t : Nat) (i : Int32) : Option Value := match h[a]? with
  | some q => if q.1 = t ∧ ¬ i < 0 then q.2[i.toNatClampNeg]? else none
  | none => none
theorem gx_rd_e {h : gx_H} {a t : Nat} {i : Int32} {v : Value} (e : gx_rd h a t i = some v) : ∃ vs, h[a]? = some (t, vs) ∧ ¬ i < 0 ∧ vs[i.toNatClampNeg]? = some v := by
  unfold gx_rd at e
  split at e
  · rename_i q hq
    obtain ⟨t', vs⟩ := q
    split at e
    · rename_i c
      obtain ⟨c1, c2⟩ := c
      cases c1
      exact ⟨vs, hq, c2, e⟩
    · cases e
  · cases e
def gx_ar : List Value → Option (Int32 × Nat × List Value)
  | .int i :: .ref a :: r => some (i, a, r)
  | _ => none
theorem gx_ar_e {st r : List Value} {i : Int32} {a : Nat} (h : gx_ar st = some (i, a, r)) : st = .int i :: .ref a :: r := by
  unfold gx_ar at h; split at h <;> first | (cases h; rfl) | cases h
def gx_sc : List Value → Option (Int32 × UInt32 × List Value)
  | .int i :: .float a :: r => some (i, a, r)
  | _ => none
theorem gx_sc_e {st r : List Value} {i : Int32} {a : UInt32} (h : gx_sc st = some (i, a, r)) : st = .int i :: .float a :: r := by
  unfold gx_sc at h; split at h <;> first | (cases h; rfl) | cases h
def gx_i1 : Value → Option Int32
  | .int x => some x
  | _ => none
theorem gx_i1_e {v : Value} {x : Int32} (h : gx_i1 v = some x) : v = .int x := by cases v <;> simp_all [gx_i1]
def gx_fl : Value → Bool
  | .float _ => true
  | _ => false
def gx_l1 : Value → Option Int64
  | .long x => some x
  | _ => none
theorem gx_l1_e {v : Value} {x : Int64} (h : gx_l1 v = some x) : v = .long x := by cases v <;> simp_all [gx_l1]
/-- a field's class and place, by the pool number in class o -/
def gx_F (o idx : Nat) : Option (Nat × Nat) := (gx_FT.find? (fun q => q.1 == o && q.2.1 == idx)).map (fun q => q.2.2)
def gx_ki (o idx : Nat) : Option Int32 := (gx_KI.find? (fun q => q.1 == o && q.2.1 == idx)).map (fun q => q.2.2)
def gx_kl (o idx : Nat) : Option Int64 := (gx_KL.find? (fun q => q.1 == o && q.2.1 == idx)).map (fun q => q.2.2)
/-- the object at reference a: of class ci -/
def gx_ob (h : gx_H) (a ci : Nat) : Option (List Value) := match h[a]? with
  | some q => if q.1 = ci then some q.2 else none
  | none => none
theorem gx_ob_e {h : gx_H} {a ci : Nat} {fs : List Value} (e : gx_ob h a ci = some fs) : h[a]? = some (ci, fs) := by
  unfold gx_ob at e
  split at e
  · rename_i q hq
    obtain ⟨t', vs⟩ := q
    split at e
    · rename_i c
      cases c; cases e
      exact hq
    · cases e
  · cases e
abbrev gx_R : Type := Option (Nat × gx_L × List Value)
/-- a constant, a number's instruction, a load, a store, a jump -/
def gx_p (o nL : Nat) (ins : Instr) (pc : Nat) (L : gx_L) (st : List Value) : gx_R := match ins with
  | .aconst_null => some (pc + 1, L, .null :: st)
  | .iconst n => some (pc + 1, L, .int (Int32.ofInt n) :: st)
  | .bipush n => some (pc + 2, L, .int (Int8.ofInt n).toInt32 :: st)
  | .sipush n => some (pc + 3, L, .int (Int16.ofInt n).toInt32 :: st)
  | .lconst n => some (pc + 1, L, .long (Int64.ofNat (n : Nat)) :: st)
  | .ldc idx => (gx_ki o idx).map fun x => (pc + 2, L, .int x :: st)
  | .ldc2_w idx => (gx_kl o idx).map fun x => (pc + 3, L, .long x :: st)
  | .iload_n k => ((L.lookup (k : Nat)).bind gx_i1).map fun x => (pc + 1, L, .int x :: st)
  | .iload i => ((L.lookup i).bind gx_i1).map fun x => (pc + 2, L, .int x :: st)
  | .lload_n k => ((L.lookup (k : Nat)).bind gx_l1).map fun x => (pc + 1, L, .long x :: st)
  | .lload i => ((L.lookup i).bind gx_l1).map fun x => (pc + 2, L, .long x :: st)
  | .aload_n k => (L.lookup (k : Nat)).bind fun v => if v.isRef || gx_fl v then some (pc + 1, L, v :: st) else none
  | .aload i => (L.lookup i).bind fun v => if v.isRef || gx_fl v then some (pc + 2, L, v :: st) else none
  | .istore_n k => (gx_a1 st).bind fun q => if (k : Nat) < nL then some (pc + 1, gx_s1 L (k : Nat) (.int q.1), q.2) else none
  | .istore i => (gx_a1 st).bind fun q => if i < nL then some (pc + 2, gx_s1 L i (.int q.1), q.2) else none
  | .lstore_n k => (gx_b1 st).bind fun q => if (k : Nat) + 1 < nL then some (pc + 1, gx_s2 L (k : Nat) (.long q.1), q.2) else none
  | .lstore i => (gx_b1 st).bind fun q => if i + 1 < nL then some (pc + 2, gx_s2 L i (.long q.1), q.2) else none
  | .astore_n k => match st with
    | .ref x :: r => if (k : Nat) < nL then some (pc + 1, gx_s1 L (k : Nat) (.ref x), r) else none
    | .null :: r => if (k : Nat) < nL then some (pc + 1, gx_s1 L (k : Nat) .null, r) else none
    | _ => none
  | .astore i => match st with
    | .ref x :: r => if i < nL then some (pc + 2, gx_s1 L i (.ref x), r) else none
    | .null :: r => if i < nL then some (pc + 2, gx_s1 L i .null, r) else none
    | _ => none
  | .iinc i n => ((L.lookup i).bind gx_i1).bind fun x => if i < nL then some (pc + 3, gx_s1 L i (.int (x + Int32.ofInt n)), st) else none
  | .iadd | .isub | .imul | .iand | .ior | .ixor | .ishl | .ishr | .iushr => (gx_fa2 ins).bind fun f => (gx_a2 st).map fun q => (pc + 1, L, .int (f q.2.1 q.1) :: q.2.2)
  | .ladd | .lsub | .lmul | .land | .lor | .lxor => (gx_fb2 ins).bind fun f => (gx_b2 st).map fun q => (pc + 1, L, .long (f q.2.1 q.1) :: q.2.2)
  | .lshl | .lshr | .lushr => (gx_fab ins).bind fun f => (gx_ab st).map fun q => (pc + 1, L, .long (f q.2.1 q.1) :: q.2.2)
  | .idiv => (gx_a2 st).bind fun q => if q.1 = 0 then none else some (pc + 1, L, .int (q.2.1 / q.1) :: q.2.2)
  | .irem => (gx_a2 st).bind fun q => if q.1 = 0 then none else some (pc + 1, L, .int (q.2.1 - q.2.1 / q.1 * q.1) :: q.2.2)
  | .ineg => (gx_a1 st).map fun q => (pc + 1, L, .int (-q.1) :: q.2)
  | .lneg => (gx_b1 st).map fun q => (pc + 1, L, .long (-q.1) :: q.2)
  | .i2l => (gx_a1 st).map fun q => (pc + 1, L, .long q.1.toInt64 :: q.2)
  | .l2i => (gx_b1 st).map fun q => (pc + 1, L, .int q.1.toInt32 :: q.2)
  | .lcmp => (gx_b2 st).map fun q => (pc + 1, L, .int (lg_cmp q.2.1 q.1) :: q.2.2)
  | .dup => match st with
    | v :: r => if v.category = 1 then some (pc + 1, L, v :: v :: r) else none
    | _ => none
  | .pop => match st with
    | v :: r => if v.category = 1 then some (pc + 1, L, r) else none
    | _ => none
  | .dup_x1 => match st with
    | v :: w :: r => if v.category = 1 ∧ w.category = 1 then some (pc + 1, L, v :: w :: v :: r) else none
    | _ => none
  | .dup2 => match st with
    | v :: w :: r => if v.category = 1 ∧ w.category = 1 then some (pc + 1, L, v :: w :: v :: w :: r) else none
    | _ => none
  | .ifCond c off => (gx_a1 st).bind fun q => (gx_j pc off).map fun t => if gx_c1 c q.1 = true then (t, L, q.2) else (pc + 3, L, q.2)
  | .if_icmp c off => (gx_a2 st).bind fun q => (gx_j pc off).map fun t => if gx_c2 c q.2.1 q.1 = true then (t, L, q.2.2) else (pc + 3, L, q.2.2)
  | .ifnull off => match st with
    | .ref _ :: r => some (pc + 3, L, r)
    | .null :: r => (gx_j pc off).map fun t => (t, L, r)
    | _ => none
  | .ifnonnull off => match st with
    | .ref _ :: r => (gx_j pc off).map fun t => (t, L, r)
    | .null :: r => some (pc + 3, L, r)
    | _ => none
  | .goto off => (gx_j pc off).map fun t => (t, L, st)
  | .tableswitch d lo hi offs => (gx_a1 st).bind fun q => (gx_tab d lo hi offs q.1).bind fun off => (gx_j pc off).map fun t => (t, L, q.2)
  | .lookupswitch d ps => (gx_a1 st).bind fun q => if (ps.toList.zip (ps.toList.drop 1)).all (fun (a, next) => a.1 < next.1) then (gx_j pc (Op.lookupswitch.offset ps.toList d q.1.toInt)).map fun t => (t, L, q.2) else none
  | _ => none
/-- what is read of the heap, or of the law's script xs -/
def gx_q (xs : Option (List Int32)) (o : Nat) (h : gx_H) (ins : Instr) (pc : Nat) (L : gx_L) (st : List Value) : gx_R := match ins with
  | .getfield idx => (gx_r1 st).bind fun q => (gx_F o idx).bind fun f => (gx_ob h q.1 f.1).bind fun fs => (fs[f.2]?).map fun v => (pc + 3, L, v :: q.2)
  | .iaload => match gx_ar st with
    | some q => ((gx_rd h q.2.1 100 q.1).bind gx_i1).map fun x => (pc + 1, L, .int x :: q.2.2)
    | none => (gx_sc st).bind fun q => xs.bind fun l => if q.1 < 0 then none else (l[q.1.toNatClampNeg]?).map fun x => (pc + 1, L, .int x :: q.2.2)
  | .laload => (gx_ar st).bind fun q => ((gx_rd h q.2.1 101 q.1).bind gx_l1).map fun x => (pc + 1, L, .long x :: q.2.2)
  | .baload => (gx_ar st).bind fun q => ((gx_rd h q.2.1 102 q.1).bind gx_i1).map fun x => (pc + 1, L, .int x :: q.2.2)
  | .aaload => (gx_ar st).bind fun q => match gx_rd h q.2.1 103 q.1 with
    | some v => if v.isRef then some (pc + 1, L, v :: q.2.2) else none
    | none => (gx_rd h q.2.1 104 q.1).bind fun v => if v.isRef then some (pc + 1, L, v :: q.2.2) else none
  | .arraylength => match st with
    | .float _ :: r => xs.map fun l => (pc + 1, L, .int l.length.toInt32 :: r)
    | _ => none
  | _ => none
