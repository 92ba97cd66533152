/-! A small machine for the bytecode of class, reference and law. Its values are the machine's own, but for references: reference k is the k-th cell that was made since the law began (address ba + k), a float stands for the law's script (address b). -/
def gx_v (ba b : Nat) : Value → Value
  | .ref k => .ref (ba + k)
  | .float _ => .ref b
  | v => v
abbrev gx_C : Type := Nat × List Value
abbrev gx_H : Type := List gx_C
abbrev gx_L : Type := List (Nat × Value)
def gx_l (ba b : Nat) (L : gx_L) : gx_L := L.map (fun q => (q.1, gx_v ba b q.2))
def gx_t (ba b : Nat) (st : List Value) : List Value := st.map (gx_v ba b)
theorem gx_v_cat (ba b : Nat) (v : Value) : (gx_v ba b v).category = v.category := by cases v <;> rfl
theorem gx_t_cat (ba b : Nat) (st : List Value) : ((gx_t ba b st).map fun v => v.category).sum = (st.map fun v => v.category).sum := by
  unfold gx_t
  rw [List.map_map]
  congr 1
  exact List.map_congr_left fun v _ => gx_v_cat ba b v
/-- locals: what is stored over what was there -/
def gx_s1 (L : gx_L) (i : Nat) (v : Value) : gx_L := (i, v) :: L.filter (fun q => !(q.1 == i) && !(q.1 + 1 == i && q.2.category == 2))
def gx_s2 (L : gx_L) (i : Nat) (v : Value) : gx_L := (i, v) :: L.filter (fun q => !(q.1 == i) && (!(q.1 == i + 1) && !(q.1 + 1 == i && q.2.category == 2)))
theorem gx_l_s1 (ba b : Nat) (L : gx_L) (i : Nat) (v : Value) : (i, gx_v ba b v) :: (gx_l ba b L).filter (fun q => !(q.1 == i) && !(q.1 + 1 == i && q.2.category == 2)) = gx_l ba b (gx_s1 L i v) := by
  unfold gx_l gx_s1
  rw [List.map_cons, List.filter_map]
  congr 2
  refine List.filter_congr fun q _ => ?_
  simp [Function.comp, gx_v_cat]
theorem gx_l_s2 (ba b : Nat) (L : gx_L) (i : Nat) (v : Value) : (i, gx_v ba b v) :: (gx_l ba b L).filter (fun q => !(q.1 == i) && (!(q.1 == i + 1) && !(q.1 + 1 == i && q.2.category == 2))) = gx_l ba b (gx_s2 L i v) := by
  unfold gx_l gx_s2
  rw [List.map_cons, List.filter_map]
  congr 2
  refine List.filter_congr fun q _ => ?_
  simp [Function.comp, gx_v_cat]
theorem gx_look {L : gx_L} {i : Nat} {v : Value} (h : L.lookup i = some v) : (i, v) ∈ L := by
  induction L with
  | nil => cases h
  | cons q r ih =>
    obtain ⟨a, w⟩ := q
    rw [List.lookup_cons] at h
    split at h
    · rename_i e
      have e : i = a := by simpa using e
      cases h
      rw [e]
      exact List.mem_cons_self
    · exact List.mem_cons_of_mem _ (ih h)
theorem gx_at_l {ls : Array Slot} {nL : Nat} {ba b : Nat} {L : gx_L} (h : lv_has ls nL (gx_l ba b L)) {i : Nat} {v : Value} (hv : L.lookup i = some v) : ls[i]? = some (.val (gx_v ba b v)) :=
  h.2.2 (i, gx_v ba b v) (List.mem_map.mpr ⟨(i, v), gx_look hv, rfl⟩)
theorem gx_ix_l {ba b : Nat} {L : gx_L} {i : Nat} {v : Value} (hv : L.lookup i = some v) : ∃ k : Nat, (gx_l ba b L)[k]? = some (i, gx_v ba b v) :=
  List.getElem?_of_mem (List.mem_map.mpr ⟨(i, v), gx_look hv, rfl⟩)
/-- stacks by their tops -/
def gx_a1 : List Value → Option (Int32 × List Value)
  | .int x :: r => some (x, r)
  | _ => none
def gx_a2 : List Value → Option (Int32 × Int32 × List Value)
  | .int y :: .int x :: r => some (y, x, r)
  | _ => none
def gx_b1 : List Value → Option (Int64 × List Value)
  | .long x :: r => some (x, r)
  | _ => none
def gx_b2 : List Value → Option (Int64 × Int64 × List Value)
  | .long y :: .long x :: r => some (y, x, r)
  | _ => none
def gx_ab : List Value → Option (Int32 × Int64 × List Value)
  | .int y :: .long x :: r => some (y, x, r)
  | _ => none
def gx_r1 : List Value → Option (Nat × List Value)
  | .ref x :: r => some (x, r)
  | _ => none
theorem gx_a1_e {st r : List Value} {x : Int32} (h : gx_a1 st = some (x, r)) : st = .int x :: r := by
  unfold gx_a1 at h; split at h <;> first | (cases h; rfl) | cases h
theorem gx_a2_e {st r : List Value} {x y : Int32} (h : gx_a2 st = some (y, x, r)) : st = .int y :: .int x :: r := by
  unfold gx_a2 at h; split at h <;> first | (cases h; rfl) | cases h
theorem gx_b1_e {st r : List Value} {x : Int64} (h : gx_b1 st = some (x, r)) : st = .long x :: r := by
  unfold gx_b1 at h; split at h <;> first | (cases h; rfl) | cases h
theorem gx_b2_e {st r : List Value} {x y : Int64} (h : gx_b2 st = some (y, x, r)) : st = .long y :: .long x :: r := by
  unfold gx_b2 at h; split at h <;> first | (cases h; rfl) | cases h
theorem gx_ab_e {st r : List Value} {x : Int64} {y : Int32} (h : gx_ab st = some (y, x, r)) : st = .int y :: .long x :: r := by
  unfold gx_ab at h; split at h <;> first | (cases h; rfl) | cases h
theorem gx_r1_e {st r : List Value} {x : Nat} (h : gx_r1 st = some (x, r)) : st = .ref x :: r := by
  unfold gx_r1 at h; split at h <;> first | (cases h; rfl) | cases h
/-- arithmetic: what an instruction makes of the numbers on top -/
def gx_fa2 : Instr → Option (Int32 → Int32 → Int32)
  | .iadd => some fun x y => x + y
  | .isub => some fun x y => x - y
  | .imul => some fun x y => x * y
  | .iand => some fun x y => x &&& y
  | .ior => some fun x y => x ||| y
  | .ixor => some fun x y => x ^^^ y
  | .ishl => some fun x y => x <<< (y &&& 31)
  | .ishr => some fun x y => x >>> (y &&& 31)
  | .iushr => some fun x y => (x.toUInt32 >>> (y.toUInt32 &&& Int32.toUInt32 31)).toInt32
  | _ => none
def gx_fb2 : Instr → Option (Int64 → Int64 → Int64)
  | .ladd => some fun x y => x + y
  | .lsub => some fun x y => x - y
  | .lmul => some fun x y => x * y
  | .land => some fun x y => x &&& y
  | .lor => some fun x y => x ||| y
  | .lxor => some fun x y => x ^^^ y
  | _ => none
def gx_fab : Instr → Option (Int64 → Int32 → Int64)
  | .lshl => some fun x y => x <<< (y.toInt64 &&& 63)
  | .lshr => some fun x y => x >>> (y.toInt64 &&& 63)
  | .lushr => some fun x y => (x.toUInt64 >>> (y.toInt64.toUInt64 &&& Int64.toUInt64 63)).toInt64
  | _ => none
def gx_c1 : ClassFile.Cond → Int32 → Bool
  | .eq, x => decide (x = 0)
  | .ne, x => decide (¬ x = 0)
  | .lt, x => decide (x < 0)
  | .ge, x => decide (0 ≤ x)
  | .gt, x => decide (0 < x)
  | .le, x => decide (x ≤ 0)
def gx_c2 : ClassFile.Cond → Int32 → Int32 → Bool
  | .eq, x, y => decide (x = y)
  | .ne, x, y => decide (¬ x = y)
  | .lt, x, y => decide (x < y)
  | .ge, x, y => decide (y ≤ x)
  | .gt, x, y => decide (y < x)
  | .le, x, y => decide (x ≤ y)
/-- a jump's aim -/
def gx_j (pc : Nat) (off : Int) : Option Nat := if 0 ≤ (pc : Int) + off then some ((pc : Int) + off).toNat else none
theorem gx_j_e {pc t : Nat} {off : Int} (h : gx_j pc off = some t) : (pc : Int) + off = (t : Int) := by
  unfold gx_j at h
  split at h
  · cases h; omega
  · cases h
/-- how long an instruction is, switches aside -/
def gx_len : Instr → Nat
  | .bipush _ | .iload _ | .lload _ | .aload _ | .istore _ | .lstore _ | .astore _ | .ldc _ | .newarray _ => 2
  | .sipush _ | .iinc _ _ | .if_icmp _ _ | .ifCond _ _ | .ifnull _ | .ifnonnull _ | .goto _ | .getfield _ | .putfield _ | .ldc2_w _ | .ldc_w _ | .new _ | .anewarray _ | .invokevirtual _ | .invokestatic _ | .invokespecial _ => 3
  | .multianewarray _ _ => 4
  | _ => 1
def gx_lok (ins : Instr) (len : Nat) : Bool := match ins with
  | .tableswitch _ _ _ _ | .lookupswitch _ _ => true
  | _ => len == gx_len ins
/-- a switch's offset -/
def gx_tab (d lo hi : Int) (offs : Array Int) (x : Int32) : Option Int := if x.toInt < lo then some d else if hi < x.toInt then some d else offs[(x.toInt - lo).toNat]?
