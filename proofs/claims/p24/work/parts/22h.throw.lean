/-! throw new X("..") -/
def gx_isr : Jvm.Cond → Bool
  | .isRef _ => true
  | _ => false
def gx_up : List String := ["java/lang/RuntimeException", "java/lang/Exception"]
def gx_xn (t : Nat) : String := ((gx_cl[t]?).map (fun r => r.1)).getD ""
def gx_XK : List (Nat × Nat × Nat) := [(0, 52, 8), (0, 113, 9), (0, 169, 10)]
def gx_XKN : List (Nat × Nat × Nat) := [(0, 202, 11)]
theorem gx_ow8 : (Bundle.ownAtoms (gx_o 0) 52 (gx_xn 8) gx_up).all (fun w => gx_isr w || (decide (w ∈ lw_tbl) && gx_mv w)) = true := by decide +kernel
theorem gx_ow9 : (Bundle.ownAtoms (gx_o 0) 113 (gx_xn 9) gx_up).all (fun w => gx_isr w || (decide (w ∈ lw_tbl) && gx_mv w)) = true := by decide +kernel
theorem gx_ow10 : (Bundle.ownAtoms (gx_o 0) 169 (gx_xn 10) gx_up).all (fun w => gx_isr w || (decide (w ∈ lw_tbl) && gx_mv w)) = true := by decide +kernel
theorem gx_owA : ∀ z ∈ gx_XK, (Bundle.ownAtoms (gx_o z.1) z.2.1 (gx_xn z.2.2) gx_up).all (fun w => gx_isr w || (decide (w ∈ lw_tbl) && gx_mv w)) = true := by
  intro z hz
  unfold gx_XK at hz
  simp only [List.mem_cons, List.not_mem_nil, or_false] at hz
  rcases hz with rfl | rfl | rfl
  · exact gx_ow8
  · exact gx_ow9
  · exact gx_ow10
theorem gx_fitA : ∀ z ∈ gx_XK ++ gx_XKN, Bundle.fit (gx_xn z.2.2) = true ∧ z.2.2 < 100 := by decide +kernel
theorem gx_fitU : ∀ n ∈ gx_up, Bundle.fit n = true := by decide +kernel
def gx_XC : List (Nat × Nat × Nat) := [(0, 48, 8), (0, 109, 9), (0, 165, 10), (0, 198, 11)]
def gx_xw (z : Nat × Nat × Nat) : List Jvm.Cond := [.classLink (gx_o z.1) z.2.1 (gx_xn z.2.2), .instantiable (gx_xn z.2.2) 6, .initialized (gx_xn z.2.2)]
set_option maxRecDepth 100000 in
theorem gx_cXC : gx_XC.flatMap gx_xw = [(12, 3), (12, 4), (3, 3), (14, 20), (14, 21), (3, 4), (19, 20), (19, 21), (3, 6), (24, 25), (24, 26), (3, 8)].filterMap gx_pt ∧ (gx_XC.flatMap gx_xw).all gx_mv = true := ⟨rfl, by decide +kernel⟩
def gx_ST : List (Nat × Nat × String) := [(0, 50, "no such type can be made empty"), (0, 229, "there are 32 objects"), (0, 59, "a buffer has 0 to 8 bytes"), (0, 79, "no such view"), (0, 93, "no record or list, no such value, or no such place"), (0, 111, "the record has 6 others"), (0, 114, "neither a record nor a list"), (0, 127, "no map, or no such key or value"), (0, 133, "the map has 4 others"), (0, 135, "no set, or no such value"), (0, 143, "the set has 5 others"), (0, 167, "there is none such"), (0, 174, "no such object"), (0, 179, "4 are passed already"), (0, 196, "no such value, or it can't be written"), (0, 200, "a getter throws"), (0, 207, "the bytes are wrong")]
theorem gx_cST : gx_ST.map (fun z => Jvm.Cond.stringRef (gx_o z.1) z.2.1 z.2.2) = [429, 477, 491, 507, 538, 569, 577, 593, 598, 606, 615, 637, 669, 674, 792, 802, 908].filterMap (fun i => lw_tbl[i]?) := by decide +kernel
/-- a throw site: its class, text and constructor -/
theorem gx_THok : ∀ z ∈ gx_TH, (z.1, z.2.1, z.2.2.2.2) ∈ gx_XC ∧ ((z.1, z.2.2.2.1, z.2.2.2.2) ∈ gx_XK ∨ (z.1, z.2.2.2.1, z.2.2.2.2) ∈ gx_XKN) ∧ (gx_ST.find? (fun q => q.1 == z.1 && q.2.1 == z.2.2.1)).isSome = true := by decide +kernel
