theorem gx_look2 {L : List (Nat × Instr)} {i : Nat} {v : Instr} (h : L.lookup i = some v) : (i, v) ∈ L := by
  induction L with
  | nil => cases h
  | cons q r ih =>
    obtain ⟨a, w⟩ := q
    rw [List.lookup_cons] at h
    split at h
    · rename_i e
      have e : i = a := by simpa using e
      cases h
      rw [e]
      exact List.mem_cons_self
    · exact List.mem_cons_of_mem _ (ih h)
theorem gx_find {α : Type} {l : List (Nat × Nat × α)} {o idx : Nat} {x : α} (h : (l.find? (fun q => q.1 == o && q.2.1 == idx)).map (fun q => q.2.2) = some x) : (o, idx, x) ∈ l := by
  obtain ⟨⟨a, i, y⟩, h1, h2⟩ := Option.map_eq_some_iff.mp h
  have h3 := List.find?_some h1
  have h4 := List.mem_of_find?_eq_some h1
  simp only [Bool.and_eq_true, beq_iff_eq] at h3
  obtain ⟨rfl, rfl⟩ := h3
  cases h2
  exact h4
theorem gx_wF {w : Jvm.Cond} (h : w ∈ gx_FT.map gx_fw) : w ∈ gx_words := gx_pick gx_cF.1 gx_cF.2 h
theorem gx_wK {w : Jvm.Cond} (h : w ∈ gx_KI.map (fun z => Jvm.Cond.constant (gx_o z.1) z.2.1 z.2.2)) : w ∈ gx_words := by cases h
theorem gx_wKL {w : Jvm.Cond} (h : w ∈ gx_KL.map (fun z => Jvm.Cond.constantLong (gx_o z.1) z.2.1 z.2.2)) : w ∈ gx_words := gx_pick gx_cKL.1 gx_cKL.2 h
theorem gx_wN {w : Jvm.Cond} (h : w ∈ gx_CT.flatMap gx_nw) : w ∈ gx_words := gx_pick gx_cN.1 gx_cN.2 h
theorem gx_wC {ci : Nat} {r : vw_C} (hr : gx_cl[ci]? = some r) : ∀ w ∈ u_ws r.1 r.2.1 r.2.2, w ∈ gx_words := fun w h => gx_pick gx_cC.1 gx_cC.2 (List.mem_flatMap.mpr ⟨r, List.mem_of_getElem? hr, h⟩)
theorem gx_wS {w : Jvm.Cond} (h : w ∈ gx_MT.map gx_sw1) : w ∈ gx_words := gx_pick gx_cS.1 gx_cS.2 h
theorem gx_wA {w : Jvm.Cond} (h : w ∈ ([.arrayClass .boolean, .arrayClass .int, .arrayClass .long] : List Jvm.Cond)) : w ∈ gx_words := gx_pick gx_cA.1 gx_cA.2 h
theorem gx_wO : Jvm.Cond.arrayOver (.object gx_elem) ∈ gx_words := gx_pick gx_cO.1 gx_cO.2 List.mem_cons_self
theorem gx_rowM {r : List gx_E} (hr : r ∈ gx_tb) {z : gx_E} (hz : z ∈ r) {w : Jvm.Cond} (hw : w ∈ gx_mw z) : w ∈ gx_words := by
  unfold gx_tb at hr
  simp only [List.mem_cons, List.not_mem_nil, or_false] at hr
  have h : w ∈ r.flatMap gx_mw := List.mem_flatMap.mpr ⟨z, hz, hw⟩
  rcases hr with rfl | rfl | rfl | rfl | rfl | rfl | rfl | rfl | rfl | rfl | rfl | rfl | rfl | rfl
  · exact gx_pick gx_cM0.1 gx_cM0.2 h
  · exact gx_pick gx_cM1.1 gx_cM1.2 h
  · exact gx_pick gx_cM2.1 gx_cM2.2 h
  · exact gx_pick gx_cM3.1 gx_cM3.2 h
  · exact gx_pick gx_cM4.1 gx_cM4.2 h
  · exact gx_pick gx_cM5.1 gx_cM5.2 h
  · exact gx_pick gx_cM6.1 gx_cM6.2 h
  · exact gx_pick gx_cM7.1 gx_cM7.2 h
  · exact gx_pick gx_cM8.1 gx_cM8.2 h
  · exact gx_pick gx_cM9.1 gx_cM9.2 h
  · exact gx_pick gx_cM10.1 gx_cM10.2 h
  · exact gx_pick gx_cM11.1 gx_cM11.2 h
  · exact gx_pick gx_cM12.1 gx_cM12.2 h
  · exact gx_pick gx_cM13.1 gx_cM13.2 h
theorem gx_rowE {r : List gx_E} (hr : r ∈ gx_tb) {z : gx_E} (hz : z ∈ r) : gx_eok z = true := by
  unfold gx_tb at hr
  simp only [List.mem_cons, List.not_mem_nil, or_false] at hr
  rcases hr with rfl | rfl | rfl | rfl | rfl | rfl | rfl | rfl | rfl | rfl | rfl | rfl | rfl | rfl
  · exact List.all_eq_true.mp gx_ck0 z hz
  · exact List.all_eq_true.mp gx_ck1 z hz
  · exact List.all_eq_true.mp gx_ck2 z hz
  · exact List.all_eq_true.mp gx_ck3 z hz
  · exact List.all_eq_true.mp gx_ck4 z hz
  · exact List.all_eq_true.mp gx_ck5 z hz
  · exact List.all_eq_true.mp gx_ck6 z hz
  · exact List.all_eq_true.mp gx_ck7 z hz
  · exact List.all_eq_true.mp gx_ck8 z hz
  · exact List.all_eq_true.mp gx_ck9 z hz
  · exact List.all_eq_true.mp gx_ck10 z hz
  · exact List.all_eq_true.mp gx_ck11 z hz
  · exact List.all_eq_true.mp gx_ck12 z hz
  · exact List.all_eq_true.mp gx_ck13 z hz
def gx_nj : Nat := 196
theorem gx_lens : gx_tb.length = 14 ∧ gx_tb.all (fun r => r.length == 14) = true := by decide +kernel
theorem gx_inj {j : Nat} (hj : j < gx_nj) : ∃ r, r ∈ gx_tb ∧ gx_m j ∈ r := by
  have hj : j < 196 := hj
  have h1 : j / 14 < gx_tb.length := by rw [gx_lens.1]; omega
  obtain ⟨r, hr⟩ : ∃ r, gx_tb[j / 14]? = some r := ⟨_, List.getElem?_eq_getElem h1⟩
  have hm : r ∈ gx_tb := List.mem_of_getElem? hr
  have h2 : r.length = 14 := by simpa using List.all_eq_true.mp gx_lens.2 r hm
  have h3 : j % 14 < r.length := by rw [h2]; omega
  refine ⟨r, hm, ?_⟩
  unfold gx_m
  rw [hr]
  show r.getD (j % 14) gx_m0 ∈ r
  rw [List.getD_eq_getElem?_getD, List.getElem?_eq_getElem h3]
  exact List.getElem_mem h3
theorem gx_m_out {j : Nat} (hj : ¬ j < gx_nj) : gx_m j = gx_m0 := by
  have hj : ¬ j < 196 := hj
  unfold gx_m
  rw [List.getElem?_eq_none (by rw [gx_lens.1]; omega)]
  rfl
theorem gx_ok {j : Nat} (hj : j < gx_nj) : gx_eok (gx_m j) = true := by
  obtain ⟨r, h1, h2⟩ := gx_inj hj
  exact gx_rowE h1 h2
theorem gx_wM {j : Nat} (hj : j < gx_nj) {w : Jvm.Cond} (hw : w ∈ gx_mw (gx_m j)) : w ∈ gx_words := by
  obtain ⟨r, h1, h2⟩ := gx_inj hj
  exact gx_rowM h1 h2 hw
theorem gx_parts {j : Nat} (hj : j < gx_nj) : ((gx_m j).2.2.2.2.all (gx_chk (gx_b j)) = true) ∧ plainFor (gx_y j) = true ∧ (parseMethodDescriptor (gx_y j).desc).map (fun d => d.parameters.length) = some (gx_np j) ∧ ((gx_y j).cls ≠ "java/lang/invoke/MethodHandle" ∧ (gx_y j).cls ≠ "java/lang/invoke/VarHandle") ∧ (gx_y j).cls = gx_o (gx_mo j) ∧
    (gx_kd j = 1 → (gx_cl[gx_rc j]?).map (fun r => r.1) = some (gx_y j).cls ∧ gx_rc j < 100) ∧ (gx_kd j = 2 → (gx_y j).name = "<init>" ∧ gx_rt j = none ∧ gx_hd j = []) ∧ gx_nl j ≤ 80 := by
  have h := gx_ok hj
  unfold gx_eok at h
  simp only [Bool.and_eq_true, decide_eq_true_eq] at h
  exact h
theorem gx_npok (j : Nat) (hj : j < gx_nj) : (parseMethodDescriptor (gx_y j).desc).map (fun d => d.parameters.length) = some (gx_np j) := (gx_parts hj).2.2.1
theorem gx_plain (j : Nat) (hj : j < gx_nj) : plainFor (gx_y j) = true ∧ ((gx_y j).cls ≠ "java/lang/invoke/MethodHandle" ∧ (gx_y j).cls ≠ "java/lang/invoke/VarHandle") := ⟨(gx_parts hj).2.1, (gx_parts hj).2.2.2.1⟩
/-- an instruction of the table is the code's -/
theorem gx_dec {j pc : Nat} {ins : Instr} (h : gx_I j pc = some ins) : ∃ len, decode (gx_b j) pc = .ok (ins, len) ∧ gx_lok ins len = true := by
  by_cases hj : j < gx_nj
  · have h1 := (gx_parts hj).1
    unfold gx_I at h
    cases hb : (gx_m j).2.2.2.2[pc / 64]? with
    | none => rw [hb] at h; cases h
    | some bl =>
      rw [hb] at h
      have h2 := List.all_eq_true.mp h1 bl (List.mem_of_getElem? hb)
      have h3 : (pc, ins) ∈ bl := gx_look2 h
      unfold gx_chk at h2
      have h4 := List.all_eq_true.mp h2 _ h3
      dsimp only at h4
      split at h4
      · rename_i i len he
        simp only [Bool.and_eq_true, decide_eq_true_eq] at h4
        obtain ⟨rfl, h5⟩ := h4
        exact ⟨len, he, h5⟩
      · cases h4
  · unfold gx_I at h
    rw [gx_m_out hj] at h
    cases h
theorem gx_small {o idx ci k : Nat} (h : gx_F o idx = some (ci, k)) : ci < 100 := by
  have h1 := gx_find h
  have h2 : gx_FT.all (fun z => decide (z.2.2.1 < 100)) = true := by decide +kernel
  simpa using List.all_eq_true.mp h2 _ h1
theorem gx_ftyok : ∀ (ci : Nat) (r : vw_C), gx_cl[ci]? = some r → ∀ k, k < r.2.2 → parseFieldDescriptor (r.2.1 k).2.2.1 = some (gx_fty ci k) := by
  intro ci r hr k hk
  have h : (List.range gx_cl.length).all (fun ci => match gx_cl[ci]? with
    | some r => (List.range r.2.2).all (fun k => decide (parseFieldDescriptor (r.2.1 k).2.2.1 = some (gx_fty ci k)))
    | none => true) = true := by decide +kernel
  have hl : ci < gx_cl.length := by
    rcases Nat.lt_or_ge ci gx_cl.length with q | q
    · exact q
    · rw [List.getElem?_eq_none q] at hr; cases hr
  have h1 := List.all_eq_true.mp h ci (List.mem_range.mpr hl)
  rw [hr] at h1
  have h2 := List.all_eq_true.mp h1 k (List.mem_range.mpr hk)
  simpa using h2
theorem gx_nm : ∀ (ci : Nat) (r : vw_C), gx_cl[ci]? = some r → ∀ a, a < r.2.2 → ∀ b, b < r.2.2 → a ≠ b → (r.2.1 a).2.1 ≠ (r.2.1 b).2.1 := by
  intro ci r hr a ha b hb hne
  have h : gx_cl.all (fun r => (List.range r.2.2).all (fun a => (List.range r.2.2).all (fun b => decide (a ≠ b → (r.2.1 a).2.1 ≠ (r.2.1 b).2.1)))) = true := by decide +kernel
  have h1 := List.all_eq_true.mp h r (List.mem_of_getElem? hr)
  have h2 := List.all_eq_true.mp h1 a (List.mem_range.mpr ha)
  have h3 := List.all_eq_true.mp h2 b (List.mem_range.mpr hb)
  simp only [decide_eq_true_eq] at h3
  exact h3 hne
theorem gx_nofl : ∀ (ci : Nat) (r : vw_C), gx_cl[ci]? = some r → ∀ k, k < r.2.2 → gx_fl (defaultValue (gx_fty ci k)) = false := by
  intro ci r hr k hk
  have h : (List.range gx_cl.length).all (fun ci => match gx_cl[ci]? with
    | some r => (List.range r.2.2).all (fun k => !gx_fl (defaultValue (gx_fty ci k)))
    | none => true) = true := by decide +kernel
  have hl : ci < gx_cl.length := by
    rcases Nat.lt_or_ge ci gx_cl.length with q | q
    · exact q
    · rw [List.getElem?_eq_none q] at hr; cases hr
  have h1 := List.all_eq_true.mp h ci (List.mem_range.mpr hl)
  rw [hr] at h1
  have h2 := List.all_eq_true.mp h1 k (List.mem_range.mpr hk)
  simpa using h2
theorem gx_defv {ba b : Nat} {ty : FieldType} (h : gx_fl (defaultValue ty) = false) : gx_v ba b (defaultValue ty) = defaultValue ty := by
  cases ty <;> first | rfl | cases h
theorem gx_ei_lt : gx_ei < 100 := by decide
theorem gx_ei_nm {r : vw_C} (h : gx_cl[gx_ei]? = some r) : r.1 = gx_elem := by
  cases h
  rfl
theorem gx_ct_r {z : Nat × Nat × Nat} (h : z ∈ gx_CT) : ∃ r, gx_cl[z.2.2]? = some r := by
  have h2 : gx_CT.all (fun z => (gx_cl[z.2.2]?).isSome) = true := by decide +kernel
  exact Option.isSome_iff_exists.mp (List.all_eq_true.mp h2 z h)
theorem gx_mtj {z : Nat × Nat × Nat × Bool} (h : z ∈ gx_MT) : z.2.2.1 < gx_nj := by
  have h2 : gx_MT.all (fun z => decide (z.2.2.1 < gx_nj)) = true := by decide +kernel
  simpa using List.all_eq_true.mp h2 z h
theorem gx_wM0 {j : Nat} (hj : j < gx_nj) (hk : gx_kd j ≠ 9) : (if gx_hd j = [] then Jvm.Cond.code (gx_y j) (gx_b j) (gx_nl j) (gx_rt j) else Jvm.Cond.codeWith (gx_y j) (gx_b j) (gx_nl j) (gx_rt j) (gx_hd j)) ∈ gx_words ∧ Jvm.Cond.initialized (gx_y j).cls ∈ gx_words := by
  have hk : ¬ (gx_m j).2.2.2.1.2.1 = 9 := hk
  constructor
  · refine gx_wM hj ?_
    unfold gx_mw
    rw [if_neg hk]
    exact List.mem_cons_self
  · refine gx_wM hj ?_
    unfold gx_mw
    rw [if_neg hk]
    exact List.mem_cons_of_mem _ List.mem_cons_self
theorem gx_w0 {j : Nat} (hj : j < gx_nj) (hk : gx_kd j = 0) : Jvm.Cond.static (gx_y j) ∈ gx_words := by
  have hk : (gx_m j).2.2.2.1.2.1 = 0 := hk
  refine gx_wM hj ?_
  unfold gx_mw
  rw [if_neg (show ¬ (gx_m j).2.2.2.1.2.1 = 9 by rw [hk]; decide), if_pos hk]
  exact List.mem_cons_of_mem _ (List.mem_cons_of_mem _ List.mem_cons_self)
theorem gx_w1 {j : Nat} (hj : j < gx_nj) (hk : gx_kd j = 1) : Jvm.Cond.instanceMethod (gx_y j) ∈ gx_words ∧ Jvm.Cond.selects (gx_y j).cls (gx_y j) (gx_y j) ∈ gx_words := by
  have hk : (gx_m j).2.2.2.1.2.1 = 1 := hk
  constructor
  · refine gx_wM hj ?_
    unfold gx_mw
    rw [if_neg (show ¬ (gx_m j).2.2.2.1.2.1 = 9 by rw [hk]; decide), if_neg (show ¬ (gx_m j).2.2.2.1.2.1 = 0 by rw [hk]; decide), if_pos hk]
    exact List.mem_cons_of_mem _ (List.mem_cons_of_mem _ List.mem_cons_self)
  · refine gx_wM hj ?_
    unfold gx_mw
    rw [if_neg (show ¬ (gx_m j).2.2.2.1.2.1 = 9 by rw [hk]; decide), if_neg (show ¬ (gx_m j).2.2.2.1.2.1 = 0 by rw [hk]; decide), if_pos hk]
    exact List.mem_cons_of_mem _ (List.mem_cons_of_mem _ (List.mem_cons_of_mem _ List.mem_cons_self))
theorem gx_w2 {j : Nat} (hj : j < gx_nj) (hk : gx_kd j = 2) : Jvm.Cond.instanceMethod (gx_y j) ∈ gx_words ∧ Jvm.Cond.code (gx_y j) (gx_b j) (gx_nl j) none ∈ gx_words ∧ (gx_y j).name = "<init>" ∧ gx_hd j = [] := by
  obtain ⟨n1, n2, n3⟩ := (gx_parts hj).2.2.2.2.2.2.1 hk
  have hk' : (gx_m j).2.2.2.1.2.1 = 2 := hk
  refine ⟨?_, ?_, n1, n3⟩
  · refine gx_wM hj ?_
    unfold gx_mw
    rw [if_neg (show ¬ (gx_m j).2.2.2.1.2.1 = 9 by rw [hk']; decide), if_neg (show ¬ (gx_m j).2.2.2.1.2.1 = 0 by rw [hk']; decide), if_neg (show ¬ (gx_m j).2.2.2.1.2.1 = 1 by rw [hk']; decide)]
    exact List.mem_cons_of_mem _ (List.mem_cons_of_mem _ List.mem_cons_self)
  · have := (gx_wM0 hj (by rw [hk]; decide)).1
    rw [if_pos n3, n2] at this
    exact this
theorem gx_rc_lt {j : Nat} (hj : j < gx_nj) (hk : gx_kd j = 1) : gx_rc j < 100 := ((gx_parts hj).2.2.2.2.2.1 hk).2
theorem gx_rc_nm {j : Nat} (hj : j < gx_nj) (hk : gx_kd j = 1) {r : vw_C} (hr : gx_cl[gx_rc j]? = some r) : r.1 = (gx_y j).cls := by
  have h := ((gx_parts hj).2.2.2.2.2.1 hk).1
  rw [hr] at h
  exact Option.some.inj h
