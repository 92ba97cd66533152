/-! the law's beginning: both constructors, run by the kernel -/
def gm_I0 : Nat → Nat → Int32 := fun _ _ => 0
def gm_J0 : Nat → Nat → Int64 := fun _ _ => 0
def gm_hA : gx_H := (List.range 188).map (gm_cell gm_I0 gm_J0)
def gm_hB : gx_H := (List.range 211).map (gm_cell gm_I0 gm_J0)
def gm_rA : Option (gx_H × Nat × Nat) := match gx_run none 3000 5 0 0 (lv_args 0 [.ref 0]) [] [(0, gx_dv 0)] 0 0 with
  | some (.returned none, h, k, u) => some (h, k, u)
  | _ => none
def gm_rB : Option (gx_H × Nat × Nat) := match gx_run none 3000 5 119 0 (lv_args 0 [.ref 188]) [] (gm_hA ++ [(7, gx_dv 7)]) 0 0 with
  | some (.returned none, h, k, u) => some (h, k, u)
  | _ => none
set_option maxRecDepth 100000 in
theorem gm_cA : gm_rA = some (gm_hA, 187, 2166) := by decide +kernel
set_option maxRecDepth 100000 in
theorem gm_cB : gm_rB = some (gm_hB, 22, 2024) := by decide +kernel
theorem gm_eA : gx_run none 3000 5 0 0 (lv_args 0 [.ref 0]) [] [(0, gx_dv 0)] 0 0 = some (.returned none, gm_hA, 187, 2166) := by
  have h := gm_cA
  unfold gm_rA at h
  split at h
  · rename_i a b c e; cases h; exact e
  · cases h
theorem gm_eB : gx_run none 3000 5 119 0 (lv_args 0 [.ref 188]) [] (gm_hA ++ [(7, gx_dv 7)]) 0 0 = some (.returned none, gm_hB, 22, 2024) := by
  have h := gm_cB
  unfold gm_rB at h
  split at h
  · rename_i a b c e; cases h; exact e
  · cases h
section GS
variable {xs : Option (List Int32)} {n d j pc : Nat} {L : gx_L} {st : List Value} {h : gx_H} {k u : Nat} {r : Option (Outcome × gx_H × Nat × Nat)}
theorem gs_p {ins : Instr} {q : Nat × gx_L × List Value} (hi : gx_I j pc = some ins) (hp : gx_p (gx_mo j) (gx_nl j) ins pc L st = some q) (K : gx_run xs n d j q.1 q.2.1 q.2.2 h k u = r) : gx_run xs (n + 1) d j pc L st h k u = r := by
  rw [gx_run]; simp only [hi, hp]; exact K
theorem gs_n {ins : Instr} {q : Nat × List Value × gx_H × Nat × Nat} (hi : gx_I j pc = some ins) (hp : gx_p (gx_mo j) (gx_nl j) ins pc L st = none) (hq : gx_q xs (gx_mo j) h ins pc L st = none) (hw : gx_w (gx_mo j) (gx_in j) h ins pc st = none) (hn : gx_n (gx_mo j) h ins pc st = some q) (K : gx_run xs n d j q.1 L q.2.1 q.2.2.1 (k + q.2.2.2.1) (u + q.2.2.2.2) = r) : gx_run xs (n + 1) d j pc L st h k u = r := by
  rw [gx_run]; simp only [hi, hp, hq, hw, hn]; exact K
theorem gs_c {ins : Instr} {q : Nat × List Value × List Value} {h1 : gx_H} {kc uc : Nat} (hi : gx_I j pc = some ins) (hp : gx_p (gx_mo j) (gx_nl j) ins pc L st = none) (hq : gx_q xs (gx_mo j) h ins pc L st = none) (hw : gx_w (gx_mo j) (gx_in j) h ins pc st = none) (hn : gx_n (gx_mo j) h ins pc st = none) (hm : gx_mu (gx_mo j) h ins pc st = none) (he : gx_e j ins st = none) (hb : gx_bi (gx_mo j) h ins pc st = none) (ht : gx_th j pc ins st = none) (hc : gx_c (gx_mo j) h ins st = some q)
    (hr : (q.2.2.map fun v => v.category).sum ≤ 8 ∧ (lg_sl q.2.1).length ≤ gx_nl q.1) (C : gx_run xs n d q.1 0 (lv_args 0 q.2.1) [] h 0 0 = some (.returned none, h1, kc, uc)) (K : gx_run xs n (d + 1) j (pc + 3) L q.2.2 h1 (k + kc) (u + uc) = r) : gx_run xs (n + 1) (d + 1) j pc L st h k u = r := by
  rw [gx_run]; simp only [hi, hp, hq, hw, hn, hm, he, hb, ht, hc]; rw [if_pos hr]; simp only [C]; exact K
end GS
def gm_L : gx_L := [(4, .int 0), (3, .ref 211), (2, .ref 188), (1, .ref 0), (0, .float 0)]
theorem gm_h0 : gm_hB ++ [(101, [.long 0])] = gm_mk gm_I0 gm_J0 [] := by
  unfold gm_hB gm_mk
  rw [List.append_nil, show (List.range 212) = List.range 211 ++ [211] from List.range_succ, List.map_append]
  rfl
theorem gm_hAl : gm_hA.length = 188 := by simp [gm_hA]
theorem gm_hBl : gm_hB.length = 211 := by simp [gm_hB]
theorem gm_begin {xs : Option (List Int32)} {n : Nat} {r : Option (Outcome × gx_H × Nat × Nat)} (hn : 3000 ≤ n) (K : gx_run xs n 300 195 23 gm_L [] (gm_mk gm_I0 gm_J0 []) 212 4234 = r) : gx_run xs (n + 13) 300 195 0 [(0, .float 0)] [] [] 0 0 = r := by
  refine gs_n (ins := .new 8) (q := (3, [.ref 0], [(0, gx_dv 0)], 1, 6)) rfl rfl rfl rfl rfl ?_
  refine gs_p (ins := .dup) (q := (4, [(0, .float 0)], [.ref 0, .ref 0])) rfl rfl ?_
  refine gs_c (d := 299) (ins := .invokespecial 64) (q := (0, [.ref 0], [.ref 0])) (h1 := gm_hA) (kc := 187) (uc := 2166) rfl rfl rfl rfl rfl rfl rfl rfl rfl rfl (by decide) (gv_up xs (Or.inr rfl) _ _ _ _ _ _ _ _ _ _ _ _ (by omega) (by omega) gm_eA) ?_
  refine gs_p (ins := .astore_n 1) (q := (8, [(1, .ref 0), (0, .float 0)], [])) rfl rfl ?_
  refine gs_n (ins := .new 65) (q := (11, [.ref 188], gm_hA ++ [(7, gx_dv 7)], 1, 37)) rfl rfl rfl rfl (by show some (8 + 3, [Value.ref gm_hA.length], gm_hA ++ [(7, gx_dv 7)], 1, (gx_dv 7).length) = _; rw [gm_hAl]; rfl) ?_
  refine gs_p (ins := .dup) (q := (12, [(1, .ref 0), (0, .float 0)], [.ref 188, .ref 188])) rfl rfl ?_
  refine gs_c (d := 299) (ins := .invokespecial 67) (q := (119, [.ref 188], [.ref 188])) (h1 := gm_hB) (kc := 22) (uc := 2024) rfl rfl rfl rfl rfl rfl rfl rfl rfl rfl (by decide) (gv_up xs (Or.inr rfl) _ _ _ _ _ _ _ _ _ _ _ _ (by omega) (by omega) gm_eB) ?_
  refine gs_p (ins := .astore_n 2) (q := (16, [(2, .ref 188), (1, .ref 0), (0, .float 0)], [])) rfl rfl ?_
  refine gs_p (ins := .iconst 1) (q := (17, [(2, .ref 188), (1, .ref 0), (0, .float 0)], [.int 1])) rfl rfl ?_
  refine gs_n (ins := .newarray .long) (q := (19, [.ref 211], gm_mk gm_I0 gm_J0 [], 1, 1)) rfl rfl rfl rfl (by rw [← gm_h0]; show some (17 + 2, [Value.ref gm_hB.length], gm_hB ++ [(101, [Value.long 0])], 1, 1) = _; rw [gm_hBl]) ?_
  refine gs_p (ins := .astore_n 3) (q := (20, [(3, .ref 211), (2, .ref 188), (1, .ref 0), (0, .float 0)], [])) rfl rfl ?_
  refine gs_p (ins := .iconst 0) (q := (21, [(3, .ref 211), (2, .ref 188), (1, .ref 0), (0, .float 0)], [.int 0])) rfl rfl ?_
  refine gs_p (ins := .istore 4) (q := (23, gm_L, [])) rfl rfl ?_
  exact K
/-- the law out of its decompiled loop -/
theorem gm_law {N : Nat} (H : ∀ xs : List Int32, xs.length ≤ N → ∃ h' : gx_H, lw_law_23 xs 1000000000000000 (some 0) (some 188) (some 211) 0 (gm_mk gm_I0 gm_J0 []) = some (1, h') ∧ h'.length ≤ 100000) : gx_Law N := by
  intro xs hN
  obtain ⟨h', e, hl⟩ := H xs hN
  have V := lw_law_23_ok 1000000000000000 _ _ _ _ _ _ e
  obtain ⟨n, hn⟩ := V.2 gm_L (gv_S1 rfl (gv_S1 rfl (gv_S1 rfl (gv_S1 rfl (gv_S1 rfl gv_S0)))))
  have e2 := gv_up (some xs) (Or.inl rfl) n (n + 3000) _ 300 _ _ _ _ _ _ _ _ (by omega) (Nat.le_refl _) (hn 300 (by decide) 212 4234)
  refine ⟨_, 300, h', _, _, gm_begin (by omega) e2, by omega, ?_, ?_⟩
  · show 212 + (h'.length - _) ≤ 601024; omega
  · show 4234 + 6 * (h'.length - _) ≤ 7293034; omega
