/-! what a program decides of the tables -/
/-- words that hold at every later state of the tables, too -/
def gx_mv (w : Jvm.Cond) : Bool := (w.onTables && w.keeps) || match w with
  | .arrayClass _ | .methodLinkNest _ _ _ _ | .castable _ _ | .declares _ | .arrayOver _ | .laysStatic _ _ _ => true
  | _ => false
def gx_words : List Jvm.Cond := lw_tbl.filter gx_mv
def gx_wd0 : List Jvm.Cond := lw_tbl
def gx_wd1 : List Jvm.Cond := gx_wd0.drop 32
def gx_wd2 : List Jvm.Cond := gx_wd1.drop 32
def gx_wd3 : List Jvm.Cond := gx_wd2.drop 32
def gx_wd4 : List Jvm.Cond := gx_wd3.drop 32
def gx_wd5 : List Jvm.Cond := gx_wd4.drop 32
def gx_wd6 : List Jvm.Cond := gx_wd5.drop 32
def gx_wd7 : List Jvm.Cond := gx_wd6.drop 32
def gx_wd8 : List Jvm.Cond := gx_wd7.drop 32
def gx_wd9 : List Jvm.Cond := gx_wd8.drop 32
def gx_wd10 : List Jvm.Cond := gx_wd9.drop 32
def gx_wd11 : List Jvm.Cond := gx_wd10.drop 32
def gx_wd12 : List Jvm.Cond := gx_wd11.drop 32
def gx_wd13 : List Jvm.Cond := gx_wd12.drop 32
def gx_wd14 : List Jvm.Cond := gx_wd13.drop 32
def gx_wd15 : List Jvm.Cond := gx_wd14.drop 32
def gx_wd16 : List Jvm.Cond := gx_wd15.drop 32
def gx_wd17 : List Jvm.Cond := gx_wd16.drop 32
def gx_wd18 : List Jvm.Cond := gx_wd17.drop 32
def gx_wd19 : List Jvm.Cond := gx_wd18.drop 32
def gx_wd20 : List Jvm.Cond := gx_wd19.drop 32
def gx_wd21 : List Jvm.Cond := gx_wd20.drop 32
def gx_wd22 : List Jvm.Cond := gx_wd21.drop 32
def gx_wd23 : List Jvm.Cond := gx_wd22.drop 32
def gx_wd24 : List Jvm.Cond := gx_wd23.drop 32
def gx_wd25 : List Jvm.Cond := gx_wd24.drop 32
def gx_wd26 : List Jvm.Cond := gx_wd25.drop 32
def gx_wd27 : List Jvm.Cond := gx_wd26.drop 32
def gx_wd28 : List Jvm.Cond := gx_wd27.drop 32
def gx_wd29 : List Jvm.Cond := gx_wd28.drop 32
def gx_wd30 : List Jvm.Cond := gx_wd29.drop 32
def gx_wd31 : List Jvm.Cond := gx_wd30.drop 32
def gx_wd32 : List Jvm.Cond := gx_wd31.drop 32
def gx_wd33 : List Jvm.Cond := gx_wd32.drop 32
def gx_wd34 : List Jvm.Cond := gx_wd33.drop 32
def gx_wd35 : List Jvm.Cond := gx_wd34.drop 32
def gx_wd36 : List Jvm.Cond := gx_wd35.drop 32
def gx_wd37 : List Jvm.Cond := gx_wd36.drop 32
def gx_wd38 : List Jvm.Cond := gx_wd37.drop 32
def gx_wd39 : List Jvm.Cond := gx_wd38.drop 32
def gx_wd40 : List Jvm.Cond := gx_wd39.drop 32
def gx_wd41 : List Jvm.Cond := gx_wd40.drop 32
theorem gx_wm0 : ∀ w ∈ gx_wd0, w ∈ lw_tbl := fun _ h => h
theorem gx_wm1 : ∀ w ∈ gx_wd1, w ∈ lw_tbl := fun w h => gx_wm0 w (List.mem_of_mem_drop h)
theorem gx_wm2 : ∀ w ∈ gx_wd2, w ∈ lw_tbl := fun w h => gx_wm1 w (List.mem_of_mem_drop h)
theorem gx_wm3 : ∀ w ∈ gx_wd3, w ∈ lw_tbl := fun w h => gx_wm2 w (List.mem_of_mem_drop h)
theorem gx_wm4 : ∀ w ∈ gx_wd4, w ∈ lw_tbl := fun w h => gx_wm3 w (List.mem_of_mem_drop h)
theorem gx_wm5 : ∀ w ∈ gx_wd5, w ∈ lw_tbl := fun w h => gx_wm4 w (List.mem_of_mem_drop h)
theorem gx_wm6 : ∀ w ∈ gx_wd6, w ∈ lw_tbl := fun w h => gx_wm5 w (List.mem_of_mem_drop h)
theorem gx_wm7 : ∀ w ∈ gx_wd7, w ∈ lw_tbl := fun w h => gx_wm6 w (List.mem_of_mem_drop h)
theorem gx_wm8 : ∀ w ∈ gx_wd8, w ∈ lw_tbl := fun w h => gx_wm7 w (List.mem_of_mem_drop h)
theorem gx_wm9 : ∀ w ∈ gx_wd9, w ∈ lw_tbl := fun w h => gx_wm8 w (List.mem_of_mem_drop h)
theorem gx_wm10 : ∀ w ∈ gx_wd10, w ∈ lw_tbl := fun w h => gx_wm9 w (List.mem_of_mem_drop h)
theorem gx_wm11 : ∀ w ∈ gx_wd11, w ∈ lw_tbl := fun w h => gx_wm10 w (List.mem_of_mem_drop h)
theorem gx_wm12 : ∀ w ∈ gx_wd12, w ∈ lw_tbl := fun w h => gx_wm11 w (List.mem_of_mem_drop h)
theorem gx_wm13 : ∀ w ∈ gx_wd13, w ∈ lw_tbl := fun w h => gx_wm12 w (List.mem_of_mem_drop h)
theorem gx_wm14 : ∀ w ∈ gx_wd14, w ∈ lw_tbl := fun w h => gx_wm13 w (List.mem_of_mem_drop h)
theorem gx_wm15 : ∀ w ∈ gx_wd15, w ∈ lw_tbl := fun w h => gx_wm14 w (List.mem_of_mem_drop h)
theorem gx_wm16 : ∀ w ∈ gx_wd16, w ∈ lw_tbl := fun w h => gx_wm15 w (List.mem_of_mem_drop h)
theorem gx_wm17 : ∀ w ∈ gx_wd17, w ∈ lw_tbl := fun w h => gx_wm16 w (List.mem_of_mem_drop h)
theorem gx_wm18 : ∀ w ∈ gx_wd18, w ∈ lw_tbl := fun w h => gx_wm17 w (List.mem_of_mem_drop h)
theorem gx_wm19 : ∀ w ∈ gx_wd19, w ∈ lw_tbl := fun w h => gx_wm18 w (List.mem_of_mem_drop h)
theorem gx_wm20 : ∀ w ∈ gx_wd20, w ∈ lw_tbl := fun w h => gx_wm19 w (List.mem_of_mem_drop h)
theorem gx_wm21 : ∀ w ∈ gx_wd21, w ∈ lw_tbl := fun w h => gx_wm20 w (List.mem_of_mem_drop h)
theorem gx_wm22 : ∀ w ∈ gx_wd22, w ∈ lw_tbl := fun w h => gx_wm21 w (List.mem_of_mem_drop h)
theorem gx_wm23 : ∀ w ∈ gx_wd23, w ∈ lw_tbl := fun w h => gx_wm22 w (List.mem_of_mem_drop h)
theorem gx_wm24 : ∀ w ∈ gx_wd24, w ∈ lw_tbl := fun w h => gx_wm23 w (List.mem_of_mem_drop h)
theorem gx_wm25 : ∀ w ∈ gx_wd25, w ∈ lw_tbl := fun w h => gx_wm24 w (List.mem_of_mem_drop h)
theorem gx_wm26 : ∀ w ∈ gx_wd26, w ∈ lw_tbl := fun w h => gx_wm25 w (List.mem_of_mem_drop h)
theorem gx_wm27 : ∀ w ∈ gx_wd27, w ∈ lw_tbl := fun w h => gx_wm26 w (List.mem_of_mem_drop h)
theorem gx_wm28 : ∀ w ∈ gx_wd28, w ∈ lw_tbl := fun w h => gx_wm27 w (List.mem_of_mem_drop h)
theorem gx_wm29 : ∀ w ∈ gx_wd29, w ∈ lw_tbl := fun w h => gx_wm28 w (List.mem_of_mem_drop h)
theorem gx_wm30 : ∀ w ∈ gx_wd30, w ∈ lw_tbl := fun w h => gx_wm29 w (List.mem_of_mem_drop h)
theorem gx_wm31 : ∀ w ∈ gx_wd31, w ∈ lw_tbl := fun w h => gx_wm30 w (List.mem_of_mem_drop h)
theorem gx_wm32 : ∀ w ∈ gx_wd32, w ∈ lw_tbl := fun w h => gx_wm31 w (List.mem_of_mem_drop h)
theorem gx_wm33 : ∀ w ∈ gx_wd33, w ∈ lw_tbl := fun w h => gx_wm32 w (List.mem_of_mem_drop h)
theorem gx_wm34 : ∀ w ∈ gx_wd34, w ∈ lw_tbl := fun w h => gx_wm33 w (List.mem_of_mem_drop h)
theorem gx_wm35 : ∀ w ∈ gx_wd35, w ∈ lw_tbl := fun w h => gx_wm34 w (List.mem_of_mem_drop h)
theorem gx_wm36 : ∀ w ∈ gx_wd36, w ∈ lw_tbl := fun w h => gx_wm35 w (List.mem_of_mem_drop h)
theorem gx_wm37 : ∀ w ∈ gx_wd37, w ∈ lw_tbl := fun w h => gx_wm36 w (List.mem_of_mem_drop h)
theorem gx_wm38 : ∀ w ∈ gx_wd38, w ∈ lw_tbl := fun w h => gx_wm37 w (List.mem_of_mem_drop h)
theorem gx_wm39 : ∀ w ∈ gx_wd39, w ∈ lw_tbl := fun w h => gx_wm38 w (List.mem_of_mem_drop h)
theorem gx_wm40 : ∀ w ∈ gx_wd40, w ∈ lw_tbl := fun w h => gx_wm39 w (List.mem_of_mem_drop h)
theorem gx_wm41 : ∀ w ∈ gx_wd41, w ∈ lw_tbl := fun w h => gx_wm40 w (List.mem_of_mem_drop h)
def gx_ws : List (List Jvm.Cond) := [gx_wd0, gx_wd1, gx_wd2, gx_wd3, gx_wd4, gx_wd5, gx_wd6, gx_wd7, gx_wd8, gx_wd9, gx_wd10, gx_wd11, gx_wd12, gx_wd13, gx_wd14, gx_wd15, gx_wd16, gx_wd17, gx_wd18, gx_wd19, gx_wd20, gx_wd21, gx_wd22, gx_wd23, gx_wd24, gx_wd25, gx_wd26, gx_wd27, gx_wd28, gx_wd29, gx_wd30, gx_wd31, gx_wd32, gx_wd33, gx_wd34, gx_wd35, gx_wd36, gx_wd37, gx_wd38, gx_wd39, gx_wd40, gx_wd41]
theorem gx_wm : ∀ l ∈ gx_ws, ∀ w ∈ l, w ∈ lw_tbl := by
  intro l hl
  simp only [gx_ws, List.mem_cons, List.not_mem_nil, or_false] at hl
  rcases hl with rfl | rfl | rfl | rfl | rfl | rfl | rfl | rfl | rfl | rfl | rfl | rfl | rfl | rfl | rfl | rfl | rfl | rfl | rfl | rfl | rfl | rfl | rfl | rfl | rfl | rfl | rfl | rfl | rfl | rfl | rfl | rfl | rfl | rfl | rfl | rfl | rfl | rfl | rfl | rfl | rfl | rfl
  · exact gx_wm0
  · exact gx_wm1
  · exact gx_wm2
  · exact gx_wm3
  · exact gx_wm4
  · exact gx_wm5
  · exact gx_wm6
  · exact gx_wm7
  · exact gx_wm8
  · exact gx_wm9
  · exact gx_wm10
  · exact gx_wm11
  · exact gx_wm12
  · exact gx_wm13
  · exact gx_wm14
  · exact gx_wm15
  · exact gx_wm16
  · exact gx_wm17
  · exact gx_wm18
  · exact gx_wm19
  · exact gx_wm20
  · exact gx_wm21
  · exact gx_wm22
  · exact gx_wm23
  · exact gx_wm24
  · exact gx_wm25
  · exact gx_wm26
  · exact gx_wm27
  · exact gx_wm28
  · exact gx_wm29
  · exact gx_wm30
  · exact gx_wm31
  · exact gx_wm32
  · exact gx_wm33
  · exact gx_wm34
  · exact gx_wm35
  · exact gx_wm36
  · exact gx_wm37
  · exact gx_wm38
  · exact gx_wm39
  · exact gx_wm40
  · exact gx_wm41
def gx_pt (p : Nat × Nat) : Option Jvm.Cond := (gx_ws[p.1]?).bind fun l => l[p.2]?
theorem gx_pick {ws : List Jvm.Cond} {is : List (Nat × Nat)} (h : ws = is.filterMap gx_pt) (hm : ws.all gx_mv = true) {w : Jvm.Cond} (hw : w ∈ ws) : w ∈ gx_words := by
  refine List.mem_filter.mpr ⟨?_, List.all_eq_true.mp hm w hw⟩
  rw [h] at hw
  obtain ⟨i, -, hi⟩ := List.mem_filterMap.mp hw
  have hi' : (gx_ws[i.1]?).bind (fun l => l[i.2]?) = some w := hi
  obtain ⟨l, h1, h2⟩ := Option.bind_eq_some_iff.mp hi'
  exact gx_wm l (List.mem_of_getElem? h1) w (List.mem_of_getElem? h2)
def gx_fw (z : Nat × Nat × Nat × Nat) : Jvm.Cond := match gx_cl[z.2.2.1]? with
  | some r => .fieldLink (gx_o z.1) z.2.1 (r.2.1 z.2.2.2).1 (r.2.1 z.2.2.2).2.1 (r.2.1 z.2.2.2).2.2.1
  | none => .tt
def gx_nw (z : Nat × Nat × Nat) : List Jvm.Cond := match gx_cl[z.2.2]? with
  | some r => [.classLink (gx_o z.1) z.2.1 r.1, .instantiable r.1 r.2.2, .initialized r.1]
  | none => []
def gx_mw (z : gx_E) : List Jvm.Cond := if z.2.2.2.1.2.1 = 9 then [] else
  (if z.2.2.1.2.2 = [] then .code z.1 z.2.1 z.2.2.1.1 z.2.2.1.2.1 else .codeWith z.1 z.2.1 z.2.2.1.1 z.2.2.1.2.1 z.2.2.1.2.2) :: .initialized z.1.cls ::
  (if z.2.2.2.1.2.1 = 0 then [.static z.1] else if z.2.2.2.1.2.1 = 1 then [.instanceMethod z.1, .selects z.1.cls z.1 z.1] else [.instanceMethod z.1])
set_option maxRecDepth 100000 in
theorem gx_cF : gx_FT.map gx_fw = [(3, 30), (3, 31), (4, 0), (4, 1), (4, 2), (4, 3), (4, 4), (4, 5), (4, 6), (4, 7), (4, 8), (4, 9), (4, 10), (4, 11), (4, 12), (4, 13), (4, 14), (4, 15), (4, 16), (4, 17), (4, 18), (4, 19), (4, 20), (4, 21), (4, 22), (4, 23), (4, 24), (4, 25), (4, 26), (4, 27), (4, 28), (4, 29), (5, 22), (5, 23), (5, 24), (5, 25), (5, 26), (6, 6), (6, 7), (6, 8), (6, 9), (6, 10), (6, 11), (6, 12), (6, 24), (6, 25), (6, 26), (6, 27), (6, 28), (6, 29), (6, 30), (6, 31), (7, 0), (7, 1), (7, 24), (7, 25), (7, 26), (7, 27), (7, 28), (7, 29), (8, 15), (8, 16), (8, 17), (8, 18), (8, 19), (8, 20), (8, 21), (8, 22), (8, 23), (9, 7), (9, 8), (9, 9), (9, 10), (9, 11), (9, 12), (28, 19), (28, 20), (28, 21), (28, 22), (28, 23), (28, 24), (28, 25), (28, 26), (28, 27), (28, 28), (28, 29), (28, 30), (28, 31), (29, 0), (29, 1), (29, 2), (29, 3), (29, 4), (29, 5), (29, 6), (29, 7), (29, 8), (29, 9), (29, 10), (29, 11), (29, 12), (29, 13), (29, 14), (29, 15), (29, 16), (29, 17), (29, 18), (29, 19), (29, 20), (29, 21), (29, 22), (29, 23)].filterMap gx_pt ∧ (gx_FT.map gx_fw).all gx_mv = true := ⟨rfl, by decide +kernel⟩
set_option maxRecDepth 100000 in
theorem gx_cKL : gx_KL.map (fun z => Jvm.Cond.constantLong (gx_o z.1) z.2.1 z.2.2) = [(20, 16), (22, 15), (32, 24), (36, 5), (37, 9), (41, 8)].filterMap gx_pt ∧ (gx_KL.map (fun z => Jvm.Cond.constantLong (gx_o z.1) z.2.1 z.2.2)).all gx_mv = true := ⟨rfl, by decide +kernel⟩
set_option maxRecDepth 100000 in
theorem gx_cN : gx_CT.flatMap gx_nw = [(3, 9), (3, 10), (2, 24), (3, 17), (3, 18), (2, 25), (3, 23), (3, 25), (2, 26), (6, 0), (6, 1), (2, 27), (6, 18), (6, 19), (2, 28), (7, 14), (7, 15), (2, 29), (7, 20), (6, 1), (2, 27), (8, 9), (8, 10), (2, 30), (28, 13), (28, 14), (2, 31)].filterMap gx_pt ∧ (gx_CT.flatMap gx_nw).all gx_mv = true := ⟨rfl, by decide +kernel⟩
set_option maxRecDepth 100000 in
theorem gx_cC : gx_cl.flatMap (fun r => u_ws r.1 r.2.1 r.2.2) = [(9, 13), (9, 15), (9, 17), (9, 19), (9, 21), (9, 23), (5, 27), (5, 29), (4, 30), (5, 0), (5, 2), (5, 4), (5, 6), (5, 8), (5, 10), (5, 12), (5, 14), (5, 16), (5, 18), (6, 13), (6, 15), (7, 2), (7, 4), (7, 6), (7, 8), (7, 10), (7, 30), (8, 0), (8, 2), (8, 4), (8, 6), (8, 24), (8, 26), (8, 28), (8, 30), (9, 0), (9, 2), (9, 4), (29, 24), (29, 26), (29, 28), (29, 30), (30, 0), (30, 2), (30, 4), (30, 6), (30, 8), (30, 10), (30, 12), (30, 14), (30, 16), (30, 18), (30, 20), (30, 22), (30, 24), (30, 26), (30, 28), (30, 30), (31, 0), (31, 2), (31, 4), (31, 6), (31, 8), (31, 10), (31, 12), (31, 14), (31, 16), (31, 18), (31, 20), (31, 22), (31, 24), (31, 26), (31, 28), (31, 30), (32, 0)].filterMap gx_pt ∧ (gx_cl.flatMap (fun r => u_ws r.1 r.2.1 r.2.2)).all gx_mv = true := ⟨rfl, by decide +kernel⟩
def gx_sw1 (z : Nat × Nat × Nat × Bool) : Jvm.Cond := if z.2.2.2 = true then .methodLinkNest (gx_o z.1) z.2.1 (gx_y z.2.2.1) gx_host else .methodLink (gx_o z.1) z.2.1 (gx_y z.2.2.1)
set_option maxRecDepth 100000 in
theorem gx_cS : gx_MT.map gx_sw1 = [(3, 11), (3, 19), (3, 26), (6, 2), (6, 20), (7, 16), (7, 21), (8, 11), (9, 26), (9, 30), (10, 2), (10, 6), (10, 10), (10, 14), (10, 18), (10, 22), (10, 23), (10, 27), (10, 31), (11, 3), (11, 7), (11, 10), (11, 14), (11, 18), (11, 22), (11, 26), (11, 31), (14, 8), (14, 12), (14, 16), (15, 4), (15, 7), (15, 12), (15, 16), (15, 19), (15, 23), (15, 28), (16, 0), (16, 3), (16, 7), (16, 10), (16, 14), (16, 18), (16, 22), (16, 25), (16, 27), (16, 30), (17, 2), (17, 6), (17, 9), (17, 13), (17, 17), (17, 21), (17, 26), (17, 29), (18, 2), (18, 6), (18, 10), (18, 13), (18, 18), (18, 23), (18, 26), (18, 31), (19, 3), (19, 8), (19, 12), (19, 16), (20, 4), (20, 8), (20, 12), (20, 17), (20, 18), (20, 22), (20, 25), (20, 30), (21, 3), (21, 7), (21, 11), (21, 15), (21, 16), (21, 20), (21, 21), (21, 25), (21, 29), (22, 1), (22, 2), (22, 6), (22, 10), (22, 11), (22, 16), (22, 17), (22, 21), (22, 25), (22, 29), (23, 4), (23, 5), (23, 9), (23, 13), (23, 16), (23, 19), (23, 20), (23, 21), (23, 22), (23, 26), (23, 30), (24, 2), (24, 6), (24, 10), (24, 11), (24, 14), (24, 18), (24, 19), (25, 9), (25, 12), (25, 16), (25, 20), (25, 24), (25, 28), (25, 29), (25, 30), (25, 31), (26, 3), (26, 7), (26, 11), (26, 15), (26, 19), (26, 23), (26, 27), (26, 31), (27, 3), (27, 4), (27, 8), (27, 12), (27, 13), (27, 14), (27, 18), (27, 22), (27, 23), (27, 24), (27, 28), (27, 29), (28, 1), (28, 2), (28, 6), (28, 7), (28, 8), (28, 15), (32, 4), (32, 8), (32, 12), (32, 16), (32, 20), (32, 25), (32, 29), (33, 1), (33, 5), (33, 8), (33, 11), (33, 15), (33, 19), (33, 23), (33, 27), (33, 30), (34, 2), (34, 6), (34, 10), (34, 14), (34, 17), (34, 21), (34, 25), (34, 29), (35, 1), (35, 5), (35, 9), (35, 13), (35, 17), (35, 21), (35, 25), (35, 29), (36, 1), (36, 6), (36, 10), (36, 14), (36, 18), (36, 22), (36, 26), (36, 30), (37, 2), (37, 5), (37, 10), (37, 13), (37, 17), (37, 21), (37, 25), (37, 29), (38, 1), (38, 5), (38, 9), (38, 13), (38, 17), (38, 21), (38, 25), (38, 29), (39, 1), (39, 5), (39, 9), (39, 12), (39, 16), (39, 20), (39, 24), (39, 28), (40, 0), (40, 4), (40, 8), (40, 12), (40, 16), (40, 20), (40, 24), (40, 28), (41, 0), (41, 4)].filterMap gx_pt ∧ (gx_MT.map gx_sw1).all gx_mv = true := ⟨rfl, by decide +kernel⟩
set_option maxRecDepth 100000 in
theorem gx_cM0 : gx_row0.flatMap gx_mw = [(3, 13), (2, 24), (3, 12), (3, 21), (2, 25), (3, 20), (3, 28), (2, 26), (3, 27), (6, 4), (2, 27), (6, 3), (6, 22), (2, 28), (6, 21), (7, 18), (2, 29), (7, 17), (8, 13), (2, 30), (8, 12), (9, 29), (2, 24), (9, 27), (9, 28), (10, 1), (2, 25), (9, 31), (10, 0), (10, 5), (2, 25), (10, 3), (10, 4), (10, 9), (2, 25), (10, 7), (10, 8), (10, 13), (2, 24), (10, 11), (10, 12), (10, 17), (2, 24), (10, 15), (10, 16), (10, 21), (2, 24), (10, 19), (10, 20)].filterMap gx_pt ∧ (gx_row0.flatMap gx_mw).all gx_mv = true := ⟨rfl, by decide +kernel⟩
set_option maxRecDepth 100000 in
theorem gx_cM1 : gx_row1.flatMap gx_mw = [(10, 26), (2, 24), (10, 24), (10, 25), (10, 30), (2, 24), (10, 28), (10, 29), (11, 2), (2, 24), (11, 0), (11, 1), (11, 6), (2, 24), (11, 4), (11, 5), (11, 9), (2, 24), (11, 8), (11, 13), (2, 27), (11, 11), (11, 12), (11, 17), (2, 24), (11, 15), (11, 16), (11, 21), (2, 24), (11, 19), (11, 20), (11, 25), (2, 24), (11, 23), (11, 24), (11, 28), (2, 23), (11, 27), (12, 2), (2, 24), (12, 0), (12, 1), (14, 11), (2, 24), (14, 10), (0, 1), (14, 15), (2, 25), (14, 13), (14, 14), (14, 19), (2, 26), (14, 17), (14, 18)].filterMap gx_pt ∧ (gx_row1.flatMap gx_mw).all gx_mv = true := ⟨rfl, by decide +kernel⟩
set_option maxRecDepth 100000 in
theorem gx_cM2 : gx_row2.flatMap gx_mw = [(15, 6), (2, 23), (15, 5), (15, 10), (2, 24), (15, 8), (15, 9), (15, 15), (2, 26), (15, 13), (15, 14), (15, 18), (2, 23), (15, 17), (15, 22), (2, 24), (15, 20), (15, 21), (15, 26), (2, 26), (15, 24), (15, 25), (15, 31), (2, 26), (15, 29), (15, 30), (16, 2), (2, 23), (16, 1), (16, 6), (2, 24), (16, 4), (16, 5), (16, 9), (2, 23), (16, 8), (16, 13), (2, 24), (16, 11), (16, 12), (16, 17), (2, 24), (16, 16), (0, 2), (16, 21), (2, 25), (16, 19), (16, 20), (16, 24), (2, 25), (16, 23)].filterMap gx_pt ∧ (gx_row2.flatMap gx_mw).all gx_mv = true := ⟨rfl, by decide +kernel⟩
set_option maxRecDepth 100000 in
theorem gx_cM3 : gx_row3.flatMap gx_mw = [(16, 29), (2, 24), (16, 28), (17, 1), (2, 26), (16, 31), (17, 0), (17, 5), (2, 26), (17, 4), (0, 3), (17, 8), (3, 5), (17, 7), (17, 12), (2, 26), (17, 10), (17, 11), (17, 16), (2, 26), (17, 14), (17, 15), (17, 20), (2, 26), (17, 19), (0, 4), (17, 24), (2, 26), (17, 23), (0, 5), (17, 28), (2, 23), (17, 27), (18, 0), (2, 24), (17, 30), (17, 31), (18, 5), (2, 26), (18, 3), (18, 4), (18, 9), (2, 26), (18, 7), (18, 8), (18, 12), (2, 23), (18, 11), (18, 16), (2, 24), (18, 14), (18, 15)].filterMap gx_pt ∧ (gx_row3.flatMap gx_mw).all gx_mv = true := ⟨rfl, by decide +kernel⟩
set_option maxRecDepth 100000 in
theorem gx_cM4 : gx_row4.flatMap gx_mw = [(18, 21), (2, 26), (18, 19), (18, 20), (18, 25), (2, 23), (18, 24), (18, 29), (2, 24), (18, 27), (18, 28), (19, 2), (2, 26), (19, 0), (19, 1), (19, 6), (2, 26), (19, 4), (19, 5), (19, 10), (2, 23), (19, 9), (19, 15), (2, 24), (19, 13), (19, 14), (19, 19), (2, 26), (19, 17), (19, 18), (20, 7), (2, 26), (20, 5), (20, 6), (20, 11), (2, 26), (20, 10), (0, 6), (20, 15), (2, 26), (20, 14), (0, 7), (20, 21), (2, 26), (20, 20), (0, 8), (20, 24), (2, 23), (20, 23), (20, 28), (2, 24), (20, 26), (20, 27)].filterMap gx_pt ∧ (gx_row4.flatMap gx_mw).all gx_mv = true := ⟨rfl, by decide +kernel⟩
set_option maxRecDepth 100000 in
theorem gx_cM5 : gx_row5.flatMap gx_mw = [(21, 1), (2, 28), (20, 31), (21, 0), (21, 5), (2, 23), (21, 4), (21, 10), (2, 24), (21, 8), (21, 9), (21, 14), (2, 29), (21, 12), (21, 13), (21, 19), (2, 28), (21, 17), (21, 18), (21, 24), (2, 28), (21, 22), (21, 23), (21, 28), (2, 28), (21, 26), (21, 27), (22, 0), (2, 29), (21, 31), (0, 9), (22, 5), (2, 29), (22, 4), (0, 10), (22, 9), (2, 29), (22, 8), (0, 11), (22, 14), (2, 29), (22, 13), (0, 12), (22, 20), (2, 29), (22, 19), (0, 13), (22, 24), (2, 29), (22, 23), (0, 14), (22, 28), (2, 29), (22, 27), (0, 15)].filterMap gx_pt ∧ (gx_row5.flatMap gx_mw).all gx_mv = true := ⟨rfl, by decide +kernel⟩
set_option maxRecDepth 100000 in
theorem gx_cM6 : gx_row6.flatMap gx_mw = [(23, 0), (2, 29), (22, 31), (0, 16), (23, 8), (2, 29), (23, 7), (0, 17), (23, 12), (2, 29), (23, 11), (0, 18), (23, 15), (3, 5), (23, 14), (23, 18), (3, 5), (23, 17), (23, 25), (2, 29), (23, 24), (0, 19), (23, 29), (2, 29), (23, 28), (0, 20), (24, 1), (2, 29), (24, 0), (0, 21), (24, 5), (2, 29), (24, 4), (0, 22), (24, 9), (2, 29), (24, 8), (0, 23), (24, 13), (2, 29), (24, 12), (24, 17), (2, 28), (24, 15), (24, 16), (24, 22), (2, 27), (24, 20), (24, 21), (25, 11), (2, 23), (25, 10)].filterMap gx_pt ∧ (gx_row6.flatMap gx_mw).all gx_mv = true := ⟨rfl, by decide +kernel⟩
set_option maxRecDepth 100000 in
theorem gx_cM7 : gx_row7.flatMap gx_mw = [(25, 15), (2, 24), (25, 13), (25, 14), (25, 19), (2, 30), (25, 17), (25, 18), (25, 23), (2, 30), (25, 22), (0, 24), (25, 27), (2, 30), (25, 26), (0, 25), (26, 2), (2, 30), (26, 1), (0, 26), (26, 6), (2, 30), (26, 5), (0, 27), (26, 10), (2, 30), (26, 9), (0, 28), (26, 14), (2, 30), (26, 13), (0, 29), (26, 18), (2, 30), (26, 17), (0, 30), (26, 22), (2, 30), (26, 21), (0, 31), (26, 26), (2, 30), (26, 25), (1, 0), (26, 30), (2, 30), (26, 29), (1, 1), (27, 2), (2, 30), (27, 1), (1, 2), (27, 7), (2, 30), (27, 6), (1, 3)].filterMap gx_pt ∧ (gx_row7.flatMap gx_mw).all gx_mv = true := ⟨rfl, by decide +kernel⟩
set_option maxRecDepth 100000 in
theorem gx_cM8 : gx_row8.flatMap gx_mw = [(27, 11), (2, 30), (27, 10), (1, 4), (27, 17), (2, 30), (27, 16), (1, 5), (27, 21), (2, 30), (27, 20), (1, 6), (27, 27), (2, 30), (27, 26), (1, 7), (28, 0), (2, 30), (27, 31), (1, 8), (28, 5), (2, 30), (28, 4), (1, 9), (28, 11), (2, 30), (28, 10), (1, 10), (28, 17), (2, 31), (28, 16), (32, 7), (2, 31), (32, 5), (32, 6), (32, 11), (2, 31), (32, 10), (1, 11), (32, 15), (2, 31), (32, 14), (1, 12), (32, 19), (2, 31), (32, 18), (1, 13), (32, 23), (2, 31), (32, 21), (32, 22), (32, 28), (2, 31), (32, 26), (32, 27)].filterMap gx_pt ∧ (gx_row8.flatMap gx_mw).all gx_mv = true := ⟨rfl, by decide +kernel⟩
set_option maxRecDepth 100000 in
theorem gx_cM9 : gx_row9.flatMap gx_mw = [(33, 0), (2, 31), (32, 31), (1, 14), (33, 4), (2, 31), (33, 3), (1, 15), (33, 7), (2, 31), (33, 6), (33, 10), (2, 31), (33, 9), (33, 14), (2, 31), (33, 13), (1, 16), (33, 18), (2, 31), (33, 16), (33, 17), (33, 22), (2, 31), (33, 20), (33, 21), (33, 26), (2, 31), (33, 25), (1, 17), (33, 29), (2, 31), (33, 28), (34, 1), (2, 31), (34, 0), (1, 18), (34, 5), (2, 31), (34, 4), (1, 19), (34, 9), (2, 31), (34, 8), (1, 20), (34, 13), (2, 31), (34, 12), (1, 21), (34, 16), (2, 31), (34, 15)].filterMap gx_pt ∧ (gx_row9.flatMap gx_mw).all gx_mv = true := ⟨rfl, by decide +kernel⟩
set_option maxRecDepth 100000 in
theorem gx_cM10 : gx_row10.flatMap gx_mw = [(34, 20), (2, 31), (34, 18), (34, 19), (34, 24), (2, 31), (34, 23), (1, 22), (34, 28), (2, 31), (34, 26), (34, 27), (35, 0), (2, 31), (34, 31), (1, 23), (35, 4), (2, 31), (35, 2), (35, 3), (35, 8), (2, 31), (35, 7), (1, 24), (35, 12), (2, 31), (35, 10), (35, 11), (35, 16), (2, 31), (35, 15), (1, 25), (35, 20), (2, 31), (35, 18), (35, 19), (35, 24), (2, 31), (35, 22), (35, 23), (35, 28), (2, 31), (35, 26), (35, 27), (36, 0), (2, 31), (35, 30), (35, 31), (36, 4), (2, 31), (36, 2), (36, 3), (36, 9), (2, 31), (36, 7), (36, 8)].filterMap gx_pt ∧ (gx_row10.flatMap gx_mw).all gx_mv = true := ⟨rfl, by decide +kernel⟩
set_option maxRecDepth 100000 in
theorem gx_cM11 : gx_row11.flatMap gx_mw = [(36, 13), (2, 31), (36, 11), (36, 12), (36, 17), (2, 31), (36, 15), (36, 16), (36, 21), (2, 31), (36, 20), (1, 26), (36, 25), (2, 31), (36, 24), (1, 27), (36, 29), (2, 31), (36, 28), (1, 28), (37, 1), (2, 31), (37, 0), (1, 29), (37, 4), (2, 31), (37, 3), (37, 8), (2, 31), (37, 7), (1, 30), (37, 12), (2, 31), (37, 11), (37, 16), (2, 31), (37, 15), (1, 31), (37, 20), (2, 31), (37, 19), (2, 0), (37, 24), (2, 31), (37, 23), (2, 1), (37, 28), (2, 31), (37, 27), (2, 2), (38, 0), (2, 31), (37, 31), (2, 3)].filterMap gx_pt ∧ (gx_row11.flatMap gx_mw).all gx_mv = true := ⟨rfl, by decide +kernel⟩
set_option maxRecDepth 100000 in
theorem gx_cM12 : gx_row12.flatMap gx_mw = [(38, 4), (2, 31), (38, 3), (2, 4), (38, 8), (2, 31), (38, 7), (2, 5), (38, 12), (2, 31), (38, 10), (38, 11), (38, 16), (2, 31), (38, 15), (2, 6), (38, 20), (2, 31), (38, 19), (2, 7), (38, 24), (2, 31), (38, 23), (2, 8), (38, 28), (2, 31), (38, 27), (2, 9), (39, 0), (2, 31), (38, 31), (2, 10), (39, 4), (2, 31), (39, 3), (2, 11), (39, 8), (2, 31), (39, 7), (2, 12), (39, 11), (2, 31), (39, 10), (39, 15), (2, 31), (39, 14), (2, 13), (39, 19), (2, 31), (39, 18), (2, 14), (39, 23), (2, 31), (39, 22), (2, 15)].filterMap gx_pt ∧ (gx_row12.flatMap gx_mw).all gx_mv = true := ⟨rfl, by decide +kernel⟩
set_option maxRecDepth 100000 in
theorem gx_cM13 : gx_row13.flatMap gx_mw = [(39, 27), (2, 31), (39, 26), (2, 16), (39, 31), (2, 31), (39, 30), (2, 17), (40, 3), (2, 31), (40, 2), (2, 18), (40, 7), (2, 31), (40, 6), (2, 19), (40, 11), (2, 31), (40, 10), (2, 20), (40, 15), (2, 31), (40, 14), (2, 21), (40, 19), (2, 31), (40, 18), (2, 22), (40, 23), (2, 31), (40, 21), (40, 22), (40, 27), (2, 31), (40, 25), (40, 26), (40, 31), (2, 31), (40, 29), (40, 30), (41, 3), (2, 31), (41, 1), (41, 2), (41, 7), (2, 31), (41, 5), (41, 6), (11, 2), (2, 24), (11, 0), (11, 1)].filterMap gx_pt ∧ (gx_row13.flatMap gx_mw).all gx_mv = true := ⟨rfl, by decide +kernel⟩
set_option maxRecDepth 100000 in
theorem gx_cA : ([.arrayClass .boolean, .arrayClass .int, .arrayClass .long] : List Jvm.Cond) = [(32, 3), (5, 21), (7, 13)].filterMap gx_pt ∧ ([.arrayClass .boolean, .arrayClass .int, .arrayClass .long] : List Jvm.Cond).all gx_mv = true := ⟨rfl, by decide +kernel⟩
set_option maxRecDepth 100000 in
theorem gx_cO : ([.arrayOver (.object gx_elem)] : List Jvm.Cond) = [(3, 24)].filterMap gx_pt ∧ ([.arrayOver (.object gx_elem)] : List Jvm.Cond).all gx_mv = true := ⟨rfl, by decide +kernel⟩
def gx_chk (code : ByteArray) (l : List (Nat × Instr)) : Bool := l.all (fun z => match decode code z.1 with
  | .ok (i, len) => decide (i = z.2) && gx_lok z.2 len
  | _ => false)
def gx_eok (z : gx_E) : Bool := z.2.2.2.2.all (gx_chk z.2.1) && (plainFor z.1 && (decide ((parseMethodDescriptor z.1.desc).map (fun d => d.parameters.length) = some z.2.2.2.1.2.2.1) &&
  (decide (z.1.cls ≠ "java/lang/invoke/MethodHandle" ∧ z.1.cls ≠ "java/lang/invoke/VarHandle") && (decide (z.1.cls = gx_o z.2.2.2.1.1) && (decide (z.2.2.2.1.2.1 = 1 → (gx_cl[z.2.2.2.1.2.2.2]?).map (fun r => r.1) = some z.1.cls ∧ z.2.2.2.1.2.2.2 < 100) &&
  (decide (z.2.2.2.1.2.1 = 2 → z.1.name = "<init>" ∧ z.2.2.1.2.1 = none ∧ z.2.2.1.2.2 = []) && decide (z.2.2.1.1 ≤ 80)))))))
