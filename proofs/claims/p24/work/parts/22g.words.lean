def gx_wl1 : List Jvm.Cond := gx_OT.map (fun z => Jvm.Cond.methodLink (gx_o z.1) z.2.1 objectInit) ++ [.instanceMethod objectInit, .code objectInit ⟨#[0xb1]⟩ 1 none]
set_option maxRecDepth 100000 in
theorem gx_cOI : gx_wl1 = [(3, 14), (3, 22), (3, 29), (6, 5), (6, 23), (7, 19), (8, 14), (28, 18), (3, 15), (3, 16)].filterMap gx_pt ∧ gx_wl1.all gx_mv = true := ⟨rfl, by decide +kernel⟩
def gx_wl2 : List Jvm.Cond := gx_AT.map (fun z => Jvm.Cond.methodLink (gx_o z.1) z.2.1 arraycopyName) ++ [.native arraycopyName, .static arraycopyName, .initialized "java/lang/System"]
set_option maxRecDepth 100000 in
theorem gx_cAC : gx_wl2 = [(23, 1), (24, 23), (23, 3), (23, 2), (3, 7)].filterMap gx_pt ∧ gx_wl2.all gx_mv = true := ⟨rfl, by decide +kernel⟩
def gx_wl3 : List Jvm.Cond := gx_RT.map (fun z => Jvm.Cond.classLink (gx_o z.1) z.2.1 ("[" ++ (FieldType.array .int).toString)) ++ [.arrayOver (.array .int)]
set_option maxRecDepth 100000 in
theorem gx_cMU : gx_wl3 = [(7, 22), (7, 23)].filterMap gx_pt ∧ gx_wl3.all gx_mv = true := ⟨rfl, by decide +kernel⟩
