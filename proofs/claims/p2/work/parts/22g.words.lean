def gx_wl1 : List Jvm.Cond := gx_OT.map (fun z => Jvm.Cond.methodLink (gx_o z.1) z.2.1 objectInit) ++ [.instanceMethod objectInit, .code objectInit ⟨#[0xb1]⟩ 1 none]
theorem gx_cOI : gx_wl1 = [110, 118, 125, 197, 215, 243, 270, 914, 111, 112].filterMap (fun i => lw_tbl[i]?) ∧ gx_wl1.all gx_mv = true := by decide +kernel
def gx_wl2 : List Jvm.Cond := gx_AT.map (fun z => Jvm.Cond.methodLink (gx_o z.1) z.2.1 arraycopyName) ++ [.native arraycopyName, .static arraycopyName, .initialized "java/lang/System"]
theorem gx_cAC : gx_wl2 = [737, 791, 739, 738, 103].filterMap (fun i => lw_tbl[i]?) ∧ gx_wl2.all gx_mv = true := by decide +kernel
def gx_wl3 : List Jvm.Cond := gx_RT.map (fun z => Jvm.Cond.classLink (gx_o z.1) z.2.1 ("[" ++ (FieldType.array .int).toString)) ++ [.arrayOver (.array .int)]
theorem gx_cMU : gx_wl3 = [246, 247].filterMap (fun i => lw_tbl[i]?) ∧ gx_wl3.all gx_mv = true := by decide +kernel
