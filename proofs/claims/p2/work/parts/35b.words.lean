def gx_xtw (z : Nat × Nat × Nat) : List Jvm.Cond := [.classLink (gx_o z.1) z.2.1 (gx_xn z.2.2), .castable (gx_xn z.2.2) (gx_xn z.2.2)]
theorem gx_cXT : gx_XT.flatMap gx_xtw = [381, 389, 382, 470, 387, 389, 468, 470, 619, 630, 628, 630, 678, 795, 793, 795].filterMap (fun i => lw_tbl[i]?) ∧ (gx_XT.flatMap gx_xtw).all gx_mv = true := by decide +kernel
theorem gx_XTok : ∀ z ∈ gx_XT, z.2.1 ≠ 0 ∧ z.2.2 < 100 := by decide +kernel
