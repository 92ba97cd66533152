theorem gx_ck0 : gx_row0.all gx_eok = true := by decide +kernel
theorem gx_ck1 : gx_row1.all gx_eok = true := by decide +kernel
theorem gx_ck2 : gx_row2.all gx_eok = true := by decide +kernel
theorem gx_ck3 : gx_row3.all gx_eok = true := by decide +kernel
theorem gx_ck4 : gx_row4.all gx_eok = true := by decide +kernel
