theorem gx_ck9 : gx_row9.all gx_eok = true := by decide +kernel
theorem gx_ck10 : gx_row10.all gx_eok = true := by decide +kernel
theorem gx_ck11 : gx_row11.all gx_eok = true := by decide +kernel
theorem gx_ck12 : gx_row12.all gx_eok = true := by decide +kernel
