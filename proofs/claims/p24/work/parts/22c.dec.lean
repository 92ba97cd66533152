theorem gx_ck5 : gx_row5.all gx_eok = true := by decide +kernel
theorem gx_ck6 : gx_row6.all gx_eok = true := by decide +kernel
theorem gx_ck7 : gx_row7.all gx_eok = true := by decide +kernel
theorem gx_ck8 : gx_row8.all gx_eok = true := by decide +kernel
