theorem gx_lb0 : gx_chk code gx_lw0 = true := by decide +kernel
theorem gx_lb1 : gx_chk code gx_lw1 = true := by decide +kernel
theorem gx_lb2 : gx_chk code gx_lw2 = true := by decide +kernel
theorem gx_lb3 : gx_chk code gx_lw3 = true := by decide +kernel
theorem gx_lb4 : gx_chk code gx_lw4 = true := by decide +kernel
theorem gx_lb5 : gx_chk code gx_lw5 = true := by decide +kernel
theorem gx_lb6 : gx_chk code gx_lw6 = true := by decide +kernel
theorem gx_lb7 : gx_chk code gx_lw7 = true := by decide +kernel
