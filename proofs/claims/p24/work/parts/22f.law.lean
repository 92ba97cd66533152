theorem gx_lb8 : gx_chk code gx_lw8 = true := by decide +kernel
theorem gx_lb9 : gx_chk code gx_lw9 = true := by decide +kernel
theorem gx_lb10 : gx_chk code gx_lw10 = true := by decide +kernel
theorem gx_lb11 : gx_chk code gx_lw11 = true := by decide +kernel
theorem gx_lb12 : gx_chk code gx_lw12 = true := by decide +kernel
theorem gx_lb13 : gx_chk code gx_lw13 = true := by decide +kernel
theorem gx_lb14 : gx_chk code gx_lw14 = true := by decide +kernel
theorem gx_lb15 : gx_chk code gx_lw15 = true := by decide +kernel
theorem gx_lbs : [gx_lw0, gx_lw1, gx_lw2, gx_lw3, gx_lw4, gx_lw5, gx_lw6, gx_lw7, gx_lw8, gx_lw9, gx_lw10, gx_lw11, gx_lw12, gx_lw13, gx_lw14, gx_lw15].all (gx_chk code) = true := by
  simp only [List.all_cons, List.all_nil, gx_lb0, gx_lb1, gx_lb2, gx_lb3, gx_lb4, gx_lb5, gx_lb6, gx_lb7, gx_lb8, gx_lb9, gx_lb10, gx_lb11, gx_lb12, gx_lb13, gx_lb14, gx_lb15, Bool.and_self]
theorem gx_ckL : gx_eok gx_e195 = true := by
  unfold gx_eok
  rw [Bool.and_eq_true]
  exact ⟨gx_lbs, by decide +kernel⟩
theorem gx_ck13a : [gx_e182, gx_e183, gx_e184, gx_e185, gx_e186, gx_e187, gx_e188, gx_e189, gx_e190, gx_e191, gx_e192, gx_e193, gx_e194].all gx_eok = true := by decide +kernel
theorem gx_ck13 : gx_row13.all gx_eok = true := by
  show ([gx_e182, gx_e183, gx_e184, gx_e185, gx_e186, gx_e187, gx_e188, gx_e189, gx_e190, gx_e191, gx_e192, gx_e193, gx_e194] ++ [gx_e195]).all gx_eok = true
  rw [List.all_append, gx_ck13a, Bool.true_and, List.all_cons, gx_ckL]
  rfl
