set_option maxRecDepth 100000 in
theorem am_k296_0 : am_c296_0.all (am_chk1 am_m296) = true := by decide +kernel
set_option maxRecDepth 100000 in
theorem am_k296_1 : am_c296_1.all (am_chk1 am_m296) = true := by decide +kernel
set_option maxRecDepth 100000 in
theorem am_k296_2 : am_c296_2.all (am_chk1 am_m296) = true := by decide +kernel
set_option maxRecDepth 100000 in
theorem am_k296_3 : am_c296_3.all (am_chk1 am_m296) = true := by decide +kernel
set_option maxRecDepth 100000 in
theorem am_k296_4 : am_c296_4.all (am_chk1 am_m296) = true := by decide +kernel
set_option maxRecDepth 100000 in
theorem am_k296_5 : am_c296_5.all (am_chk1 am_m296) = true := by decide +kernel
set_option maxRecDepth 100000 in
theorem am_k296_6 : am_c296_6.all (am_chk1 am_m296) = true := by decide +kernel
set_option maxRecDepth 100000 in
theorem am_k296_7 : am_c296_7.all (am_chk1 am_m296) = true := by decide +kernel
set_option maxRecDepth 100000 in
theorem am_k296_8 : am_c296_8.all (am_chk1 am_m296) = true := by decide +kernel
set_option maxRecDepth 100000 in
theorem am_k296_9 : am_c296_9.all (am_chk1 am_m296) = true := by decide +kernel
set_option maxRecDepth 100000 in
theorem am_k296_10 : am_c296_10.all (am_chk1 am_m296) = true := by decide +kernel
set_option maxRecDepth 100000 in
theorem am_k296_11 : am_c296_11.all (am_chk1 am_m296) = true := by decide +kernel
set_option maxRecDepth 100000 in
theorem am_k296_12 : am_c296_12.all (am_chk1 am_m296) = true := by decide +kernel
set_option maxRecDepth 100000 in
theorem am_k296_13 : am_c296_13.all (am_chk1 am_m296) = true := by decide +kernel
theorem am_k296 : am_chk (am_m296, am_c296) = true := by
  simp only [am_chk, am_c296, List.all_append, am_k296_0, am_k296_1, am_k296_2, am_k296_3, am_k296_4, am_k296_5, am_k296_6, am_k296_7, am_k296_8, am_k296_9, am_k296_10, am_k296_11, am_k296_12, am_k296_13, Bool.and_self]
