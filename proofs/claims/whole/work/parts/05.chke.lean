set_option maxRecDepth 100000 in
theorem am_k163_0 : am_c163_0.all (am_chk1 am_m163) = true := by decide +kernel
set_option maxRecDepth 100000 in
theorem am_k163_1 : am_c163_1.all (am_chk1 am_m163) = true := by decide +kernel
set_option maxRecDepth 100000 in
theorem am_k163_2 : am_c163_2.all (am_chk1 am_m163) = true := by decide +kernel
set_option maxRecDepth 100000 in
theorem am_k163_3 : am_c163_3.all (am_chk1 am_m163) = true := by decide +kernel
set_option maxRecDepth 100000 in
theorem am_k163_4 : am_c163_4.all (am_chk1 am_m163) = true := by decide +kernel
set_option maxRecDepth 100000 in
theorem am_k163_5 : am_c163_5.all (am_chk1 am_m163) = true := by decide +kernel
set_option maxRecDepth 100000 in
theorem am_k163_6 : am_c163_6.all (am_chk1 am_m163) = true := by decide +kernel
set_option maxRecDepth 100000 in
theorem am_k163_7 : am_c163_7.all (am_chk1 am_m163) = true := by decide +kernel
set_option maxRecDepth 100000 in
theorem am_k163_8 : am_c163_8.all (am_chk1 am_m163) = true := by decide +kernel
set_option maxRecDepth 100000 in
theorem am_k163_9 : am_c163_9.all (am_chk1 am_m163) = true := by decide +kernel
set_option maxRecDepth 100000 in
theorem am_k163_10 : am_c163_10.all (am_chk1 am_m163) = true := by decide +kernel
set_option maxRecDepth 100000 in
theorem am_k163_11 : am_c163_11.all (am_chk1 am_m163) = true := by decide +kernel
set_option maxRecDepth 100000 in
theorem am_k163_12 : am_c163_12.all (am_chk1 am_m163) = true := by decide +kernel
set_option maxRecDepth 100000 in
theorem am_k163_13 : am_c163_13.all (am_chk1 am_m163) = true := by decide +kernel
set_option maxRecDepth 100000 in
theorem am_k163_14 : am_c163_14.all (am_chk1 am_m163) = true := by decide +kernel
set_option maxRecDepth 100000 in
theorem am_k163_15 : am_c163_15.all (am_chk1 am_m163) = true := by decide +kernel
set_option maxRecDepth 100000 in
theorem am_k163_16 : am_c163_16.all (am_chk1 am_m163) = true := by decide +kernel
set_option maxRecDepth 100000 in
theorem am_k163_17 : am_c163_17.all (am_chk1 am_m163) = true := by decide +kernel
set_option maxRecDepth 100000 in
theorem am_k163_18 : am_c163_18.all (am_chk1 am_m163) = true := by decide +kernel
theorem am_k163 : am_chk (am_m163, am_c163) = true := by
  simp only [am_chk, am_c163, List.all_append, am_k163_0, am_k163_1, am_k163_2, am_k163_3, am_k163_4, am_k163_5, am_k163_6, am_k163_7, am_k163_8, am_k163_9, am_k163_10, am_k163_11, am_k163_12, am_k163_13, am_k163_14, am_k163_15, am_k163_16, am_k163_17, am_k163_18, Bool.and_self]
