set_option maxRecDepth 100000 in
theorem am_k0 : am_chk (am_m0, am_c0) = true := by decide +kernel
set_option maxRecDepth 100000 in
theorem am_k1 : am_chk (am_m1, am_c1) = true := by decide +kernel
set_option maxRecDepth 100000 in
theorem am_k2 : am_chk (am_m2, am_c2) = true := by decide +kernel
set_option maxRecDepth 100000 in
theorem am_k3 : am_chk (am_m3, am_c3) = true := by decide +kernel
set_option maxRecDepth 100000 in
theorem am_k4 : am_chk (am_m4, am_c4) = true := by decide +kernel
set_option maxRecDepth 100000 in
theorem am_k5 : am_chk (am_m5, am_c5) = true := by decide +kernel
set_option maxRecDepth 100000 in
theorem am_k6 : am_chk (am_m6, am_c6) = true := by decide +kernel
set_option maxRecDepth 100000 in
theorem am_k7 : am_chk (am_m7, am_c7) = true := by decide +kernel
set_option maxRecDepth 100000 in
theorem am_k8 : am_chk (am_m8, am_c8) = true := by decide +kernel
set_option maxRecDepth 100000 in
theorem am_k9 : am_chk (am_m9, am_c9) = true := by decide +kernel
set_option maxRecDepth 100000 in
theorem am_k10 : am_chk (am_m10, am_c10) = true := by decide +kernel
set_option maxRecDepth 100000 in
theorem am_k11_0 : am_c11_0.all (am_chk1 am_m11) = true := by decide +kernel
set_option maxRecDepth 100000 in
theorem am_k11_1 : am_c11_1.all (am_chk1 am_m11) = true := by decide +kernel
theorem am_k11 : am_chk (am_m11, am_c11) = true := by
  simp only [am_chk, am_c11, List.all_append, am_k11_0, am_k11_1, Bool.and_self]
set_option maxRecDepth 100000 in
theorem am_k12_0 : am_c12_0.all (am_chk1 am_m12) = true := by decide +kernel
set_option maxRecDepth 100000 in
theorem am_k12_1 : am_c12_1.all (am_chk1 am_m12) = true := by decide +kernel
theorem am_k12 : am_chk (am_m12, am_c12) = true := by
  simp only [am_chk, am_c12, List.all_append, am_k12_0, am_k12_1, Bool.and_self]
set_option maxRecDepth 100000 in
theorem am_k13 : am_chk (am_m13, am_c13) = true := by decide +kernel
set_option maxRecDepth 100000 in
theorem am_k14 : am_chk (am_m14, am_c14) = true := by decide +kernel
set_option maxRecDepth 100000 in
theorem am_k15 : am_chk (am_m15, am_c15) = true := by decide +kernel
set_option maxRecDepth 100000 in
theorem am_k16 : am_chk (am_m16, am_c16) = true := by decide +kernel
set_option maxRecDepth 100000 in
theorem am_k17 : am_chk (am_m17, am_c17) = true := by decide +kernel
set_option maxRecDepth 100000 in
theorem am_k18 : am_chk (am_m18, am_c18) = true := by decide +kernel
set_option maxRecDepth 100000 in
theorem am_k19 : am_chk (am_m19, am_c19) = true := by decide +kernel
set_option maxRecDepth 100000 in
theorem am_k20 : am_chk (am_m20, am_c20) = true := by decide +kernel
set_option maxRecDepth 100000 in
theorem am_k21 : am_chk (am_m21, am_c21) = true := by decide +kernel
set_option maxRecDepth 100000 in
theorem am_k22_0 : am_c22_0.all (am_chk1 am_m22) = true := by decide +kernel
set_option maxRecDepth 100000 in
theorem am_k22_1 : am_c22_1.all (am_chk1 am_m22) = true := by decide +kernel
theorem am_k22 : am_chk (am_m22, am_c22) = true := by
  simp only [am_chk, am_c22, List.all_append, am_k22_0, am_k22_1, Bool.and_self]
set_option maxRecDepth 100000 in
theorem am_k23 : am_chk (am_m23, am_c23) = true := by decide +kernel
set_option maxRecDepth 100000 in
theorem am_k24 : am_chk (am_m24, am_c24) = true := by decide +kernel
set_option maxRecDepth 100000 in
theorem am_k25 : am_chk (am_m25, am_c25) = true := by decide +kernel
set_option maxRecDepth 100000 in
theorem am_k26_0 : am_c26_0.all (am_chk1 am_m26) = true := by decide +kernel
set_option maxRecDepth 100000 in
theorem am_k26_1 : am_c26_1.all (am_chk1 am_m26) = true := by decide +kernel
theorem am_k26 : am_chk (am_m26, am_c26) = true := by
  simp only [am_chk, am_c26, List.all_append, am_k26_0, am_k26_1, Bool.and_self]
set_option maxRecDepth 100000 in
theorem am_k27 : am_chk (am_m27, am_c27) = true := by decide +kernel
set_option maxRecDepth 100000 in
theorem am_k28 : am_chk (am_m28, am_c28) = true := by decide +kernel
set_option maxRecDepth 100000 in
theorem am_k29 : am_chk (am_m29, am_c29) = true := by decide +kernel
set_option maxRecDepth 100000 in
theorem am_k30 : am_chk (am_m30, am_c30) = true := by decide +kernel
set_option maxRecDepth 100000 in
theorem am_k31 : am_chk (am_m31, am_c31) = true := by decide +kernel
set_option maxRecDepth 100000 in
theorem am_k32 : am_chk (am_m32, am_c32) = true := by decide +kernel
set_option maxRecDepth 100000 in
theorem am_k33 : am_chk (am_m33, am_c33) = true := by decide +kernel
set_option maxRecDepth 100000 in
theorem am_k34 : am_chk (am_m34, am_c34) = true := by decide +kernel
set_option maxRecDepth 100000 in
theorem am_k35 : am_chk (am_m35, am_c35) = true := by decide +kernel
set_option maxRecDepth 100000 in
theorem am_k36 : am_chk (am_m36, am_c36) = true := by decide +kernel
set_option maxRecDepth 100000 in
theorem am_k37_0 : am_c37_0.all (am_chk1 am_m37) = true := by decide +kernel
set_option maxRecDepth 100000 in
theorem am_k37_1 : am_c37_1.all (am_chk1 am_m37) = true := by decide +kernel
theorem am_k37 : am_chk (am_m37, am_c37) = true := by
  simp only [am_chk, am_c37, List.all_append, am_k37_0, am_k37_1, Bool.and_self]
set_option maxRecDepth 100000 in
theorem am_k38 : am_chk (am_m38, am_c38) = true := by decide +kernel
set_option maxRecDepth 100000 in
theorem am_k39 : am_chk (am_m39, am_c39) = true := by decide +kernel
set_option maxRecDepth 100000 in
theorem am_k40 : am_chk (am_m40, am_c40) = true := by decide +kernel
set_option maxRecDepth 100000 in
theorem am_k41 : am_chk (am_m41, am_c41) = true := by decide +kernel
set_option maxRecDepth 100000 in
theorem am_k42 : am_chk (am_m42, am_c42) = true := by decide +kernel
set_option maxRecDepth 100000 in
theorem am_k43 : am_chk (am_m43, am_c43) = true := by decide +kernel
set_option maxRecDepth 100000 in
theorem am_k44_0 : am_c44_0.all (am_chk1 am_m44) = true := by decide +kernel
set_option maxRecDepth 100000 in
theorem am_k44_1 : am_c44_1.all (am_chk1 am_m44) = true := by decide +kernel
theorem am_k44 : am_chk (am_m44, am_c44) = true := by
  simp only [am_chk, am_c44, List.all_append, am_k44_0, am_k44_1, Bool.and_self]
set_option maxRecDepth 100000 in
theorem am_k45 : am_chk (am_m45, am_c45) = true := by decide +kernel
set_option maxRecDepth 100000 in
theorem am_k46 : am_chk (am_m46, am_c46) = true := by decide +kernel
set_option maxRecDepth 100000 in
theorem am_k47 : am_chk (am_m47, am_c47) = true := by decide +kernel
set_option maxRecDepth 100000 in
theorem am_k48 : am_chk (am_m48, am_c48) = true := by decide +kernel
set_option maxRecDepth 100000 in
theorem am_k49_0 : am_c49_0.all (am_chk1 am_m49) = true := by decide +kernel
set_option maxRecDepth 100000 in
theorem am_k49_1 : am_c49_1.all (am_chk1 am_m49) = true := by decide +kernel
theorem am_k49 : am_chk (am_m49, am_c49) = true := by
  simp only [am_chk, am_c49, List.all_append, am_k49_0, am_k49_1, Bool.and_self]
set_option maxRecDepth 100000 in
theorem am_k50 : am_chk (am_m50, am_c50) = true := by decide +kernel
set_option maxRecDepth 100000 in
theorem am_k51 : am_chk (am_m51, am_c51) = true := by decide +kernel
set_option maxRecDepth 100000 in
theorem am_k52 : am_chk (am_m52, am_c52) = true := by decide +kernel
set_option maxRecDepth 100000 in
theorem am_k53 : am_chk (am_m53, am_c53) = true := by decide +kernel
set_option maxRecDepth 100000 in
theorem am_k54_0 : am_c54_0.all (am_chk1 am_m54) = true := by decide +kernel
set_option maxRecDepth 100000 in
theorem am_k54_1 : am_c54_1.all (am_chk1 am_m54) = true := by decide +kernel
theorem am_k54 : am_chk (am_m54, am_c54) = true := by
  simp only [am_chk, am_c54, List.all_append, am_k54_0, am_k54_1, Bool.and_self]
set_option maxRecDepth 100000 in
theorem am_k55 : am_chk (am_m55, am_c55) = true := by decide +kernel
set_option maxRecDepth 100000 in
theorem am_k56 : am_chk (am_m56, am_c56) = true := by decide +kernel
set_option maxRecDepth 100000 in
theorem am_k57_0 : am_c57_0.all (am_chk1 am_m57) = true := by decide +kernel
set_option maxRecDepth 100000 in
theorem am_k57_1 : am_c57_1.all (am_chk1 am_m57) = true := by decide +kernel
theorem am_k57 : am_chk (am_m57, am_c57) = true := by
  simp only [am_chk, am_c57, List.all_append, am_k57_0, am_k57_1, Bool.and_self]
set_option maxRecDepth 100000 in
theorem am_k58 : am_chk (am_m58, am_c58) = true := by decide +kernel
set_option maxRecDepth 100000 in
theorem am_k59 : am_chk (am_m59, am_c59) = true := by decide +kernel
set_option maxRecDepth 100000 in
theorem am_k60_0 : am_c60_0.all (am_chk1 am_m60) = true := by decide +kernel
set_option maxRecDepth 100000 in
theorem am_k60_1 : am_c60_1.all (am_chk1 am_m60) = true := by decide +kernel
theorem am_k60 : am_chk (am_m60, am_c60) = true := by
  simp only [am_chk, am_c60, List.all_append, am_k60_0, am_k60_1, Bool.and_self]
set_option maxRecDepth 100000 in
theorem am_k61_0 : am_c61_0.all (am_chk1 am_m61) = true := by decide +kernel
set_option maxRecDepth 100000 in
theorem am_k61_1 : am_c61_1.all (am_chk1 am_m61) = true := by decide +kernel
theorem am_k61 : am_chk (am_m61, am_c61) = true := by
  simp only [am_chk, am_c61, List.all_append, am_k61_0, am_k61_1, Bool.and_self]
set_option maxRecDepth 100000 in
theorem am_k62 : am_chk (am_m62, am_c62) = true := by decide +kernel
set_option maxRecDepth 100000 in
theorem am_k63 : am_chk (am_m63, am_c63) = true := by decide +kernel
set_option maxRecDepth 100000 in
theorem am_k64_0 : am_c64_0.all (am_chk1 am_m64) = true := by decide +kernel
set_option maxRecDepth 100000 in
theorem am_k64_1 : am_c64_1.all (am_chk1 am_m64) = true := by decide +kernel
theorem am_k64 : am_chk (am_m64, am_c64) = true := by
  simp only [am_chk, am_c64, List.all_append, am_k64_0, am_k64_1, Bool.and_self]
set_option maxRecDepth 100000 in
theorem am_k65 : am_chk (am_m65, am_c65) = true := by decide +kernel
set_option maxRecDepth 100000 in
theorem am_k66 : am_chk (am_m66, am_c66) = true := by decide +kernel
set_option maxRecDepth 100000 in
theorem am_k67_0 : am_c67_0.all (am_chk1 am_m67) = true := by decide +kernel
set_option maxRecDepth 100000 in
theorem am_k67_1 : am_c67_1.all (am_chk1 am_m67) = true := by decide +kernel
theorem am_k67 : am_chk (am_m67, am_c67) = true := by
  simp only [am_chk, am_c67, List.all_append, am_k67_0, am_k67_1, Bool.and_self]
set_option maxRecDepth 100000 in
theorem am_k68_0 : am_c68_0.all (am_chk1 am_m68) = true := by decide +kernel
set_option maxRecDepth 100000 in
theorem am_k68_1 : am_c68_1.all (am_chk1 am_m68) = true := by decide +kernel
theorem am_k68 : am_chk (am_m68, am_c68) = true := by
  simp only [am_chk, am_c68, List.all_append, am_k68_0, am_k68_1, Bool.and_self]
set_option maxRecDepth 100000 in
theorem am_k69_0 : am_c69_0.all (am_chk1 am_m69) = true := by decide +kernel
set_option maxRecDepth 100000 in
theorem am_k69_1 : am_c69_1.all (am_chk1 am_m69) = true := by decide +kernel
theorem am_k69 : am_chk (am_m69, am_c69) = true := by
  simp only [am_chk, am_c69, List.all_append, am_k69_0, am_k69_1, Bool.and_self]
set_option maxRecDepth 100000 in
theorem am_k70 : am_chk (am_m70, am_c70) = true := by decide +kernel
set_option maxRecDepth 100000 in
theorem am_k71 : am_chk (am_m71, am_c71) = true := by decide +kernel
set_option maxRecDepth 100000 in
theorem am_k72 : am_chk (am_m72, am_c72) = true := by decide +kernel
set_option maxRecDepth 100000 in
theorem am_k73_0 : am_c73_0.all (am_chk1 am_m73) = true := by decide +kernel
set_option maxRecDepth 100000 in
theorem am_k73_1 : am_c73_1.all (am_chk1 am_m73) = true := by decide +kernel
theorem am_k73 : am_chk (am_m73, am_c73) = true := by
  simp only [am_chk, am_c73, List.all_append, am_k73_0, am_k73_1, Bool.and_self]
