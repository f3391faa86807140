set_option maxRecDepth 100000 in
theorem am_k74 : am_chk (am_m74, am_c74) = true := by decide +kernel
set_option maxRecDepth 100000 in
theorem am_k75_0 : am_c75_0.all (am_chk1 am_m75) = true := by decide +kernel
set_option maxRecDepth 100000 in
theorem am_k75_1 : am_c75_1.all (am_chk1 am_m75) = true := by decide +kernel
theorem am_k75 : am_chk (am_m75, am_c75) = true := by
  simp only [am_chk, am_c75, List.all_append, am_k75_0, am_k75_1, Bool.and_self]
set_option maxRecDepth 100000 in
theorem am_k76 : am_chk (am_m76, am_c76) = true := by decide +kernel
set_option maxRecDepth 100000 in
theorem am_k77 : am_chk (am_m77, am_c77) = true := by decide +kernel
set_option maxRecDepth 100000 in
theorem am_k78 : am_chk (am_m78, am_c78) = true := by decide +kernel
set_option maxRecDepth 100000 in
theorem am_k79 : am_chk (am_m79, am_c79) = true := by decide +kernel
set_option maxRecDepth 100000 in
theorem am_k80 : am_chk (am_m80, am_c80) = true := by decide +kernel
set_option maxRecDepth 100000 in
theorem am_k81 : am_chk (am_m81, am_c81) = true := by decide +kernel
set_option maxRecDepth 100000 in
theorem am_k82 : am_chk (am_m82, am_c82) = true := by decide +kernel
set_option maxRecDepth 100000 in
theorem am_k83 : am_chk (am_m83, am_c83) = true := by decide +kernel
set_option maxRecDepth 100000 in
theorem am_k84 : am_chk (am_m84, am_c84) = true := by decide +kernel
set_option maxRecDepth 100000 in
theorem am_k85 : am_chk (am_m85, am_c85) = true := by decide +kernel
set_option maxRecDepth 100000 in
theorem am_k86 : am_chk (am_m86, am_c86) = true := by decide +kernel
set_option maxRecDepth 100000 in
theorem am_k87 : am_chk (am_m87, am_c87) = true := by decide +kernel
set_option maxRecDepth 100000 in
theorem am_k88 : am_chk (am_m88, am_c88) = true := by decide +kernel
set_option maxRecDepth 100000 in
theorem am_k89 : am_chk (am_m89, am_c89) = true := by decide +kernel
set_option maxRecDepth 100000 in
theorem am_k90_0 : am_c90_0.all (am_chk1 am_m90) = true := by decide +kernel
set_option maxRecDepth 100000 in
theorem am_k90_1 : am_c90_1.all (am_chk1 am_m90) = true := by decide +kernel
theorem am_k90 : am_chk (am_m90, am_c90) = true := by
  simp only [am_chk, am_c90, List.all_append, am_k90_0, am_k90_1, Bool.and_self]
set_option maxRecDepth 100000 in
theorem am_k91 : am_chk (am_m91, am_c91) = true := by decide +kernel
set_option maxRecDepth 100000 in
theorem am_k92 : am_chk (am_m92, am_c92) = true := by decide +kernel
set_option maxRecDepth 100000 in
theorem am_k93 : am_chk (am_m93, am_c93) = true := by decide +kernel
set_option maxRecDepth 100000 in
theorem am_k94_0 : am_c94_0.all (am_chk1 am_m94) = true := by decide +kernel
set_option maxRecDepth 100000 in
theorem am_k94_1 : am_c94_1.all (am_chk1 am_m94) = true := by decide +kernel
theorem am_k94 : am_chk (am_m94, am_c94) = true := by
  simp only [am_chk, am_c94, List.all_append, am_k94_0, am_k94_1, Bool.and_self]
set_option maxRecDepth 100000 in
theorem am_k95_0 : am_c95_0.all (am_chk1 am_m95) = true := by decide +kernel
set_option maxRecDepth 100000 in
theorem am_k95_1 : am_c95_1.all (am_chk1 am_m95) = true := by decide +kernel
theorem am_k95 : am_chk (am_m95, am_c95) = true := by
  simp only [am_chk, am_c95, List.all_append, am_k95_0, am_k95_1, Bool.and_self]
set_option maxRecDepth 100000 in
theorem am_k96 : am_chk (am_m96, am_c96) = true := by decide +kernel
set_option maxRecDepth 100000 in
theorem am_k97 : am_chk (am_m97, am_c97) = true := by decide +kernel
set_option maxRecDepth 100000 in
theorem am_k98 : am_chk (am_m98, am_c98) = true := by decide +kernel
set_option maxRecDepth 100000 in
theorem am_k99_0 : am_c99_0.all (am_chk1 am_m99) = true := by decide +kernel
set_option maxRecDepth 100000 in
theorem am_k99_1 : am_c99_1.all (am_chk1 am_m99) = true := by decide +kernel
theorem am_k99 : am_chk (am_m99, am_c99) = true := by
  simp only [am_chk, am_c99, List.all_append, am_k99_0, am_k99_1, Bool.and_self]
set_option maxRecDepth 100000 in
theorem am_k100 : am_chk (am_m100, am_c100) = true := by decide +kernel
set_option maxRecDepth 100000 in
theorem am_k101 : am_chk (am_m101, am_c101) = true := by decide +kernel
set_option maxRecDepth 100000 in
theorem am_k102_0 : am_c102_0.all (am_chk1 am_m102) = true := by decide +kernel
set_option maxRecDepth 100000 in
theorem am_k102_1 : am_c102_1.all (am_chk1 am_m102) = true := by decide +kernel
theorem am_k102 : am_chk (am_m102, am_c102) = true := by
  simp only [am_chk, am_c102, List.all_append, am_k102_0, am_k102_1, Bool.and_self]
set_option maxRecDepth 100000 in
theorem am_k103 : am_chk (am_m103, am_c103) = true := by decide +kernel
set_option maxRecDepth 100000 in
theorem am_k104 : am_chk (am_m104, am_c104) = true := by decide +kernel
set_option maxRecDepth 100000 in
theorem am_k105 : am_chk (am_m105, am_c105) = true := by decide +kernel
set_option maxRecDepth 100000 in
theorem am_k106 : am_chk (am_m106, am_c106) = true := by decide +kernel
set_option maxRecDepth 100000 in
theorem am_k107 : am_chk (am_m107, am_c107) = true := by decide +kernel
set_option maxRecDepth 100000 in
theorem am_k108 : am_chk (am_m108, am_c108) = true := by decide +kernel
set_option maxRecDepth 100000 in
theorem am_k109 : am_chk (am_m109, am_c109) = true := by decide +kernel
set_option maxRecDepth 100000 in
theorem am_k110 : am_chk (am_m110, am_c110) = true := by decide +kernel
set_option maxRecDepth 100000 in
theorem am_k111 : am_chk (am_m111, am_c111) = true := by decide +kernel
set_option maxRecDepth 100000 in
theorem am_k112 : am_chk (am_m112, am_c112) = true := by decide +kernel
set_option maxRecDepth 100000 in
theorem am_k113 : am_chk (am_m113, am_c113) = true := by decide +kernel
set_option maxRecDepth 100000 in
theorem am_k114 : am_chk (am_m114, am_c114) = true := by decide +kernel
set_option maxRecDepth 100000 in
theorem am_k115_0 : am_c115_0.all (am_chk1 am_m115) = true := by decide +kernel
set_option maxRecDepth 100000 in
theorem am_k115_1 : am_c115_1.all (am_chk1 am_m115) = true := by decide +kernel
theorem am_k115 : am_chk (am_m115, am_c115) = true := by
  simp only [am_chk, am_c115, List.all_append, am_k115_0, am_k115_1, Bool.and_self]
set_option maxRecDepth 100000 in
theorem am_k116 : am_chk (am_m116, am_c116) = true := by decide +kernel
set_option maxRecDepth 100000 in
theorem am_k117_0 : am_c117_0.all (am_chk1 am_m117) = true := by decide +kernel
set_option maxRecDepth 100000 in
theorem am_k117_1 : am_c117_1.all (am_chk1 am_m117) = true := by decide +kernel
theorem am_k117 : am_chk (am_m117, am_c117) = true := by
  simp only [am_chk, am_c117, List.all_append, am_k117_0, am_k117_1, Bool.and_self]
set_option maxRecDepth 100000 in
theorem am_k118_0 : am_c118_0.all (am_chk1 am_m118) = true := by decide +kernel
set_option maxRecDepth 100000 in
theorem am_k118_1 : am_c118_1.all (am_chk1 am_m118) = true := by decide +kernel
theorem am_k118 : am_chk (am_m118, am_c118) = true := by
  simp only [am_chk, am_c118, List.all_append, am_k118_0, am_k118_1, Bool.and_self]
set_option maxRecDepth 100000 in
theorem am_k119 : am_chk (am_m119, am_c119) = true := by decide +kernel
set_option maxRecDepth 100000 in
theorem am_k120 : am_chk (am_m120, am_c120) = true := by decide +kernel
set_option maxRecDepth 100000 in
theorem am_k121 : am_chk (am_m121, am_c121) = true := by decide +kernel
set_option maxRecDepth 100000 in
theorem am_k122 : am_chk (am_m122, am_c122) = true := by decide +kernel
set_option maxRecDepth 100000 in
theorem am_k123 : am_chk (am_m123, am_c123) = true := by decide +kernel
set_option maxRecDepth 100000 in
theorem am_k124 : am_chk (am_m124, am_c124) = true := by decide +kernel
set_option maxRecDepth 100000 in
theorem am_k125 : am_chk (am_m125, am_c125) = true := by decide +kernel
set_option maxRecDepth 100000 in
theorem am_k126 : am_chk (am_m126, am_c126) = true := by decide +kernel
set_option maxRecDepth 100000 in
theorem am_k127 : am_chk (am_m127, am_c127) = true := by decide +kernel
set_option maxRecDepth 100000 in
theorem am_k128 : am_chk (am_m128, am_c128) = true := by decide +kernel
set_option maxRecDepth 100000 in
theorem am_k129 : am_chk (am_m129, am_c129) = true := by decide +kernel
set_option maxRecDepth 100000 in
theorem am_k130 : am_chk (am_m130, am_c130) = true := by decide +kernel
set_option maxRecDepth 100000 in
theorem am_k131 : am_chk (am_m131, am_c131) = true := by decide +kernel
set_option maxRecDepth 100000 in
theorem am_k132 : am_chk (am_m132, am_c132) = true := by decide +kernel
set_option maxRecDepth 100000 in
theorem am_k133 : am_chk (am_m133, am_c133) = true := by decide +kernel
set_option maxRecDepth 100000 in
theorem am_k134 : am_chk (am_m134, am_c134) = true := by decide +kernel
set_option maxRecDepth 100000 in
theorem am_k135 : am_chk (am_m135, am_c135) = true := by decide +kernel
set_option maxRecDepth 100000 in
theorem am_k136 : am_chk (am_m136, am_c136) = true := by decide +kernel
set_option maxRecDepth 100000 in
theorem am_k137 : am_chk (am_m137, am_c137) = true := by decide +kernel
set_option maxRecDepth 100000 in
theorem am_k138 : am_chk (am_m138, am_c138) = true := by decide +kernel
set_option maxRecDepth 100000 in
theorem am_k139 : am_chk (am_m139, am_c139) = true := by decide +kernel
set_option maxRecDepth 100000 in
theorem am_k140 : am_chk (am_m140, am_c140) = true := by decide +kernel
set_option maxRecDepth 100000 in
theorem am_k141 : am_chk (am_m141, am_c141) = true := by decide +kernel
set_option maxRecDepth 100000 in
theorem am_k142 : am_chk (am_m142, am_c142) = true := by decide +kernel
set_option maxRecDepth 100000 in
theorem am_k143 : am_chk (am_m143, am_c143) = true := by decide +kernel
set_option maxRecDepth 100000 in
theorem am_k144 : am_chk (am_m144, am_c144) = true := by decide +kernel
set_option maxRecDepth 100000 in
theorem am_k145 : am_chk (am_m145, am_c145) = true := by decide +kernel
set_option maxRecDepth 100000 in
theorem am_k146 : am_chk (am_m146, am_c146) = true := by decide +kernel
set_option maxRecDepth 100000 in
theorem am_k147 : am_chk (am_m147, am_c147) = true := by decide +kernel
