set_option maxRecDepth 100000 in
theorem am_k148 : am_chk (am_m148, am_c148) = true := by decide +kernel
set_option maxRecDepth 100000 in
theorem am_k149 : am_chk (am_m149, am_c149) = true := by decide +kernel
set_option maxRecDepth 100000 in
theorem am_k150 : am_chk (am_m150, am_c150) = true := by decide +kernel
set_option maxRecDepth 100000 in
theorem am_k151 : am_chk (am_m151, am_c151) = true := by decide +kernel
set_option maxRecDepth 100000 in
theorem am_k152 : am_chk (am_m152, am_c152) = true := by decide +kernel
set_option maxRecDepth 100000 in
theorem am_k153 : am_chk (am_m153, am_c153) = true := by decide +kernel
set_option maxRecDepth 100000 in
theorem am_k154 : am_chk (am_m154, am_c154) = true := by decide +kernel
set_option maxRecDepth 100000 in
theorem am_k155 : am_chk (am_m155, am_c155) = true := by decide +kernel
set_option maxRecDepth 100000 in
theorem am_k156 : am_chk (am_m156, am_c156) = true := by decide +kernel
set_option maxRecDepth 100000 in
theorem am_k157 : am_chk (am_m157, am_c157) = true := by decide +kernel
set_option maxRecDepth 100000 in
theorem am_k158 : am_chk (am_m158, am_c158) = true := by decide +kernel
set_option maxRecDepth 100000 in
theorem am_k159 : am_chk (am_m159, am_c159) = true := by decide +kernel
set_option maxRecDepth 100000 in
theorem am_k160 : am_chk (am_m160, am_c160) = true := by decide +kernel
set_option maxRecDepth 100000 in
theorem am_k161 : am_chk (am_m161, am_c161) = true := by decide +kernel
set_option maxRecDepth 100000 in
theorem am_k162_0 : am_c162_0.all (am_chk1 am_m162) = true := by decide +kernel
set_option maxRecDepth 100000 in
theorem am_k162_1 : am_c162_1.all (am_chk1 am_m162) = true := by decide +kernel
theorem am_k162 : am_chk (am_m162, am_c162) = true := by
  simp only [am_chk, am_c162, List.all_append, am_k162_0, am_k162_1, Bool.and_self]
set_option maxRecDepth 100000 in
theorem am_k164 : am_chk (am_m164, am_c164) = true := by decide +kernel
set_option maxRecDepth 100000 in
theorem am_k165_0 : am_c165_0.all (am_chk1 am_m165) = true := by decide +kernel
set_option maxRecDepth 100000 in
theorem am_k165_1 : am_c165_1.all (am_chk1 am_m165) = true := by decide +kernel
theorem am_k165 : am_chk (am_m165, am_c165) = true := by
  simp only [am_chk, am_c165, List.all_append, am_k165_0, am_k165_1, Bool.and_self]
set_option maxRecDepth 100000 in
theorem am_k166 : am_chk (am_m166, am_c166) = true := by decide +kernel
set_option maxRecDepth 100000 in
theorem am_k167 : am_chk (am_m167, am_c167) = true := by decide +kernel
set_option maxRecDepth 100000 in
theorem am_k168 : am_chk (am_m168, am_c168) = true := by decide +kernel
set_option maxRecDepth 100000 in
theorem am_k169 : am_chk (am_m169, am_c169) = true := by decide +kernel
set_option maxRecDepth 100000 in
theorem am_k170 : am_chk (am_m170, am_c170) = true := by decide +kernel
set_option maxRecDepth 100000 in
theorem am_k171_0 : am_c171_0.all (am_chk1 am_m171) = true := by decide +kernel
set_option maxRecDepth 100000 in
theorem am_k171_1 : am_c171_1.all (am_chk1 am_m171) = true := by decide +kernel
theorem am_k171 : am_chk (am_m171, am_c171) = true := by
  simp only [am_chk, am_c171, List.all_append, am_k171_0, am_k171_1, Bool.and_self]
set_option maxRecDepth 100000 in
theorem am_k172 : am_chk (am_m172, am_c172) = true := by decide +kernel
set_option maxRecDepth 100000 in
theorem am_k173 : am_chk (am_m173, am_c173) = true := by decide +kernel
set_option maxRecDepth 100000 in
theorem am_k174 : am_chk (am_m174, am_c174) = true := by decide +kernel
set_option maxRecDepth 100000 in
theorem am_k175 : am_chk (am_m175, am_c175) = true := by decide +kernel
set_option maxRecDepth 100000 in
theorem am_k176_0 : am_c176_0.all (am_chk1 am_m176) = true := by decide +kernel
set_option maxRecDepth 100000 in
theorem am_k176_1 : am_c176_1.all (am_chk1 am_m176) = true := by decide +kernel
theorem am_k176 : am_chk (am_m176, am_c176) = true := by
  simp only [am_chk, am_c176, List.all_append, am_k176_0, am_k176_1, Bool.and_self]
set_option maxRecDepth 100000 in
theorem am_k177_0 : am_c177_0.all (am_chk1 am_m177) = true := by decide +kernel
set_option maxRecDepth 100000 in
theorem am_k177_1 : am_c177_1.all (am_chk1 am_m177) = true := by decide +kernel
set_option maxRecDepth 100000 in
theorem am_k177_2 : am_c177_2.all (am_chk1 am_m177) = true := by decide +kernel
theorem am_k177 : am_chk (am_m177, am_c177) = true := by
  simp only [am_chk, am_c177, List.all_append, am_k177_0, am_k177_1, am_k177_2, Bool.and_self]
set_option maxRecDepth 100000 in
theorem am_k178_0 : am_c178_0.all (am_chk1 am_m178) = true := by decide +kernel
set_option maxRecDepth 100000 in
theorem am_k178_1 : am_c178_1.all (am_chk1 am_m178) = true := by decide +kernel
theorem am_k178 : am_chk (am_m178, am_c178) = true := by
  simp only [am_chk, am_c178, List.all_append, am_k178_0, am_k178_1, Bool.and_self]
set_option maxRecDepth 100000 in
theorem am_k179 : am_chk (am_m179, am_c179) = true := by decide +kernel
set_option maxRecDepth 100000 in
theorem am_k180 : am_chk (am_m180, am_c180) = true := by decide +kernel
set_option maxRecDepth 100000 in
theorem am_k181 : am_chk (am_m181, am_c181) = true := by decide +kernel
set_option maxRecDepth 100000 in
theorem am_k182 : am_chk (am_m182, am_c182) = true := by decide +kernel
set_option maxRecDepth 100000 in
theorem am_k183_0 : am_c183_0.all (am_chk1 am_m183) = true := by decide +kernel
set_option maxRecDepth 100000 in
theorem am_k183_1 : am_c183_1.all (am_chk1 am_m183) = true := by decide +kernel
theorem am_k183 : am_chk (am_m183, am_c183) = true := by
  simp only [am_chk, am_c183, List.all_append, am_k183_0, am_k183_1, Bool.and_self]
set_option maxRecDepth 100000 in
theorem am_k184_0 : am_c184_0.all (am_chk1 am_m184) = true := by decide +kernel
set_option maxRecDepth 100000 in
theorem am_k184_1 : am_c184_1.all (am_chk1 am_m184) = true := by decide +kernel
theorem am_k184 : am_chk (am_m184, am_c184) = true := by
  simp only [am_chk, am_c184, List.all_append, am_k184_0, am_k184_1, Bool.and_self]
set_option maxRecDepth 100000 in
theorem am_k185 : am_chk (am_m185, am_c185) = true := by decide +kernel
set_option maxRecDepth 100000 in
theorem am_k186 : am_chk (am_m186, am_c186) = true := by decide +kernel
set_option maxRecDepth 100000 in
theorem am_k187_0 : am_c187_0.all (am_chk1 am_m187) = true := by decide +kernel
set_option maxRecDepth 100000 in
theorem am_k187_1 : am_c187_1.all (am_chk1 am_m187) = true := by decide +kernel
theorem am_k187 : am_chk (am_m187, am_c187) = true := by
  simp only [am_chk, am_c187, List.all_append, am_k187_0, am_k187_1, Bool.and_self]
set_option maxRecDepth 100000 in
theorem am_k188_0 : am_c188_0.all (am_chk1 am_m188) = true := by decide +kernel
set_option maxRecDepth 100000 in
theorem am_k188_1 : am_c188_1.all (am_chk1 am_m188) = true := by decide +kernel
theorem am_k188 : am_chk (am_m188, am_c188) = true := by
  simp only [am_chk, am_c188, List.all_append, am_k188_0, am_k188_1, Bool.and_self]
set_option maxRecDepth 100000 in
theorem am_k189_0 : am_c189_0.all (am_chk1 am_m189) = true := by decide +kernel
set_option maxRecDepth 100000 in
theorem am_k189_1 : am_c189_1.all (am_chk1 am_m189) = true := by decide +kernel
theorem am_k189 : am_chk (am_m189, am_c189) = true := by
  simp only [am_chk, am_c189, List.all_append, am_k189_0, am_k189_1, Bool.and_self]
set_option maxRecDepth 100000 in
theorem am_k190_0 : am_c190_0.all (am_chk1 am_m190) = true := by decide +kernel
set_option maxRecDepth 100000 in
theorem am_k190_1 : am_c190_1.all (am_chk1 am_m190) = true := by decide +kernel
set_option maxRecDepth 100000 in
theorem am_k190_2 : am_c190_2.all (am_chk1 am_m190) = true := by decide +kernel
set_option maxRecDepth 100000 in
theorem am_k190_3 : am_c190_3.all (am_chk1 am_m190) = true := by decide +kernel
theorem am_k190 : am_chk (am_m190, am_c190) = true := by
  simp only [am_chk, am_c190, List.all_append, am_k190_0, am_k190_1, am_k190_2, am_k190_3, Bool.and_self]
set_option maxRecDepth 100000 in
theorem am_k191 : am_chk (am_m191, am_c191) = true := by decide +kernel
set_option maxRecDepth 100000 in
theorem am_k192 : am_chk (am_m192, am_c192) = true := by decide +kernel
set_option maxRecDepth 100000 in
theorem am_k193 : am_chk (am_m193, am_c193) = true := by decide +kernel
set_option maxRecDepth 100000 in
theorem am_k194 : am_chk (am_m194, am_c194) = true := by decide +kernel
set_option maxRecDepth 100000 in
theorem am_k195 : am_chk (am_m195, am_c195) = true := by decide +kernel
set_option maxRecDepth 100000 in
theorem am_k196 : am_chk (am_m196, am_c196) = true := by decide +kernel
set_option maxRecDepth 100000 in
theorem am_k197 : am_chk (am_m197, am_c197) = true := by decide +kernel
set_option maxRecDepth 100000 in
theorem am_k198 : am_chk (am_m198, am_c198) = true := by decide +kernel
set_option maxRecDepth 100000 in
theorem am_k199 : am_chk (am_m199, am_c199) = true := by decide +kernel
set_option maxRecDepth 100000 in
theorem am_k200 : am_chk (am_m200, am_c200) = true := by decide +kernel
set_option maxRecDepth 100000 in
theorem am_k201 : am_chk (am_m201, am_c201) = true := by decide +kernel
set_option maxRecDepth 100000 in
theorem am_k202 : am_chk (am_m202, am_c202) = true := by decide +kernel
set_option maxRecDepth 100000 in
theorem am_k203 : am_chk (am_m203, am_c203) = true := by decide +kernel
set_option maxRecDepth 100000 in
theorem am_k204 : am_chk (am_m204, am_c204) = true := by decide +kernel
set_option maxRecDepth 100000 in
theorem am_k205 : am_chk (am_m205, am_c205) = true := by decide +kernel
set_option maxRecDepth 100000 in
theorem am_k206_0 : am_c206_0.all (am_chk1 am_m206) = true := by decide +kernel
set_option maxRecDepth 100000 in
theorem am_k206_1 : am_c206_1.all (am_chk1 am_m206) = true := by decide +kernel
theorem am_k206 : am_chk (am_m206, am_c206) = true := by
  simp only [am_chk, am_c206, List.all_append, am_k206_0, am_k206_1, Bool.and_self]
set_option maxRecDepth 100000 in
theorem am_k207 : am_chk (am_m207, am_c207) = true := by decide +kernel
set_option maxRecDepth 100000 in
theorem am_k208_0 : am_c208_0.all (am_chk1 am_m208) = true := by decide +kernel
set_option maxRecDepth 100000 in
theorem am_k208_1 : am_c208_1.all (am_chk1 am_m208) = true := by decide +kernel
set_option maxRecDepth 100000 in
theorem am_k208_2 : am_c208_2.all (am_chk1 am_m208) = true := by decide +kernel
theorem am_k208 : am_chk (am_m208, am_c208) = true := by
  simp only [am_chk, am_c208, List.all_append, am_k208_0, am_k208_1, am_k208_2, Bool.and_self]
set_option maxRecDepth 100000 in
theorem am_k209_0 : am_c209_0.all (am_chk1 am_m209) = true := by decide +kernel
set_option maxRecDepth 100000 in
theorem am_k209_1 : am_c209_1.all (am_chk1 am_m209) = true := by decide +kernel
theorem am_k209 : am_chk (am_m209, am_c209) = true := by
  simp only [am_chk, am_c209, List.all_append, am_k209_0, am_k209_1, Bool.and_self]
set_option maxRecDepth 100000 in
theorem am_k210_0 : am_c210_0.all (am_chk1 am_m210) = true := by decide +kernel
set_option maxRecDepth 100000 in
theorem am_k210_1 : am_c210_1.all (am_chk1 am_m210) = true := by decide +kernel
theorem am_k210 : am_chk (am_m210, am_c210) = true := by
  simp only [am_chk, am_c210, List.all_append, am_k210_0, am_k210_1, Bool.and_self]
set_option maxRecDepth 100000 in
theorem am_k211 : am_chk (am_m211, am_c211) = true := by decide +kernel
set_option maxRecDepth 100000 in
theorem am_k212 : am_chk (am_m212, am_c212) = true := by decide +kernel
set_option maxRecDepth 100000 in
theorem am_k213 : am_chk (am_m213, am_c213) = true := by decide +kernel
set_option maxRecDepth 100000 in
theorem am_k214 : am_chk (am_m214, am_c214) = true := by decide +kernel
set_option maxRecDepth 100000 in
theorem am_k215 : am_chk (am_m215, am_c215) = true := by decide +kernel
set_option maxRecDepth 100000 in
theorem am_k216 : am_chk (am_m216, am_c216) = true := by decide +kernel
set_option maxRecDepth 100000 in
theorem am_k217 : am_chk (am_m217, am_c217) = true := by decide +kernel
set_option maxRecDepth 100000 in
theorem am_k218 : am_chk (am_m218, am_c218) = true := by decide +kernel
set_option maxRecDepth 100000 in
theorem am_k219_0 : am_c219_0.all (am_chk1 am_m219) = true := by decide +kernel
set_option maxRecDepth 100000 in
theorem am_k219_1 : am_c219_1.all (am_chk1 am_m219) = true := by decide +kernel
theorem am_k219 : am_chk (am_m219, am_c219) = true := by
  simp only [am_chk, am_c219, List.all_append, am_k219_0, am_k219_1, Bool.and_self]
set_option maxRecDepth 100000 in
theorem am_k220 : am_chk (am_m220, am_c220) = true := by decide +kernel
set_option maxRecDepth 100000 in
theorem am_k221 : am_chk (am_m221, am_c221) = true := by decide +kernel
set_option maxRecDepth 100000 in
theorem am_k222 : am_chk (am_m222, am_c222) = true := by decide +kernel
