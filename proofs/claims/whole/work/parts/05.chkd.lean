set_option maxRecDepth 100000 in
theorem am_k223 : am_chk (am_m223, am_c223) = true := by decide +kernel
set_option maxRecDepth 100000 in
theorem am_k224 : am_chk (am_m224, am_c224) = true := by decide +kernel
set_option maxRecDepth 100000 in
theorem am_k225 : am_chk (am_m225, am_c225) = true := by decide +kernel
set_option maxRecDepth 100000 in
theorem am_k226 : am_chk (am_m226, am_c226) = true := by decide +kernel
set_option maxRecDepth 100000 in
theorem am_k227 : am_chk (am_m227, am_c227) = true := by decide +kernel
set_option maxRecDepth 100000 in
theorem am_k228 : am_chk (am_m228, am_c228) = true := by decide +kernel
set_option maxRecDepth 100000 in
theorem am_k229 : am_chk (am_m229, am_c229) = true := by decide +kernel
set_option maxRecDepth 100000 in
theorem am_k230 : am_chk (am_m230, am_c230) = true := by decide +kernel
set_option maxRecDepth 100000 in
theorem am_k231 : am_chk (am_m231, am_c231) = true := by decide +kernel
set_option maxRecDepth 100000 in
theorem am_k232 : am_chk (am_m232, am_c232) = true := by decide +kernel
set_option maxRecDepth 100000 in
theorem am_k233 : am_chk (am_m233, am_c233) = true := by decide +kernel
set_option maxRecDepth 100000 in
theorem am_k234 : am_chk (am_m234, am_c234) = true := by decide +kernel
set_option maxRecDepth 100000 in
theorem am_k235_0 : am_c235_0.all (am_chk1 am_m235) = true := by decide +kernel
set_option maxRecDepth 100000 in
theorem am_k235_1 : am_c235_1.all (am_chk1 am_m235) = true := by decide +kernel
theorem am_k235 : am_chk (am_m235, am_c235) = true := by
  simp only [am_chk, am_c235, List.all_append, am_k235_0, am_k235_1, Bool.and_self]
set_option maxRecDepth 100000 in
theorem am_k236_0 : am_c236_0.all (am_chk1 am_m236) = true := by decide +kernel
set_option maxRecDepth 100000 in
theorem am_k236_1 : am_c236_1.all (am_chk1 am_m236) = true := by decide +kernel
theorem am_k236 : am_chk (am_m236, am_c236) = true := by
  simp only [am_chk, am_c236, List.all_append, am_k236_0, am_k236_1, Bool.and_self]
set_option maxRecDepth 100000 in
theorem am_k237 : am_chk (am_m237, am_c237) = true := by decide +kernel
set_option maxRecDepth 100000 in
theorem am_k238 : am_chk (am_m238, am_c238) = true := by decide +kernel
set_option maxRecDepth 100000 in
theorem am_k239_0 : am_c239_0.all (am_chk1 am_m239) = true := by decide +kernel
set_option maxRecDepth 100000 in
theorem am_k239_1 : am_c239_1.all (am_chk1 am_m239) = true := by decide +kernel
theorem am_k239 : am_chk (am_m239, am_c239) = true := by
  simp only [am_chk, am_c239, List.all_append, am_k239_0, am_k239_1, Bool.and_self]
set_option maxRecDepth 100000 in
theorem am_k240 : am_chk (am_m240, am_c240) = true := by decide +kernel
set_option maxRecDepth 100000 in
theorem am_k241_0 : am_c241_0.all (am_chk1 am_m241) = true := by decide +kernel
set_option maxRecDepth 100000 in
theorem am_k241_1 : am_c241_1.all (am_chk1 am_m241) = true := by decide +kernel
theorem am_k241 : am_chk (am_m241, am_c241) = true := by
  simp only [am_chk, am_c241, List.all_append, am_k241_0, am_k241_1, Bool.and_self]
set_option maxRecDepth 100000 in
theorem am_k242 : am_chk (am_m242, am_c242) = true := by decide +kernel
set_option maxRecDepth 100000 in
theorem am_k243 : am_chk (am_m243, am_c243) = true := by decide +kernel
set_option maxRecDepth 100000 in
theorem am_k244 : am_chk (am_m244, am_c244) = true := by decide +kernel
set_option maxRecDepth 100000 in
theorem am_k245 : am_chk (am_m245, am_c245) = true := by decide +kernel
set_option maxRecDepth 100000 in
theorem am_k246 : am_chk (am_m246, am_c246) = true := by decide +kernel
set_option maxRecDepth 100000 in
theorem am_k247 : am_chk (am_m247, am_c247) = true := by decide +kernel
set_option maxRecDepth 100000 in
theorem am_k248 : am_chk (am_m248, am_c248) = true := by decide +kernel
set_option maxRecDepth 100000 in
theorem am_k249 : am_chk (am_m249, am_c249) = true := by decide +kernel
set_option maxRecDepth 100000 in
theorem am_k250 : am_chk (am_m250, am_c250) = true := by decide +kernel
set_option maxRecDepth 100000 in
theorem am_k251 : am_chk (am_m251, am_c251) = true := by decide +kernel
set_option maxRecDepth 100000 in
theorem am_k252 : am_chk (am_m252, am_c252) = true := by decide +kernel
set_option maxRecDepth 100000 in
theorem am_k253 : am_chk (am_m253, am_c253) = true := by decide +kernel
set_option maxRecDepth 100000 in
theorem am_k254 : am_chk (am_m254, am_c254) = true := by decide +kernel
set_option maxRecDepth 100000 in
theorem am_k255 : am_chk (am_m255, am_c255) = true := by decide +kernel
set_option maxRecDepth 100000 in
theorem am_k256 : am_chk (am_m256, am_c256) = true := by decide +kernel
set_option maxRecDepth 100000 in
theorem am_k257 : am_chk (am_m257, am_c257) = true := by decide +kernel
set_option maxRecDepth 100000 in
theorem am_k258 : am_chk (am_m258, am_c258) = true := by decide +kernel
set_option maxRecDepth 100000 in
theorem am_k259 : am_chk (am_m259, am_c259) = true := by decide +kernel
set_option maxRecDepth 100000 in
theorem am_k260 : am_chk (am_m260, am_c260) = true := by decide +kernel
set_option maxRecDepth 100000 in
theorem am_k261 : am_chk (am_m261, am_c261) = true := by decide +kernel
set_option maxRecDepth 100000 in
theorem am_k262 : am_chk (am_m262, am_c262) = true := by decide +kernel
set_option maxRecDepth 100000 in
theorem am_k263 : am_chk (am_m263, am_c263) = true := by decide +kernel
set_option maxRecDepth 100000 in
theorem am_k264 : am_chk (am_m264, am_c264) = true := by decide +kernel
set_option maxRecDepth 100000 in
theorem am_k265 : am_chk (am_m265, am_c265) = true := by decide +kernel
set_option maxRecDepth 100000 in
theorem am_k266_0 : am_c266_0.all (am_chk1 am_m266) = true := by decide +kernel
set_option maxRecDepth 100000 in
theorem am_k266_1 : am_c266_1.all (am_chk1 am_m266) = true := by decide +kernel
theorem am_k266 : am_chk (am_m266, am_c266) = true := by
  simp only [am_chk, am_c266, List.all_append, am_k266_0, am_k266_1, Bool.and_self]
set_option maxRecDepth 100000 in
theorem am_k267 : am_chk (am_m267, am_c267) = true := by decide +kernel
set_option maxRecDepth 100000 in
theorem am_k268 : am_chk (am_m268, am_c268) = true := by decide +kernel
set_option maxRecDepth 100000 in
theorem am_k269 : am_chk (am_m269, am_c269) = true := by decide +kernel
set_option maxRecDepth 100000 in
theorem am_k270_0 : am_c270_0.all (am_chk1 am_m270) = true := by decide +kernel
set_option maxRecDepth 100000 in
theorem am_k270_1 : am_c270_1.all (am_chk1 am_m270) = true := by decide +kernel
set_option maxRecDepth 100000 in
theorem am_k270_2 : am_c270_2.all (am_chk1 am_m270) = true := by decide +kernel
theorem am_k270 : am_chk (am_m270, am_c270) = true := by
  simp only [am_chk, am_c270, List.all_append, am_k270_0, am_k270_1, am_k270_2, Bool.and_self]
set_option maxRecDepth 100000 in
theorem am_k271_0 : am_c271_0.all (am_chk1 am_m271) = true := by decide +kernel
set_option maxRecDepth 100000 in
theorem am_k271_1 : am_c271_1.all (am_chk1 am_m271) = true := by decide +kernel
set_option maxRecDepth 100000 in
theorem am_k271_2 : am_c271_2.all (am_chk1 am_m271) = true := by decide +kernel
set_option maxRecDepth 100000 in
theorem am_k271_3 : am_c271_3.all (am_chk1 am_m271) = true := by decide +kernel
theorem am_k271 : am_chk (am_m271, am_c271) = true := by
  simp only [am_chk, am_c271, List.all_append, am_k271_0, am_k271_1, am_k271_2, am_k271_3, Bool.and_self]
set_option maxRecDepth 100000 in
theorem am_k272 : am_chk (am_m272, am_c272) = true := by decide +kernel
set_option maxRecDepth 100000 in
theorem am_k273 : am_chk (am_m273, am_c273) = true := by decide +kernel
set_option maxRecDepth 100000 in
theorem am_k274 : am_chk (am_m274, am_c274) = true := by decide +kernel
set_option maxRecDepth 100000 in
theorem am_k275 : am_chk (am_m275, am_c275) = true := by decide +kernel
set_option maxRecDepth 100000 in
theorem am_k276_0 : am_c276_0.all (am_chk1 am_m276) = true := by decide +kernel
set_option maxRecDepth 100000 in
theorem am_k276_1 : am_c276_1.all (am_chk1 am_m276) = true := by decide +kernel
theorem am_k276 : am_chk (am_m276, am_c276) = true := by
  simp only [am_chk, am_c276, List.all_append, am_k276_0, am_k276_1, Bool.and_self]
set_option maxRecDepth 100000 in
theorem am_k277_0 : am_c277_0.all (am_chk1 am_m277) = true := by decide +kernel
set_option maxRecDepth 100000 in
theorem am_k277_1 : am_c277_1.all (am_chk1 am_m277) = true := by decide +kernel
theorem am_k277 : am_chk (am_m277, am_c277) = true := by
  simp only [am_chk, am_c277, List.all_append, am_k277_0, am_k277_1, Bool.and_self]
set_option maxRecDepth 100000 in
theorem am_k278 : am_chk (am_m278, am_c278) = true := by decide +kernel
set_option maxRecDepth 100000 in
theorem am_k279 : am_chk (am_m279, am_c279) = true := by decide +kernel
set_option maxRecDepth 100000 in
theorem am_k280 : am_chk (am_m280, am_c280) = true := by decide +kernel
set_option maxRecDepth 100000 in
theorem am_k281_0 : am_c281_0.all (am_chk1 am_m281) = true := by decide +kernel
set_option maxRecDepth 100000 in
theorem am_k281_1 : am_c281_1.all (am_chk1 am_m281) = true := by decide +kernel
theorem am_k281 : am_chk (am_m281, am_c281) = true := by
  simp only [am_chk, am_c281, List.all_append, am_k281_0, am_k281_1, Bool.and_self]
set_option maxRecDepth 100000 in
theorem am_k282 : am_chk (am_m282, am_c282) = true := by decide +kernel
set_option maxRecDepth 100000 in
theorem am_k283 : am_chk (am_m283, am_c283) = true := by decide +kernel
set_option maxRecDepth 100000 in
theorem am_k284_0 : am_c284_0.all (am_chk1 am_m284) = true := by decide +kernel
set_option maxRecDepth 100000 in
theorem am_k284_1 : am_c284_1.all (am_chk1 am_m284) = true := by decide +kernel
theorem am_k284 : am_chk (am_m284, am_c284) = true := by
  simp only [am_chk, am_c284, List.all_append, am_k284_0, am_k284_1, Bool.and_self]
set_option maxRecDepth 100000 in
theorem am_k285 : am_chk (am_m285, am_c285) = true := by decide +kernel
set_option maxRecDepth 100000 in
theorem am_k286_0 : am_c286_0.all (am_chk1 am_m286) = true := by decide +kernel
set_option maxRecDepth 100000 in
theorem am_k286_1 : am_c286_1.all (am_chk1 am_m286) = true := by decide +kernel
theorem am_k286 : am_chk (am_m286, am_c286) = true := by
  simp only [am_chk, am_c286, List.all_append, am_k286_0, am_k286_1, Bool.and_self]
set_option maxRecDepth 100000 in
theorem am_k287_0 : am_c287_0.all (am_chk1 am_m287) = true := by decide +kernel
set_option maxRecDepth 100000 in
theorem am_k287_1 : am_c287_1.all (am_chk1 am_m287) = true := by decide +kernel
set_option maxRecDepth 100000 in
theorem am_k287_2 : am_c287_2.all (am_chk1 am_m287) = true := by decide +kernel
theorem am_k287 : am_chk (am_m287, am_c287) = true := by
  simp only [am_chk, am_c287, List.all_append, am_k287_0, am_k287_1, am_k287_2, Bool.and_self]
set_option maxRecDepth 100000 in
theorem am_k288 : am_chk (am_m288, am_c288) = true := by decide +kernel
set_option maxRecDepth 100000 in
theorem am_k289 : am_chk (am_m289, am_c289) = true := by decide +kernel
set_option maxRecDepth 100000 in
theorem am_k290 : am_chk (am_m290, am_c290) = true := by decide +kernel
set_option maxRecDepth 100000 in
theorem am_k291 : am_chk (am_m291, am_c291) = true := by decide +kernel
set_option maxRecDepth 100000 in
theorem am_k292_0 : am_c292_0.all (am_chk1 am_m292) = true := by decide +kernel
set_option maxRecDepth 100000 in
theorem am_k292_1 : am_c292_1.all (am_chk1 am_m292) = true := by decide +kernel
theorem am_k292 : am_chk (am_m292, am_c292) = true := by
  simp only [am_chk, am_c292, List.all_append, am_k292_0, am_k292_1, Bool.and_self]
set_option maxRecDepth 100000 in
theorem am_k293_0 : am_c293_0.all (am_chk1 am_m293) = true := by decide +kernel
set_option maxRecDepth 100000 in
theorem am_k293_1 : am_c293_1.all (am_chk1 am_m293) = true := by decide +kernel
theorem am_k293 : am_chk (am_m293, am_c293) = true := by
  simp only [am_chk, am_c293, List.all_append, am_k293_0, am_k293_1, Bool.and_self]
set_option maxRecDepth 100000 in
theorem am_k294_0 : am_c294_0.all (am_chk1 am_m294) = true := by decide +kernel
set_option maxRecDepth 100000 in
theorem am_k294_1 : am_c294_1.all (am_chk1 am_m294) = true := by decide +kernel
theorem am_k294 : am_chk (am_m294, am_c294) = true := by
  simp only [am_chk, am_c294, List.all_append, am_k294_0, am_k294_1, Bool.and_self]
set_option maxRecDepth 100000 in
theorem am_k295 : am_chk (am_m295, am_c295) = true := by decide +kernel
set_option maxRecDepth 100000 in
theorem am_k297 : am_chk (am_m297, am_c297) = true := by decide +kernel
