/-! ===== the words of the tables, by their places ===== -/
def am_TB : List Cond := lw_tbl.filter goodWord
theorem am_nth_mem {α : Type} : ∀ (l : List α) (k : Nat) {a : α}, am_nth l k = some a → a ∈ l
  | [], _, _, h => by cases h
  | b :: r, 0, a, h => by cases h; exact List.mem_cons_self
  | b :: r, k + 1, a, h => List.mem_cons_of_mem _ (am_nth_mem r k h)
theorem am_tab_mem {p : Nat} {w : Cond} (h : am_tab p = some w) : w ∈ lw_tbl := by
  unfold am_tab at h
  unfold lw_tbl
  rw [List.mem_append]
  split at h
  · exact Or.inr (have h2 := am_nth_mem tables_1_1 _ h; List.mem_append_left _ h2)
  · exact Or.inr (have h2 := am_nth_mem tables_1_2 _ h; List.mem_append_right _ (List.mem_append_left _ h2))
  · exact Or.inr (have h2 := am_nth_mem tables_1_3 _ h; List.mem_append_right _ (List.mem_append_right _ (List.mem_append_left _ h2)))
  · exact Or.inr (have h2 := am_nth_mem tables_1_4 _ h; List.mem_append_right _ (List.mem_append_right _ (List.mem_append_right _ (List.mem_append_left _ h2))))
  · exact Or.inr (have h2 := am_nth_mem tables_1_5 _ h; List.mem_append_right _ (List.mem_append_right _ (List.mem_append_right _ (List.mem_append_right _ (List.mem_append_left _ h2)))))
  · exact Or.inr (have h2 := am_nth_mem tables_1_6 _ h; List.mem_append_right _ (List.mem_append_right _ (List.mem_append_right _ (List.mem_append_right _ (List.mem_append_right _ (List.mem_append_left _ h2))))))
  · exact Or.inr (have h2 := am_nth_mem tables_1_7 _ h; List.mem_append_right _ (List.mem_append_right _ (List.mem_append_right _ (List.mem_append_right _ (List.mem_append_right _ (List.mem_append_right _ (List.mem_append_left _ h2)))))))
  · exact Or.inr (have h2 := am_nth_mem tables_1_8 _ h; List.mem_append_right _ (List.mem_append_right _ (List.mem_append_right _ (List.mem_append_right _ (List.mem_append_right _ (List.mem_append_right _ (List.mem_append_right _ (List.mem_append_left _ h2))))))))
  · exact Or.inr (have h2 := am_nth_mem tables_1_9 _ h; List.mem_append_right _ (List.mem_append_right _ (List.mem_append_right _ (List.mem_append_right _ (List.mem_append_right _ (List.mem_append_right _ (List.mem_append_right _ (List.mem_append_right _ (h2)))))))))
  left
  cases hq : am_nth lw_privs (p - 10000) with
  | none => rw [hq] at h; cases h
  | some q =>
    rw [hq] at h
    cases h
    unfold k2_sels
    exact List.mem_map.mpr ⟨q, am_nth_mem _ _ hq, rfl⟩
def am_wd (p : Nat) (w : Cond) : Bool := decide (am_tab p = some w) && goodWord w
theorem am_wd_ok {p : Nat} {w : Cond} (h : am_wd p w = true) : w ∈ am_TB := by
  unfold am_wd at h
  rw [Bool.and_eq_true] at h
  exact List.mem_filter.mpr ⟨am_tab_mem (of_decide_eq_true h.1), h.2⟩
theorem am_TB_good {ws : List Cond} (h : ∀ w ∈ ws, w ∈ am_TB) : GoodIn am_TB ws := fun w hw => ⟨h w hw, good_of_word (List.mem_filter.mp (h w hw)).2⟩
def am_chkM (mr : am_Mr) : Bool :=
  (Nat.beq mr.2.2.2.2.2.1 3 || (true && (am_wd mr.2.2.2.2.2.2.2.2.1 (.initialized mr.1.cls) && (am_wd mr.2.2.2.2.2.2.2.2.2.1 (bif Nat.beq mr.2.2.2.2.2.1 1 then .static mr.1 else .instanceMethod mr.1) && ((!(Nat.beq mr.2.2.2.2.2.1 0)) || am_wd mr.2.2.2.2.2.2.2.2.2.2 (.selects mr.1.cls mr.1 mr.1))))))
  && (plainFor mr.1 && (decide (mr.1.cls ≠ "java/lang/invoke/MethodHandle") && (decide (mr.1.cls ≠ "java/lang/invoke/VarHandle") && (decide ((parseMethodDescriptor mr.1.desc).map (fun d => d.parameters.length) = some mr.2.2.2.2.1) && (decide (am_nth am_own mr.2.2.2.2.2.2.1 = some mr.1.cls) && ((!(Nat.beq mr.2.2.2.2.2.1 2)) || decide (mr.1.name = "<init>"))))))
    && (Nat.ble mr.2.2.1 40))
set_option maxRecDepth 100000 in
theorem am_M_ok : am_PM.all (fun q => am_chkM q.1) = true := by decide +kernel
def am_cwP (mr : am_Mr) : Prop := mr.2.2.2.2.2.1 = 3 ∨ Cond.code mr.1 mr.2.1 mr.2.2.1 mr.2.2.2.1 ∈ am_TB
theorem am_cwM {mr : am_Mr} (h : am_tab mr.2.2.2.2.2.2.2.1 = some (.code mr.1 mr.2.1 mr.2.2.1 mr.2.2.2.1)) : am_cwP mr := Or.inr (List.mem_filter.mpr ⟨am_tab_mem h, rfl⟩)
theorem am_q0 : am_cwP am_m0 := am_cwM rfl
theorem am_q1 : am_cwP am_m1 := am_cwM rfl
theorem am_q2 : am_cwP am_m2 := am_cwM rfl
theorem am_q3 : am_cwP am_m3 := am_cwM rfl
theorem am_q4 : am_cwP am_m4 := am_cwM rfl
theorem am_q5 : am_cwP am_m5 := am_cwM rfl
theorem am_q6 : am_cwP am_m6 := am_cwM rfl
theorem am_q7 : am_cwP am_m7 := am_cwM rfl
theorem am_q8 : am_cwP am_m8 := am_cwM rfl
theorem am_q9 : am_cwP am_m9 := am_cwM rfl
theorem am_q10 : am_cwP am_m10 := am_cwM rfl
theorem am_q11 : am_cwP am_m11 := am_cwM rfl
theorem am_q12 : am_cwP am_m12 := am_cwM rfl
theorem am_q13 : am_cwP am_m13 := am_cwM rfl
theorem am_q14 : am_cwP am_m14 := am_cwM rfl
theorem am_q15 : am_cwP am_m15 := am_cwM rfl
theorem am_q16 : am_cwP am_m16 := am_cwM rfl
theorem am_q17 : am_cwP am_m17 := am_cwM rfl
theorem am_q18 : am_cwP am_m18 := am_cwM rfl
theorem am_q19 : am_cwP am_m19 := am_cwM rfl
theorem am_q20 : am_cwP am_m20 := am_cwM rfl
theorem am_q21 : am_cwP am_m21 := am_cwM rfl
theorem am_q22 : am_cwP am_m22 := am_cwM rfl
theorem am_q23 : am_cwP am_m23 := am_cwM rfl
theorem am_q24 : am_cwP am_m24 := am_cwM rfl
theorem am_q25 : am_cwP am_m25 := am_cwM rfl
theorem am_q26 : am_cwP am_m26 := am_cwM rfl
theorem am_q27 : am_cwP am_m27 := am_cwM rfl
theorem am_q28 : am_cwP am_m28 := am_cwM rfl
theorem am_q29 : am_cwP am_m29 := am_cwM rfl
theorem am_q30 : am_cwP am_m30 := am_cwM rfl
theorem am_q31 : am_cwP am_m31 := am_cwM rfl
theorem am_q32 : am_cwP am_m32 := am_cwM rfl
theorem am_q33 : am_cwP am_m33 := am_cwM rfl
theorem am_q34 : am_cwP am_m34 := am_cwM rfl
theorem am_q35 : am_cwP am_m35 := am_cwM rfl
theorem am_q36 : am_cwP am_m36 := am_cwM rfl
theorem am_q37 : am_cwP am_m37 := am_cwM rfl
theorem am_q38 : am_cwP am_m38 := am_cwM rfl
theorem am_q39 : am_cwP am_m39 := am_cwM rfl
theorem am_q40 : am_cwP am_m40 := am_cwM rfl
theorem am_q41 : am_cwP am_m41 := am_cwM rfl
theorem am_q42 : am_cwP am_m42 := am_cwM rfl
theorem am_q43 : am_cwP am_m43 := am_cwM rfl
theorem am_q44 : am_cwP am_m44 := am_cwM rfl
theorem am_q45 : am_cwP am_m45 := am_cwM rfl
theorem am_q46 : am_cwP am_m46 := am_cwM rfl
theorem am_q47 : am_cwP am_m47 := am_cwM rfl
theorem am_q48 : am_cwP am_m48 := am_cwM rfl
theorem am_q49 : am_cwP am_m49 := am_cwM rfl
theorem am_q50 : am_cwP am_m50 := am_cwM rfl
theorem am_q51 : am_cwP am_m51 := am_cwM rfl
theorem am_q52 : am_cwP am_m52 := am_cwM rfl
theorem am_q53 : am_cwP am_m53 := am_cwM rfl
theorem am_q54 : am_cwP am_m54 := am_cwM rfl
theorem am_q55 : am_cwP am_m55 := am_cwM rfl
theorem am_q56 : am_cwP am_m56 := am_cwM rfl
theorem am_q57 : am_cwP am_m57 := am_cwM rfl
theorem am_q58 : am_cwP am_m58 := am_cwM rfl
theorem am_q59 : am_cwP am_m59 := am_cwM rfl
theorem am_q60 : am_cwP am_m60 := am_cwM rfl
theorem am_q61 : am_cwP am_m61 := am_cwM rfl
theorem am_q62 : am_cwP am_m62 := am_cwM rfl
theorem am_q63 : am_cwP am_m63 := am_cwM rfl
theorem am_q64 : am_cwP am_m64 := am_cwM rfl
theorem am_q65 : am_cwP am_m65 := am_cwM rfl
theorem am_q66 : am_cwP am_m66 := am_cwM rfl
theorem am_q67 : am_cwP am_m67 := am_cwM rfl
theorem am_q68 : am_cwP am_m68 := am_cwM rfl
theorem am_q69 : am_cwP am_m69 := am_cwM rfl
theorem am_q70 : am_cwP am_m70 := am_cwM rfl
theorem am_q71 : am_cwP am_m71 := am_cwM rfl
theorem am_q72 : am_cwP am_m72 := am_cwM rfl
theorem am_q73 : am_cwP am_m73 := am_cwM rfl
theorem am_q74 : am_cwP am_m74 := am_cwM rfl
theorem am_q75 : am_cwP am_m75 := am_cwM rfl
theorem am_q76 : am_cwP am_m76 := am_cwM rfl
theorem am_q77 : am_cwP am_m77 := am_cwM rfl
theorem am_q78 : am_cwP am_m78 := am_cwM rfl
theorem am_q79 : am_cwP am_m79 := am_cwM rfl
theorem am_q80 : am_cwP am_m80 := am_cwM rfl
theorem am_q81 : am_cwP am_m81 := am_cwM rfl
theorem am_q82 : am_cwP am_m82 := am_cwM rfl
theorem am_q83 : am_cwP am_m83 := am_cwM rfl
theorem am_q84 : am_cwP am_m84 := am_cwM rfl
theorem am_q85 : am_cwP am_m85 := am_cwM rfl
theorem am_q86 : am_cwP am_m86 := am_cwM rfl
theorem am_q87 : am_cwP am_m87 := am_cwM rfl
theorem am_q88 : am_cwP am_m88 := am_cwM rfl
theorem am_q89 : am_cwP am_m89 := am_cwM rfl
theorem am_q90 : am_cwP am_m90 := am_cwM rfl
theorem am_q91 : am_cwP am_m91 := am_cwM rfl
theorem am_q92 : am_cwP am_m92 := am_cwM rfl
theorem am_q93 : am_cwP am_m93 := am_cwM rfl
theorem am_q94 : am_cwP am_m94 := am_cwM rfl
theorem am_q95 : am_cwP am_m95 := am_cwM rfl
theorem am_q96 : am_cwP am_m96 := am_cwM rfl
theorem am_q97 : am_cwP am_m97 := am_cwM rfl
theorem am_q98 : am_cwP am_m98 := am_cwM rfl
theorem am_q99 : am_cwP am_m99 := am_cwM rfl
theorem am_q100 : am_cwP am_m100 := am_cwM rfl
theorem am_q101 : am_cwP am_m101 := am_cwM rfl
theorem am_q102 : am_cwP am_m102 := am_cwM rfl
theorem am_q103 : am_cwP am_m103 := am_cwM rfl
theorem am_q104 : am_cwP am_m104 := am_cwM rfl
theorem am_q105 : am_cwP am_m105 := am_cwM rfl
theorem am_q106 : am_cwP am_m106 := am_cwM rfl
theorem am_q107 : am_cwP am_m107 := am_cwM rfl
theorem am_q108 : am_cwP am_m108 := am_cwM rfl
theorem am_q109 : am_cwP am_m109 := am_cwM rfl
theorem am_q110 : am_cwP am_m110 := am_cwM rfl
theorem am_q111 : am_cwP am_m111 := am_cwM rfl
theorem am_q112 : am_cwP am_m112 := am_cwM rfl
theorem am_q113 : am_cwP am_m113 := am_cwM rfl
theorem am_q114 : am_cwP am_m114 := am_cwM rfl
theorem am_q115 : am_cwP am_m115 := am_cwM rfl
theorem am_q116 : am_cwP am_m116 := am_cwM rfl
theorem am_q117 : am_cwP am_m117 := am_cwM rfl
theorem am_q118 : am_cwP am_m118 := am_cwM rfl
theorem am_q119 : am_cwP am_m119 := am_cwM rfl
theorem am_q120 : am_cwP am_m120 := am_cwM rfl
theorem am_q121 : am_cwP am_m121 := am_cwM rfl
theorem am_q122 : am_cwP am_m122 := am_cwM rfl
theorem am_q123 : am_cwP am_m123 := am_cwM rfl
theorem am_q124 : am_cwP am_m124 := am_cwM rfl
theorem am_q125 : am_cwP am_m125 := am_cwM rfl
theorem am_q126 : am_cwP am_m126 := am_cwM rfl
theorem am_q127 : am_cwP am_m127 := am_cwM rfl
theorem am_q128 : am_cwP am_m128 := am_cwM rfl
theorem am_q129 : am_cwP am_m129 := am_cwM rfl
theorem am_q130 : am_cwP am_m130 := am_cwM rfl
theorem am_q131 : am_cwP am_m131 := am_cwM rfl
theorem am_q132 : am_cwP am_m132 := am_cwM rfl
theorem am_q133 : am_cwP am_m133 := am_cwM rfl
theorem am_q134 : am_cwP am_m134 := am_cwM rfl
theorem am_q135 : am_cwP am_m135 := am_cwM rfl
theorem am_q136 : am_cwP am_m136 := am_cwM rfl
theorem am_q137 : am_cwP am_m137 := am_cwM rfl
theorem am_q138 : am_cwP am_m138 := am_cwM rfl
theorem am_q139 : am_cwP am_m139 := am_cwM rfl
theorem am_q140 : am_cwP am_m140 := am_cwM rfl
theorem am_q141 : am_cwP am_m141 := am_cwM rfl
theorem am_q142 : am_cwP am_m142 := am_cwM rfl
theorem am_q143 : am_cwP am_m143 := am_cwM rfl
theorem am_q144 : am_cwP am_m144 := am_cwM rfl
theorem am_q145 : am_cwP am_m145 := am_cwM rfl
theorem am_q146 : am_cwP am_m146 := am_cwM rfl
theorem am_q147 : am_cwP am_m147 := am_cwM rfl
theorem am_q148 : am_cwP am_m148 := am_cwM rfl
theorem am_q149 : am_cwP am_m149 := am_cwM rfl
theorem am_q150 : am_cwP am_m150 := am_cwM rfl
theorem am_q151 : am_cwP am_m151 := am_cwM rfl
theorem am_q152 : am_cwP am_m152 := am_cwM rfl
theorem am_q153 : am_cwP am_m153 := am_cwM rfl
theorem am_q154 : am_cwP am_m154 := am_cwM rfl
theorem am_q155 : am_cwP am_m155 := am_cwM rfl
theorem am_q156 : am_cwP am_m156 := am_cwM rfl
theorem am_q157 : am_cwP am_m157 := am_cwM rfl
theorem am_q158 : am_cwP am_m158 := am_cwM rfl
theorem am_q159 : am_cwP am_m159 := am_cwM rfl
theorem am_q160 : am_cwP am_m160 := am_cwM rfl
theorem am_q161 : am_cwP am_m161 := am_cwM rfl
theorem am_q162 : am_cwP am_m162 := am_cwM rfl
theorem am_q163 : am_cwP am_m163 := am_cwM rfl
theorem am_q164 : am_cwP am_m164 := am_cwM rfl
theorem am_q165 : am_cwP am_m165 := am_cwM rfl
theorem am_q166 : am_cwP am_m166 := am_cwM rfl
theorem am_q167 : am_cwP am_m167 := am_cwM rfl
theorem am_q168 : am_cwP am_m168 := am_cwM rfl
theorem am_q169 : am_cwP am_m169 := am_cwM rfl
theorem am_q170 : am_cwP am_m170 := am_cwM rfl
theorem am_q171 : am_cwP am_m171 := am_cwM rfl
theorem am_q172 : am_cwP am_m172 := am_cwM rfl
theorem am_q173 : am_cwP am_m173 := am_cwM rfl
theorem am_q174 : am_cwP am_m174 := am_cwM rfl
theorem am_q175 : am_cwP am_m175 := am_cwM rfl
theorem am_q176 : am_cwP am_m176 := am_cwM rfl
theorem am_q177 : am_cwP am_m177 := am_cwM rfl
theorem am_q178 : am_cwP am_m178 := am_cwM rfl
theorem am_q179 : am_cwP am_m179 := am_cwM rfl
theorem am_q180 : am_cwP am_m180 := am_cwM rfl
theorem am_q181 : am_cwP am_m181 := am_cwM rfl
theorem am_q182 : am_cwP am_m182 := am_cwM rfl
theorem am_q183 : am_cwP am_m183 := am_cwM rfl
theorem am_q184 : am_cwP am_m184 := am_cwM rfl
theorem am_q185 : am_cwP am_m185 := am_cwM rfl
theorem am_q186 : am_cwP am_m186 := am_cwM rfl
theorem am_q187 : am_cwP am_m187 := am_cwM rfl
theorem am_q188 : am_cwP am_m188 := am_cwM rfl
theorem am_q189 : am_cwP am_m189 := am_cwM rfl
theorem am_q190 : am_cwP am_m190 := am_cwM rfl
theorem am_q191 : am_cwP am_m191 := am_cwM rfl
theorem am_q192 : am_cwP am_m192 := am_cwM rfl
theorem am_q193 : am_cwP am_m193 := am_cwM rfl
theorem am_q194 : am_cwP am_m194 := am_cwM rfl
theorem am_q195 : am_cwP am_m195 := am_cwM rfl
theorem am_q196 : am_cwP am_m196 := am_cwM rfl
theorem am_q197 : am_cwP am_m197 := am_cwM rfl
theorem am_q198 : am_cwP am_m198 := am_cwM rfl
theorem am_q199 : am_cwP am_m199 := am_cwM rfl
theorem am_q200 : am_cwP am_m200 := am_cwM rfl
theorem am_q201 : am_cwP am_m201 := am_cwM rfl
theorem am_q202 : am_cwP am_m202 := am_cwM rfl
theorem am_q203 : am_cwP am_m203 := am_cwM rfl
theorem am_q204 : am_cwP am_m204 := am_cwM rfl
theorem am_q205 : am_cwP am_m205 := am_cwM rfl
theorem am_q206 : am_cwP am_m206 := am_cwM rfl
theorem am_q207 : am_cwP am_m207 := am_cwM rfl
theorem am_q208 : am_cwP am_m208 := am_cwM rfl
theorem am_q209 : am_cwP am_m209 := am_cwM rfl
theorem am_q210 : am_cwP am_m210 := am_cwM rfl
theorem am_q211 : am_cwP am_m211 := am_cwM rfl
theorem am_q212 : am_cwP am_m212 := am_cwM rfl
theorem am_q213 : am_cwP am_m213 := am_cwM rfl
theorem am_q214 : am_cwP am_m214 := am_cwM rfl
theorem am_q215 : am_cwP am_m215 := am_cwM rfl
theorem am_q216 : am_cwP am_m216 := am_cwM rfl
theorem am_q217 : am_cwP am_m217 := am_cwM rfl
theorem am_q218 : am_cwP am_m218 := am_cwM rfl
theorem am_q219 : am_cwP am_m219 := am_cwM rfl
theorem am_q220 : am_cwP am_m220 := am_cwM rfl
theorem am_q221 : am_cwP am_m221 := am_cwM rfl
theorem am_q222 : am_cwP am_m222 := am_cwM rfl
theorem am_q223 : am_cwP am_m223 := am_cwM rfl
theorem am_q224 : am_cwP am_m224 := am_cwM rfl
theorem am_q225 : am_cwP am_m225 := am_cwM rfl
theorem am_q226 : am_cwP am_m226 := am_cwM rfl
theorem am_q227 : am_cwP am_m227 := am_cwM rfl
theorem am_q228 : am_cwP am_m228 := am_cwM rfl
theorem am_q229 : am_cwP am_m229 := am_cwM rfl
theorem am_q230 : am_cwP am_m230 := am_cwM rfl
theorem am_q231 : am_cwP am_m231 := am_cwM rfl
theorem am_q232 : am_cwP am_m232 := am_cwM rfl
theorem am_q233 : am_cwP am_m233 := am_cwM rfl
theorem am_q234 : am_cwP am_m234 := am_cwM rfl
theorem am_q235 : am_cwP am_m235 := am_cwM rfl
theorem am_q236 : am_cwP am_m236 := am_cwM rfl
theorem am_q237 : am_cwP am_m237 := am_cwM rfl
theorem am_q238 : am_cwP am_m238 := am_cwM rfl
theorem am_q239 : am_cwP am_m239 := am_cwM rfl
theorem am_q240 : am_cwP am_m240 := am_cwM rfl
theorem am_q241 : am_cwP am_m241 := am_cwM rfl
theorem am_q242 : am_cwP am_m242 := am_cwM rfl
theorem am_q243 : am_cwP am_m243 := am_cwM rfl
theorem am_q244 : am_cwP am_m244 := am_cwM rfl
theorem am_q245 : am_cwP am_m245 := am_cwM rfl
theorem am_q246 : am_cwP am_m246 := am_cwM rfl
theorem am_q247 : am_cwP am_m247 := am_cwM rfl
theorem am_q248 : am_cwP am_m248 := am_cwM rfl
theorem am_q249 : am_cwP am_m249 := am_cwM rfl
theorem am_q250 : am_cwP am_m250 := am_cwM rfl
theorem am_q251 : am_cwP am_m251 := am_cwM rfl
theorem am_q252 : am_cwP am_m252 := am_cwM rfl
theorem am_q253 : am_cwP am_m253 := am_cwM rfl
theorem am_q254 : am_cwP am_m254 := am_cwM rfl
theorem am_q255 : am_cwP am_m255 := am_cwM rfl
theorem am_q256 : am_cwP am_m256 := am_cwM rfl
theorem am_q257 : am_cwP am_m257 := am_cwM rfl
theorem am_q258 : am_cwP am_m258 := am_cwM rfl
theorem am_q259 : am_cwP am_m259 := am_cwM rfl
theorem am_q260 : am_cwP am_m260 := am_cwM rfl
theorem am_q261 : am_cwP am_m261 := am_cwM rfl
theorem am_q262 : am_cwP am_m262 := am_cwM rfl
theorem am_q263 : am_cwP am_m263 := am_cwM rfl
theorem am_q264 : am_cwP am_m264 := am_cwM rfl
theorem am_q265 : am_cwP am_m265 := am_cwM rfl
theorem am_q266 : am_cwP am_m266 := am_cwM rfl
theorem am_q267 : am_cwP am_m267 := am_cwM rfl
theorem am_q268 : am_cwP am_m268 := am_cwM rfl
theorem am_q269 : am_cwP am_m269 := am_cwM rfl
theorem am_q270 : am_cwP am_m270 := am_cwM rfl
theorem am_q271 : am_cwP am_m271 := am_cwM rfl
theorem am_q272 : am_cwP am_m272 := am_cwM rfl
theorem am_q273 : am_cwP am_m273 := am_cwM rfl
theorem am_q274 : am_cwP am_m274 := am_cwM rfl
theorem am_q275 : am_cwP am_m275 := am_cwM rfl
theorem am_q276 : am_cwP am_m276 := am_cwM rfl
theorem am_q277 : am_cwP am_m277 := am_cwM rfl
theorem am_q278 : am_cwP am_m278 := am_cwM rfl
theorem am_q279 : am_cwP am_m279 := am_cwM rfl
theorem am_q280 : am_cwP am_m280 := am_cwM rfl
theorem am_q281 : am_cwP am_m281 := am_cwM rfl
theorem am_q282 : am_cwP am_m282 := am_cwM rfl
theorem am_q283 : am_cwP am_m283 := am_cwM rfl
theorem am_q284 : am_cwP am_m284 := am_cwM rfl
theorem am_q285 : am_cwP am_m285 := am_cwM rfl
theorem am_q286 : am_cwP am_m286 := am_cwM rfl
theorem am_q287 : am_cwP am_m287 := am_cwM rfl
theorem am_q288 : am_cwP am_m288 := am_cwM rfl
theorem am_q289 : am_cwP am_m289 := am_cwM rfl
theorem am_q290 : am_cwP am_m290 := am_cwM rfl
theorem am_q291 : am_cwP am_m291 := am_cwM rfl
theorem am_q292 : am_cwP am_m292 := am_cwM rfl
theorem am_q293 : am_cwP am_m293 := am_cwM rfl
theorem am_q294 : am_cwP am_m294 := am_cwM rfl
theorem am_q295 : am_cwP am_m295 := am_cwM rfl
theorem am_q296 : am_cwP am_m296 := Or.inl rfl
theorem am_q297 : am_cwP am_m297 := am_cwM rfl
set_option maxRecDepth 100000 in
theorem am_W_ok : ∀ q ∈ am_PM, am_cwP q.1 := List.forall_mem_cons.mpr ⟨am_q0, List.forall_mem_cons.mpr ⟨am_q1, List.forall_mem_cons.mpr ⟨am_q2, List.forall_mem_cons.mpr ⟨am_q3, List.forall_mem_cons.mpr ⟨am_q4, List.forall_mem_cons.mpr ⟨am_q5, List.forall_mem_cons.mpr ⟨am_q6, List.forall_mem_cons.mpr ⟨am_q7, List.forall_mem_cons.mpr ⟨am_q8, List.forall_mem_cons.mpr ⟨am_q9, List.forall_mem_cons.mpr ⟨am_q10, List.forall_mem_cons.mpr ⟨am_q11, List.forall_mem_cons.mpr ⟨am_q12, List.forall_mem_cons.mpr ⟨am_q13, List.forall_mem_cons.mpr ⟨am_q14, List.forall_mem_cons.mpr ⟨am_q15, List.forall_mem_cons.mpr ⟨am_q16, List.forall_mem_cons.mpr ⟨am_q17, List.forall_mem_cons.mpr ⟨am_q18, List.forall_mem_cons.mpr ⟨am_q19, List.forall_mem_cons.mpr ⟨am_q20, List.forall_mem_cons.mpr ⟨am_q21, List.forall_mem_cons.mpr ⟨am_q22, List.forall_mem_cons.mpr ⟨am_q23, List.forall_mem_cons.mpr ⟨am_q24, List.forall_mem_cons.mpr ⟨am_q25, List.forall_mem_cons.mpr ⟨am_q26, List.forall_mem_cons.mpr ⟨am_q27, List.forall_mem_cons.mpr ⟨am_q28, List.forall_mem_cons.mpr ⟨am_q29, List.forall_mem_cons.mpr ⟨am_q30, List.forall_mem_cons.mpr ⟨am_q31, List.forall_mem_cons.mpr ⟨am_q32, List.forall_mem_cons.mpr ⟨am_q33, List.forall_mem_cons.mpr ⟨am_q34, List.forall_mem_cons.mpr ⟨am_q35, List.forall_mem_cons.mpr ⟨am_q36, List.forall_mem_cons.mpr ⟨am_q37, List.forall_mem_cons.mpr ⟨am_q38, List.forall_mem_cons.mpr ⟨am_q39, List.forall_mem_cons.mpr ⟨am_q40, List.forall_mem_cons.mpr ⟨am_q41, List.forall_mem_cons.mpr ⟨am_q42, List.forall_mem_cons.mpr ⟨am_q43, List.forall_mem_cons.mpr ⟨am_q44, List.forall_mem_cons.mpr ⟨am_q45, List.forall_mem_cons.mpr ⟨am_q46, List.forall_mem_cons.mpr ⟨am_q47, List.forall_mem_cons.mpr ⟨am_q48, List.forall_mem_cons.mpr ⟨am_q49, List.forall_mem_cons.mpr ⟨am_q50, List.forall_mem_cons.mpr ⟨am_q51, List.forall_mem_cons.mpr ⟨am_q52, List.forall_mem_cons.mpr ⟨am_q53, List.forall_mem_cons.mpr ⟨am_q54, List.forall_mem_cons.mpr ⟨am_q55, List.forall_mem_cons.mpr ⟨am_q56, List.forall_mem_cons.mpr ⟨am_q57, List.forall_mem_cons.mpr ⟨am_q58, List.forall_mem_cons.mpr ⟨am_q59, List.forall_mem_cons.mpr ⟨am_q60, List.forall_mem_cons.mpr ⟨am_q61, List.forall_mem_cons.mpr ⟨am_q62, List.forall_mem_cons.mpr ⟨am_q63, List.forall_mem_cons.mpr ⟨am_q64, List.forall_mem_cons.mpr ⟨am_q65, List.forall_mem_cons.mpr ⟨am_q66, List.forall_mem_cons.mpr ⟨am_q67, List.forall_mem_cons.mpr ⟨am_q68, List.forall_mem_cons.mpr ⟨am_q69, List.forall_mem_cons.mpr ⟨am_q70, List.forall_mem_cons.mpr ⟨am_q71, List.forall_mem_cons.mpr ⟨am_q72, List.forall_mem_cons.mpr ⟨am_q73, List.forall_mem_cons.mpr ⟨am_q74, List.forall_mem_cons.mpr ⟨am_q75, List.forall_mem_cons.mpr ⟨am_q76, List.forall_mem_cons.mpr ⟨am_q77, List.forall_mem_cons.mpr ⟨am_q78, List.forall_mem_cons.mpr ⟨am_q79, List.forall_mem_cons.mpr ⟨am_q80, List.forall_mem_cons.mpr ⟨am_q81, List.forall_mem_cons.mpr ⟨am_q82, List.forall_mem_cons.mpr ⟨am_q83, List.forall_mem_cons.mpr ⟨am_q84, List.forall_mem_cons.mpr ⟨am_q85, List.forall_mem_cons.mpr ⟨am_q86, List.forall_mem_cons.mpr ⟨am_q87, List.forall_mem_cons.mpr ⟨am_q88, List.forall_mem_cons.mpr ⟨am_q89, List.forall_mem_cons.mpr ⟨am_q90, List.forall_mem_cons.mpr ⟨am_q91, List.forall_mem_cons.mpr ⟨am_q92, List.forall_mem_cons.mpr ⟨am_q93, List.forall_mem_cons.mpr ⟨am_q94, List.forall_mem_cons.mpr ⟨am_q95, List.forall_mem_cons.mpr ⟨am_q96, List.forall_mem_cons.mpr ⟨am_q97, List.forall_mem_cons.mpr ⟨am_q98, List.forall_mem_cons.mpr ⟨am_q99, List.forall_mem_cons.mpr ⟨am_q100, List.forall_mem_cons.mpr ⟨am_q101, List.forall_mem_cons.mpr ⟨am_q102, List.forall_mem_cons.mpr ⟨am_q103, List.forall_mem_cons.mpr ⟨am_q104, List.forall_mem_cons.mpr ⟨am_q105, List.forall_mem_cons.mpr ⟨am_q106, List.forall_mem_cons.mpr ⟨am_q107, List.forall_mem_cons.mpr ⟨am_q108, List.forall_mem_cons.mpr ⟨am_q109, List.forall_mem_cons.mpr ⟨am_q110, List.forall_mem_cons.mpr ⟨am_q111, List.forall_mem_cons.mpr ⟨am_q112, List.forall_mem_cons.mpr ⟨am_q113, List.forall_mem_cons.mpr ⟨am_q114, List.forall_mem_cons.mpr ⟨am_q115, List.forall_mem_cons.mpr ⟨am_q116, List.forall_mem_cons.mpr ⟨am_q117, List.forall_mem_cons.mpr ⟨am_q118, List.forall_mem_cons.mpr ⟨am_q119, List.forall_mem_cons.mpr ⟨am_q120, List.forall_mem_cons.mpr ⟨am_q121, List.forall_mem_cons.mpr ⟨am_q122, List.forall_mem_cons.mpr ⟨am_q123, List.forall_mem_cons.mpr ⟨am_q124, List.forall_mem_cons.mpr ⟨am_q125, List.forall_mem_cons.mpr ⟨am_q126, List.forall_mem_cons.mpr ⟨am_q127, List.forall_mem_cons.mpr ⟨am_q128, List.forall_mem_cons.mpr ⟨am_q129, List.forall_mem_cons.mpr ⟨am_q130, List.forall_mem_cons.mpr ⟨am_q131, List.forall_mem_cons.mpr ⟨am_q132, List.forall_mem_cons.mpr ⟨am_q133, List.forall_mem_cons.mpr ⟨am_q134, List.forall_mem_cons.mpr ⟨am_q135, List.forall_mem_cons.mpr ⟨am_q136, List.forall_mem_cons.mpr ⟨am_q137, List.forall_mem_cons.mpr ⟨am_q138, List.forall_mem_cons.mpr ⟨am_q139, List.forall_mem_cons.mpr ⟨am_q140, List.forall_mem_cons.mpr ⟨am_q141, List.forall_mem_cons.mpr ⟨am_q142, List.forall_mem_cons.mpr ⟨am_q143, List.forall_mem_cons.mpr ⟨am_q144, List.forall_mem_cons.mpr ⟨am_q145, List.forall_mem_cons.mpr ⟨am_q146, List.forall_mem_cons.mpr ⟨am_q147, List.forall_mem_cons.mpr ⟨am_q148, List.forall_mem_cons.mpr ⟨am_q149, List.forall_mem_cons.mpr ⟨am_q150, List.forall_mem_cons.mpr ⟨am_q151, List.forall_mem_cons.mpr ⟨am_q152, List.forall_mem_cons.mpr ⟨am_q153, List.forall_mem_cons.mpr ⟨am_q154, List.forall_mem_cons.mpr ⟨am_q155, List.forall_mem_cons.mpr ⟨am_q156, List.forall_mem_cons.mpr ⟨am_q157, List.forall_mem_cons.mpr ⟨am_q158, List.forall_mem_cons.mpr ⟨am_q159, List.forall_mem_cons.mpr ⟨am_q160, List.forall_mem_cons.mpr ⟨am_q161, List.forall_mem_cons.mpr ⟨am_q162, List.forall_mem_cons.mpr ⟨am_q163, List.forall_mem_cons.mpr ⟨am_q164, List.forall_mem_cons.mpr ⟨am_q165, List.forall_mem_cons.mpr ⟨am_q166, List.forall_mem_cons.mpr ⟨am_q167, List.forall_mem_cons.mpr ⟨am_q168, List.forall_mem_cons.mpr ⟨am_q169, List.forall_mem_cons.mpr ⟨am_q170, List.forall_mem_cons.mpr ⟨am_q171, List.forall_mem_cons.mpr ⟨am_q172, List.forall_mem_cons.mpr ⟨am_q173, List.forall_mem_cons.mpr ⟨am_q174, List.forall_mem_cons.mpr ⟨am_q175, List.forall_mem_cons.mpr ⟨am_q176, List.forall_mem_cons.mpr ⟨am_q177, List.forall_mem_cons.mpr ⟨am_q178, List.forall_mem_cons.mpr ⟨am_q179, List.forall_mem_cons.mpr ⟨am_q180, List.forall_mem_cons.mpr ⟨am_q181, List.forall_mem_cons.mpr ⟨am_q182, List.forall_mem_cons.mpr ⟨am_q183, List.forall_mem_cons.mpr ⟨am_q184, List.forall_mem_cons.mpr ⟨am_q185, List.forall_mem_cons.mpr ⟨am_q186, List.forall_mem_cons.mpr ⟨am_q187, List.forall_mem_cons.mpr ⟨am_q188, List.forall_mem_cons.mpr ⟨am_q189, List.forall_mem_cons.mpr ⟨am_q190, List.forall_mem_cons.mpr ⟨am_q191, List.forall_mem_cons.mpr ⟨am_q192, List.forall_mem_cons.mpr ⟨am_q193, List.forall_mem_cons.mpr ⟨am_q194, List.forall_mem_cons.mpr ⟨am_q195, List.forall_mem_cons.mpr ⟨am_q196, List.forall_mem_cons.mpr ⟨am_q197, List.forall_mem_cons.mpr ⟨am_q198, List.forall_mem_cons.mpr ⟨am_q199, List.forall_mem_cons.mpr ⟨am_q200, List.forall_mem_cons.mpr ⟨am_q201, List.forall_mem_cons.mpr ⟨am_q202, List.forall_mem_cons.mpr ⟨am_q203, List.forall_mem_cons.mpr ⟨am_q204, List.forall_mem_cons.mpr ⟨am_q205, List.forall_mem_cons.mpr ⟨am_q206, List.forall_mem_cons.mpr ⟨am_q207, List.forall_mem_cons.mpr ⟨am_q208, List.forall_mem_cons.mpr ⟨am_q209, List.forall_mem_cons.mpr ⟨am_q210, List.forall_mem_cons.mpr ⟨am_q211, List.forall_mem_cons.mpr ⟨am_q212, List.forall_mem_cons.mpr ⟨am_q213, List.forall_mem_cons.mpr ⟨am_q214, List.forall_mem_cons.mpr ⟨am_q215, List.forall_mem_cons.mpr ⟨am_q216, List.forall_mem_cons.mpr ⟨am_q217, List.forall_mem_cons.mpr ⟨am_q218, List.forall_mem_cons.mpr ⟨am_q219, List.forall_mem_cons.mpr ⟨am_q220, List.forall_mem_cons.mpr ⟨am_q221, List.forall_mem_cons.mpr ⟨am_q222, List.forall_mem_cons.mpr ⟨am_q223, List.forall_mem_cons.mpr ⟨am_q224, List.forall_mem_cons.mpr ⟨am_q225, List.forall_mem_cons.mpr ⟨am_q226, List.forall_mem_cons.mpr ⟨am_q227, List.forall_mem_cons.mpr ⟨am_q228, List.forall_mem_cons.mpr ⟨am_q229, List.forall_mem_cons.mpr ⟨am_q230, List.forall_mem_cons.mpr ⟨am_q231, List.forall_mem_cons.mpr ⟨am_q232, List.forall_mem_cons.mpr ⟨am_q233, List.forall_mem_cons.mpr ⟨am_q234, List.forall_mem_cons.mpr ⟨am_q235, List.forall_mem_cons.mpr ⟨am_q236, List.forall_mem_cons.mpr ⟨am_q237, List.forall_mem_cons.mpr ⟨am_q238, List.forall_mem_cons.mpr ⟨am_q239, List.forall_mem_cons.mpr ⟨am_q240, List.forall_mem_cons.mpr ⟨am_q241, List.forall_mem_cons.mpr ⟨am_q242, List.forall_mem_cons.mpr ⟨am_q243, List.forall_mem_cons.mpr ⟨am_q244, List.forall_mem_cons.mpr ⟨am_q245, List.forall_mem_cons.mpr ⟨am_q246, List.forall_mem_cons.mpr ⟨am_q247, List.forall_mem_cons.mpr ⟨am_q248, List.forall_mem_cons.mpr ⟨am_q249, List.forall_mem_cons.mpr ⟨am_q250, List.forall_mem_cons.mpr ⟨am_q251, List.forall_mem_cons.mpr ⟨am_q252, List.forall_mem_cons.mpr ⟨am_q253, List.forall_mem_cons.mpr ⟨am_q254, List.forall_mem_cons.mpr ⟨am_q255, List.forall_mem_cons.mpr ⟨am_q256, List.forall_mem_cons.mpr ⟨am_q257, List.forall_mem_cons.mpr ⟨am_q258, List.forall_mem_cons.mpr ⟨am_q259, List.forall_mem_cons.mpr ⟨am_q260, List.forall_mem_cons.mpr ⟨am_q261, List.forall_mem_cons.mpr ⟨am_q262, List.forall_mem_cons.mpr ⟨am_q263, List.forall_mem_cons.mpr ⟨am_q264, List.forall_mem_cons.mpr ⟨am_q265, List.forall_mem_cons.mpr ⟨am_q266, List.forall_mem_cons.mpr ⟨am_q267, List.forall_mem_cons.mpr ⟨am_q268, List.forall_mem_cons.mpr ⟨am_q269, List.forall_mem_cons.mpr ⟨am_q270, List.forall_mem_cons.mpr ⟨am_q271, List.forall_mem_cons.mpr ⟨am_q272, List.forall_mem_cons.mpr ⟨am_q273, List.forall_mem_cons.mpr ⟨am_q274, List.forall_mem_cons.mpr ⟨am_q275, List.forall_mem_cons.mpr ⟨am_q276, List.forall_mem_cons.mpr ⟨am_q277, List.forall_mem_cons.mpr ⟨am_q278, List.forall_mem_cons.mpr ⟨am_q279, List.forall_mem_cons.mpr ⟨am_q280, List.forall_mem_cons.mpr ⟨am_q281, List.forall_mem_cons.mpr ⟨am_q282, List.forall_mem_cons.mpr ⟨am_q283, List.forall_mem_cons.mpr ⟨am_q284, List.forall_mem_cons.mpr ⟨am_q285, List.forall_mem_cons.mpr ⟨am_q286, List.forall_mem_cons.mpr ⟨am_q287, List.forall_mem_cons.mpr ⟨am_q288, List.forall_mem_cons.mpr ⟨am_q289, List.forall_mem_cons.mpr ⟨am_q290, List.forall_mem_cons.mpr ⟨am_q291, List.forall_mem_cons.mpr ⟨am_q292, List.forall_mem_cons.mpr ⟨am_q293, List.forall_mem_cons.mpr ⟨am_q294, List.forall_mem_cons.mpr ⟨am_q295, List.forall_mem_cons.mpr ⟨am_q296, List.forall_mem_cons.mpr ⟨am_q297, fun _ h => absurd h List.not_mem_nil⟩⟩⟩⟩⟩⟩⟩⟩⟩⟩⟩⟩⟩⟩⟩⟩⟩⟩⟩⟩⟩⟩⟩⟩⟩⟩⟩⟩⟩⟩⟩⟩⟩⟩⟩⟩⟩⟩⟩⟩⟩⟩⟩⟩⟩⟩⟩⟩⟩⟩⟩⟩⟩⟩⟩⟩⟩⟩⟩⟩⟩⟩⟩⟩⟩⟩⟩⟩⟩⟩⟩⟩⟩⟩⟩⟩⟩⟩⟩⟩⟩⟩⟩⟩⟩⟩⟩⟩⟩⟩⟩⟩⟩⟩⟩⟩⟩⟩⟩⟩⟩⟩⟩⟩⟩⟩⟩⟩⟩⟩⟩⟩⟩⟩⟩⟩⟩⟩⟩⟩⟩⟩⟩⟩⟩⟩⟩⟩⟩⟩⟩⟩⟩⟩⟩⟩⟩⟩⟩⟩⟩⟩⟩⟩⟩⟩⟩⟩⟩⟩⟩⟩⟩⟩⟩⟩⟩⟩⟩⟩⟩⟩⟩⟩⟩⟩⟩⟩⟩⟩⟩⟩⟩⟩⟩⟩⟩⟩⟩⟩⟩⟩⟩⟩⟩⟩⟩⟩⟩⟩⟩⟩⟩⟩⟩⟩⟩⟩⟩⟩⟩⟩⟩⟩⟩⟩⟩⟩⟩⟩⟩⟩⟩⟩⟩⟩⟩⟩⟩⟩⟩⟩⟩⟩⟩⟩⟩⟩⟩⟩⟩⟩⟩⟩⟩⟩⟩⟩⟩⟩⟩⟩⟩⟩⟩⟩⟩⟩⟩⟩⟩⟩⟩⟩⟩⟩⟩⟩⟩⟩⟩⟩⟩⟩⟩⟩⟩⟩⟩⟩⟩⟩⟩⟩⟩⟩⟩⟩⟩⟩⟩⟩⟩⟩⟩⟩⟩⟩⟩⟩⟩⟩⟩⟩⟩⟩⟩⟩
def am_on (k : Nat) : String := (am_nth am_own k).getD ""
def am_cls (ci : Nat) : vw_C := (am_nth vwCl ci).getD (RX0, TX0, 0)
def am_chkF (q : Nat × Nat × Nat × Nat) : Bool := Nat.blt q.2.1 13 && (Nat.blt q.2.2.1 (am_cls q.2.1).2.2 && am_wd q.2.2.2 (.fieldLink (am_on (q.1 / 100000)) (q.1 % 100000) ((am_cls q.2.1).2.1 q.2.2.1).1 ((am_cls q.2.1).2.1 q.2.2.1).2.1 ((am_cls q.2.1).2.1 q.2.2.1).2.2.1))
set_option maxRecDepth 100000 in
theorem am_F_ok : am_FL.all am_chkF = true := by decide +kernel
def am_jn (k : Nat) : MethodName := match k with
  | 10 => Lib.Math.max.name
  | 11 => Lib.Math.min.name
  | 12 => Lib.Math.abs.name
  | 13 => arraycopyName
  | 14 => Lib.MathLoose.max_long.x
  | 15 => Lib.MathLoose.min_long.x
  | 16 => objectInit
  | 17 => ⟨"java/lang/String", "length", "()I"⟩
  | 18 => ⟨"java/lang/String", "charAt", "(I)C"⟩
  | _ => objectInit
def am_chkL (q : Nat × Nat × Nat × Nat) : Bool :=
  bif Nat.ble 10 q.2.2.1 then am_wd q.2.2.2 (.methodLink (am_on (q.1 / 100000)) (q.1 % 100000) (am_jn q.2.2.1))
  else bif Nat.beq q.2.2.1 4 then decide (am_tab q.2.2.2 = some (.methodLinkNest (am_on (q.1 / 100000)) (q.1 % 100000) ((am_nth am_PM q.2.1).getD (am_m0, [])).1.1 "CelloBoats")) && Nat.beq ((am_nth am_PM q.2.1).getD (am_m0, [])).1.2.2.2.2.2.1 2
  else am_wd q.2.2.2 (.methodLink (am_on (q.1 / 100000)) (q.1 % 100000) ((am_nth am_PM q.2.1).getD (am_m0, [])).1.1) && Nat.beq ((am_nth am_PM q.2.1).getD (am_m0, [])).1.2.2.2.2.2.1 q.2.2.1
set_option maxRecDepth 100000 in
theorem am_L_ok : am_ML.all am_chkL = true := by decide +kernel
def am_LP : List (List Nat) := [[272, 274, 276],
  [215, 217, 219, 221, 223, 225, 227, 229, 231, 233, 235, 237, 239, 241, 243],
  [390, 392, 394, 396, 398],
  [146, 148, 150, 152, 154, 156],
  [417, 419, 421, 423, 425, 427, 429],
  [335, 337, 339, 341, 343, 345, 347, 349, 351],
  [302, 304, 306, 308, 310, 312],
  [442, 444],
  [365, 367, 369, 371, 373],
  [102, 104, 106, 108, 110, 112, 114, 116, 118, 120, 122, 124],
  [255, 257, 259],
  [465, 467, 469, 471, 473, 475, 477, 479, 481, 483, 485, 487, 489, 491, 493, 495, 497, 499],
  [1280, 1282, 1284, 1286, 1288, 1290, 1292, 1294, 1296, 1298, 1300, 1302, 1304, 1306, 1308, 1310, 1312, 1314, 1316, 1318, 1320, 1322, 1324, 1326, 1328, 1330, 1332, 1334, 1336, 1338, 1340, 1342, 1344, 1346, 1348, 1350, 1352, 1354, 1356, 1358, 1360, 1362, 1364, 1366, 1368, 1370, 1372, 1374, 1376, 1378, 1380, 1382, 1384, 1386, 1388, 1390, 1392, 1394, 1396, 1398, 1400, 1402, 1404, 1406, 1408, 1410, 1412, 1414, 1416, 1418, 1420, 1422, 1424, 1426, 1428, 1430, 1432, 1434, 1436, 1438, 1440, 1442, 1444, 1446, 1448, 1450, 1452, 1454, 1456, 1458, 1460, 1462, 1464, 1466, 1468, 1470, 1472, 1474, 1476, 1478, 1480, 1482, 1484, 1486, 1488, 1490]]
def am_CP : List (Nat × Nat) := [(263, 10), (160, 8), (378, 14), (130, 7), (402, 15), (280, 11), (286, 12), (433, 16), (355, 13), (30, 2), (247, 9), (22, 1), (1169, 17)]
def am_tyk (t : Nat) (ty : FieldType) : Bool := match t, ty with
  | 0, .int => true
  | 1, .boolean => true
  | 2, .long => true
  | 3, .object _ => true
  | 3, .array _ => true
  | _, _ => false
def am_chkC (ci : Nat) : Bool :=
  am_wd ((am_nth am_CP ci).getD (0, 0)).1 (.instantiable (am_cls ci).1 (am_cls ci).2.2) && (am_wd ((am_nth am_CP ci).getD (0, 0)).2 (.initialized (am_cls ci).1) && (Nat.beq ((am_nth am_ft ci).getD []).length (am_cls ci).2.2 &&
  ((List.range (am_cls ci).2.2).all (fun k => am_wd ((am_nth ((am_nth am_LP ci).getD []) k).getD 0) (u_lay (am_cls ci).1 (am_cls ci).2.1 k) && (decide (((am_cls ci).2.1 k).1 = (am_cls ci).1) && (decide (((am_cls ci).2.1 k).2.2.2 = ((am_nth ((am_nth am_ft ci).getD []) k).getD (9, true)).2) &&
    ((parseFieldDescriptor ((am_cls ci).2.1 k).2.2.1).any (am_tyk ((am_nth ((am_nth am_ft ci).getD []) k).getD (9, true)).1) && decide (am_nth am_own ci = some (am_cls ci).1))))))))
set_option maxRecDepth 100000 in
theorem am_C_ok : (List.range 13).all am_chkC = true := by decide +kernel
set_option maxRecDepth 100000 in
theorem am_CL_ok : am_CL.all (fun q => am_wd q.2.2 (.classLink (am_on (q.1 / 100000)) (q.1 % 100000) (am_cls q.2.1).1) && Nat.blt q.2.1 13) = true := by decide +kernel
set_option maxRecDepth 100000 in
theorem am_KL_ok : am_KL.all (fun q => am_wd q.2.2 (.constant (am_on (q.1 / 100000)) (q.1 % 100000) (Int32.ofInt ((am_nth am_kc q.2.1).getD 0)))) = true := by decide +kernel
set_option maxRecDepth 100000 in
theorem am_JL_ok : am_JL.all (fun q => am_wd q.2.2 (.constantLong (am_on (q.1 / 100000)) (q.1 % 100000) (Int64.ofInt ((am_nth am_kl q.2.1).getD 0)))) = true := by decide +kernel
def am_jw : List (Nat × Cond) := [(818, .code Lib.Math.max.name Lib.Math.max.code 2 (some .int)),
  (817, .static Lib.Math.max.name),
  (18, .initialized "java/lang/Math"),
  (528, .code Lib.Math.min.name Lib.Math.min.code 2 (some .int)),
  (527, .static Lib.Math.min.name),
  (941, .code Lib.Math.abs.name Lib.Math.abs.code 1 (some .int)),
  (940, .static Lib.Math.abs.name),
  (1127, .code Lib.MathLoose.max_long.x Lib.MathLoose.max_long.code 4 (some .long)),
  (1126, .static Lib.MathLoose.max_long.x),
  (1130, .code Lib.MathLoose.min_long.x Lib.MathLoose.min_long.code 4 (some .long)),
  (1129, .static Lib.MathLoose.min_long.x),
  (728, .native arraycopyName),
  (727, .static arraycopyName),
  (20, .initialized "java/lang/System"),
  (27, .instanceMethod objectInit),
  (28, .code objectInit ⟨#[0xb1]⟩ 1 none),
  (127, .arrayClass .int),
  (376, .arrayClass .long),
  (1493, .arrayClass .char),
  (1494, .arrayClass .boolean)]
set_option maxRecDepth 100000 in
theorem am_jw_ok : am_jw.all (fun q => am_wd q.1 q.2) = true := by decide +kernel
def am_ix (i : Instr) : Bool := match i with
  | .getfield j => Nat.blt j 100000
  | .putfield j => Nat.blt j 100000
  | .invokevirtual j => Nat.blt j 100000
  | .invokestatic j => Nat.blt j 100000
  | .invokespecial j => Nat.blt j 100000
  | .new j => Nat.blt j 100000
  | .ldc j => Nat.blt j 100000
  | .ldc_w j => Nat.blt j 100000
  | .ldc2_w j => Nat.blt j 100000
  | _ => true
set_option maxRecDepth 100000 in
theorem am_J_ok : am_PM.all (fun q => q.2.all (fun r => am_ix r.2.1)) = true := by decide +kernel
