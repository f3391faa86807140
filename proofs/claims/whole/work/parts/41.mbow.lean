/-! ===== the reference's boat, bowed ===== -/
def cxM (last wd nb : Nat) (nt wf : Nat → Nat) (fm : Nat → List tok) (I : tI) : Prop := I 93 3 = am_i last ∧ last ≤ 60 ∧ I 93 4 = am_i wd ∧ wd ≤ 9 ∧ I 94 3 = am_i nb ∧ nb ≤ 6 ∧ (∀ b, b < nb → nt b ≤ 6 ∧ I 96 (27 + 4 * b) = am_i (nt b)) ∧ (∀ m, m ≤ 60 → ∀ v, v < 8 → I 99 (488 + 8 * m + v) = am_i (wf m / 2 ^ v % 2 : Nat)) ∧ ∀ f, f < 3 → frM I f (fm f) ∧ frT false (f == 2) (fm f)
theorem cxM_c {last wd nb : Nat} {nt wf : Nat → Nat} {fm : Nat → List tok} {I I' : tI} (h : ∀ q k, 93 ≤ q → q ≤ 102 → I' q k = I q k) (hX : cxM last wd nb nt wf fm I) : cxM last wd nb nt wf fm I' := by
  obtain ⟨k1, k2, k3, k4, k5, k6, k7, k8, k9⟩ := hX
  refine ⟨by rw [h _ _ (by omega) (by omega)]; exact k1, k2, by rw [h _ _ (by omega) (by omega)]; exact k3, k4, by rw [h _ _ (by omega) (by omega)]; exact k5, k6, fun b hb => ⟨(k7 b hb).1, by rw [h _ _ (by omega) (by omega)]; exact (k7 b hb).2⟩, fun m hm v hv => by rw [h _ _ (by omega) (by omega)]; exact k8 m hm v hv, fun f hf => ⟨?_, (k9 f hf).2⟩⟩
  rcases (k9 f hf).1 with ⟨a, b⟩ | ⟨a, a1, a2, a3, a4⟩
  · exact Or.inl ⟨by rw [h _ _ (by omega) (by omega)]; exact a, b⟩
  · exact Or.inr ⟨a, a1, by rw [h _ _ (by omega) (by omega)]; exact a2, by rw [h _ _ (by omega) (by omega)]; exact a3, fun k t e => by rw [h _ _ (by omega) (by omega)]; exact a4 k t e⟩
def mS (q k : Nat) : Bool := q == 64 && (k == 51 || k == 54 || k == 55 || k == 56 || k == 101)
def mS2 (q k : Nat) : Bool := q == 64 && (k == 51 || k == 101)
theorem mS_f {q k : Nat} : mS q k = false ↔ ¬ (q = 64 ∧ (k = 51 ∨ k = 54 ∨ k = 55 ∨ k = 56 ∨ k = 101)) := by
  unfold mS
  simp
  omega
theorem mS2_f {q k : Nat} : mS2 q k = false ↔ ¬ (q = 64 ∧ (k = 51 ∨ k = 101)) := by
  unfold mS2
  simp
/-- what the parts of a formula stand for at a boat -/
def enM (I : tI) (b : Nat) (sw : Bool) (en : Nat → Int) : Prop := I 64 54 = am_i (en 14) ∧ I 103 (2 + 11 * b) = am_i (en 3) ∧ I 103 (3 + 11 * b) = am_i (en 4) ∧ I 103 (1 + 11 * b) = am_i (en 15) ∧ I 64 55 = am_i (en 12) ∧ (sw = true → I 64 56 = am_i (en 16))
section MBOW
variable {d : Nat} {I : tI} {J : tJ} {R : tR} {b last wd nb n : Nat} {nt wf : Nat → Nat} {fm : Nat → List tok} {s : bt} {v u : Nat}
theorem m_part {w : Nat} {sw : Bool} {en : Nat → Int} {tk : Nat} (hm : st_Rm R) (hb6 : b < 6) (htk : I 64 51 = am_i tk) (htk1 : tk ≤ 1) (hE : enM I b sw en) (hb : ∀ w, -1000000 ≤ en w ∧ en w ≤ 1000000) (hw : wdOK false sw w) : am_E (d + 2) 282 0 [(0, .ref 64), (1, .int (am_i (wnoM w))), (2, .int (am_i b))] [] (I, J, R, 138) = some (some (.long (am_l (en w))), (I, J, R, 138)) := by
  obtain ⟨h1, h2, h3, h4, h5, h6⟩ := hE
  have b1 := hb 14
  have b2 := hb 3
  have b3 := hb 4
  have b4 := hb 15
  have b5 := hb 12
  have b6 := hb 16
  have t1 := fun d => e_tightOf (d := d) (I := I) (J := J) (b := (b : Int)) hm (by omega) (by omega)
  have t2 := fun d => e_rosinOf (d := d) (I := I) (J := J) (b := (b : Int)) hm (by omega) (by omega)
  have t3 := fun d => e_mileOf (d := d) (I := I) (J := J) (b := (b : Int)) hm (by omega) (by omega)
  rw [Int.toNat_natCast] at t1 t2 t3
  rw [sg_X12_qPartOf_0]
  rcases hw with h | h | h | h | h | h | h
  · obtain rfl : w = 14 := h
    simp (disch := first | assumption | omega) only [rM hm, ly_csm, ly_cam, ly_cf, ly_kd, ly_ln, ↓Bool.cond_decide, cond_true, cond_false, ↓bI_p, ↓bV_p, ↓bL_p, bIJ_s, bVJ_s, bLJ_s, ↓am_let_s, Nat.blt, Nat.ble, Bool.and_true, Bool.true_and, Bool.and_self, Int.cast_ofNat_Int, am_i_add, am_i_sub, am_i_mul, am_ok_i, am_i_cl, n_lt, n_le, n_eq, n_lt0, n_le0, n_0lt, n_0le, n_eq0, ne_eq, ↓reduceIte, not_true_eq_false, not_false_eq_true, and_true, true_and, and_false, false_and, eq_T, eq_F, lt_T, lt_F, le_T, le_F, qn_T, qn_F, and_F, b01_T, b01_F, e_isIn, Int32.toInt_toInt64, am_i_toInt, am_l_toInt, Int.toNat_natCast, Int.reduceToNat, Int.reduceAdd, Int.reduceSub, Int.reduceMul, Int.reduceNeg, Nat.reduceAdd, Nat.reduceMul, Nat.add_zero, Nat.mul_zero, Nat.zero_add, am_zb0, am_zb1, wnoM, htk, h1, i_tol]
  · obtain rfl : w = 3 := h
    simp (disch := first | assumption | omega) only [rM hm, ly_csm, ly_cam, ly_cf, ly_kd, ly_ln, ↓Bool.cond_decide, cond_true, cond_false, ↓bI_p, ↓bV_p, ↓bL_p, bIJ_s, bVJ_s, bLJ_s, ↓am_let_s, Nat.blt, Nat.ble, Bool.and_true, Bool.true_and, Bool.and_self, Int.cast_ofNat_Int, am_i_add, am_i_sub, am_i_mul, am_ok_i, am_i_cl, n_lt, n_le, n_eq, n_lt0, n_le0, n_0lt, n_0le, n_eq0, ne_eq, ↓reduceIte, not_true_eq_false, not_false_eq_true, and_true, true_and, and_false, false_and, eq_T, eq_F, lt_T, lt_F, le_T, le_F, qn_T, qn_F, and_F, b01_T, b01_F, e_isIn, Int32.toInt_toInt64, am_i_toInt, am_l_toInt, Int.toNat_natCast, Int.reduceToNat, Int.reduceAdd, Int.reduceSub, Int.reduceMul, Int.reduceNeg, Nat.reduceAdd, Nat.reduceMul, Nat.add_zero, Nat.mul_zero, Nat.zero_add, am_zb0, am_zb1, wnoM, t1, h2, i_tol]
  · obtain rfl : w = 4 := h
    simp (disch := first | assumption | omega) only [rM hm, ly_csm, ly_cam, ly_cf, ly_kd, ly_ln, ↓Bool.cond_decide, cond_true, cond_false, ↓bI_p, ↓bV_p, ↓bL_p, bIJ_s, bVJ_s, bLJ_s, ↓am_let_s, Nat.blt, Nat.ble, Bool.and_true, Bool.true_and, Bool.and_self, Int.cast_ofNat_Int, am_i_add, am_i_sub, am_i_mul, am_ok_i, am_i_cl, n_lt, n_le, n_eq, n_lt0, n_le0, n_0lt, n_0le, n_eq0, ne_eq, ↓reduceIte, not_true_eq_false, not_false_eq_true, and_true, true_and, and_false, false_and, eq_T, eq_F, lt_T, lt_F, le_T, le_F, qn_T, qn_F, and_F, b01_T, b01_F, e_isIn, Int32.toInt_toInt64, am_i_toInt, am_l_toInt, Int.toNat_natCast, Int.reduceToNat, Int.reduceAdd, Int.reduceSub, Int.reduceMul, Int.reduceNeg, Nat.reduceAdd, Nat.reduceMul, Nat.add_zero, Nat.mul_zero, Nat.zero_add, am_zb0, am_zb1, wnoM, t2, h3, i_tol]
  · obtain rfl : w = 15 := h
    simp (disch := first | assumption | omega) only [rM hm, ly_csm, ly_cam, ly_cf, ly_kd, ly_ln, ↓Bool.cond_decide, cond_true, cond_false, ↓bI_p, ↓bV_p, ↓bL_p, bIJ_s, bVJ_s, bLJ_s, ↓am_let_s, Nat.blt, Nat.ble, Bool.and_true, Bool.true_and, Bool.and_self, Int.cast_ofNat_Int, am_i_add, am_i_sub, am_i_mul, am_ok_i, am_i_cl, n_lt, n_le, n_eq, n_lt0, n_le0, n_0lt, n_0le, n_eq0, ne_eq, ↓reduceIte, not_true_eq_false, not_false_eq_true, and_true, true_and, and_false, false_and, eq_T, eq_F, lt_T, lt_F, le_T, le_F, qn_T, qn_F, and_F, b01_T, b01_F, e_isIn, Int32.toInt_toInt64, am_i_toInt, am_l_toInt, Int.toNat_natCast, Int.reduceToNat, Int.reduceAdd, Int.reduceSub, Int.reduceMul, Int.reduceNeg, Nat.reduceAdd, Nat.reduceMul, Nat.add_zero, Nat.mul_zero, Nat.zero_add, am_zb0, am_zb1, wnoM, t3, h4, i_tol]
  · obtain rfl : w = 12 := h
    simp (disch := first | assumption | omega) only [rM hm, ly_csm, ly_cam, ly_cf, ly_kd, ly_ln, ↓Bool.cond_decide, cond_true, cond_false, ↓bI_p, ↓bV_p, ↓bL_p, bIJ_s, bVJ_s, bLJ_s, ↓am_let_s, Nat.blt, Nat.ble, Bool.and_true, Bool.true_and, Bool.and_self, Int.cast_ofNat_Int, am_i_add, am_i_sub, am_i_mul, am_ok_i, am_i_cl, n_lt, n_le, n_eq, n_lt0, n_le0, n_0lt, n_0le, n_eq0, ne_eq, ↓reduceIte, not_true_eq_false, not_false_eq_true, and_true, true_and, and_false, false_and, eq_T, eq_F, lt_T, lt_F, le_T, le_F, qn_T, qn_F, and_F, b01_T, b01_F, e_isIn, Int32.toInt_toInt64, am_i_toInt, am_l_toInt, Int.toNat_natCast, Int.reduceToNat, Int.reduceAdd, Int.reduceSub, Int.reduceMul, Int.reduceNeg, Nat.reduceAdd, Nat.reduceMul, Nat.add_zero, Nat.mul_zero, Nat.zero_add, am_zb0, am_zb1, wnoM, h5, i_tol]
  · obtain ⟨hs, h⟩ := h
    obtain rfl : w = 16 := h
    simp (disch := first | assumption | omega) only [rM hm, ly_csm, ly_cam, ly_cf, ly_kd, ly_ln, ↓Bool.cond_decide, cond_true, cond_false, ↓bI_p, ↓bV_p, ↓bL_p, bIJ_s, bVJ_s, bLJ_s, ↓am_let_s, Nat.blt, Nat.ble, Bool.and_true, Bool.true_and, Bool.and_self, Int.cast_ofNat_Int, am_i_add, am_i_sub, am_i_mul, am_ok_i, am_i_cl, n_lt, n_le, n_eq, n_lt0, n_le0, n_0lt, n_0le, n_eq0, ne_eq, ↓reduceIte, not_true_eq_false, not_false_eq_true, and_true, true_and, and_false, false_and, eq_T, eq_F, lt_T, lt_F, le_T, le_F, qn_T, qn_F, and_F, b01_T, b01_F, e_isIn, Int32.toInt_toInt64, am_i_toInt, am_l_toInt, Int.toNat_natCast, Int.reduceToNat, Int.reduceAdd, Int.reduceSub, Int.reduceMul, Int.reduceNeg, Nat.reduceAdd, Nat.reduceMul, Nat.add_zero, Nat.mul_zero, Nat.zero_add, am_zb0, am_zb1, wnoM, h6 hs, i_tol]
  · cases h.1
theorem m_tell {f : Nat} {en : Nat → Int} (hm : st_Rm R) (hb6 : b < 6) (hf3 : f < 3) (hX : cxM last wd nb nt wf fm I) (hE : enM I b (f == 2) en) (hb : ∀ w, -1000000 ≤ en w ∧ en w ≤ 1000000) (ht : I 100 (3 + f) ≠ am_i (-1)) : Wp (fun r M => ∃ I' J', r = some (.long (am_l (vl en e0 (fm f)))) ∧ M = (I', J', R, 138) ∧ fr mS2 I I' ∧ frJ J J') (am_E (d + 3) 206 0 [(0, .ref 64), (1, .int (am_i f)), (2, .int (am_i b))] [] (I, J, R, 138)) := by
  obtain ⟨hM, hT⟩ := hX.2.2.2.2.2.2.2.2 f hf3
  have hv1 := (vl_ok hT hb).2.2
  obtain ⟨⟨bb, hOK⟩, hW⟩ := hT
  rcases hM with ⟨h, -⟩ | ⟨a, a1, a2, a3, a4⟩
  · exact absurd h ht
  have e3 : ((3 : Int) + (f : Int)).toNat = 3 + f := by omega
  obtain ⟨tk, tk1, etk⟩ : ∃ tk : Nat, tk ≤ 1 ∧ tk = if f = 2 then 1 else 0 := ⟨_, by split <;> omega, rfl⟩
  let I1 : tI := am_up (am_up I 64 51 (am_i tk)) 64 101 (am_i 0)
  have o1 : ∀ q k, ¬ (q = 64 ∧ (k = 51 ∨ k = 101)) → I1 q k = I q k := fun q k h => by
    show am_up (am_up I 64 51 (am_i tk)) 64 101 (am_i 0) q k = I q k
    rw [am_up_o (by omega), am_up_o (by omega)]
  have o2 : I1 64 51 = am_i tk := by
    show am_up (am_up I 64 51 (am_i tk)) 64 101 (am_i 0) 64 51 = _
    rw [am_up_o (by omega), am_up_e]
  have hE1 : ∀ I2, fr mS1 I1 I2 → enM I2 b (f == 2) en ∧ I2 64 51 = am_i tk := fun I2 hf => by
    obtain ⟨h1, h2, h3, h4, h5, h6⟩ := hE
    refine ⟨⟨?_, ?_, ?_, ?_, ?_, fun q => ?_⟩, ?_⟩
    · rw [hf 64 54 rfl, o1 _ _ (by omega)]; exact h1
    · rw [hf 103 _ rfl, o1 _ _ (by omega)]; exact h2
    · rw [hf 103 _ rfl, o1 _ _ (by omega)]; exact h3
    · rw [hf 103 _ rfl, o1 _ _ (by omega)]; exact h4
    · rw [hf 64 55 rfl, o1 _ _ (by omega)]; exact h5
    · rw [hf 64 56 rfl, o1 _ _ (by omega)]; exact h6 q
    · rw [hf 64 51 rfl]; exact o2
  obtain ⟨v, g1, g2, I', J', g3, g4, g5⟩ := m_loop (d := d) (J0 := J) (R := R) (f := f) (bb := b) (e := a + (fm f).length) (en := en) (e1 := e0) (sw := f == 2) (b := bb) (I0 := I1) hm hf3 a1 (by rw [o1 _ _ (by omega)]; exact a3) (fun w hw => ⟨(hb w).1, (hb w).2, fun d I2 J2 hf => m_part hm hb6 (hE1 I2 hf).2 tk1 (hE1 I2 hf).1 hb hw⟩) (fm f) a [] [] I1 J hOK hW (by decide) trivial (fr_r _ _) (frJ_r _) trivial am_up_e rfl (fun k t e => by rw [o1 _ _ (by omega)]; exact a4 k t e)
  rw [hv1] at g1
  have hv2 : vl en e0 (fm f) = v := by injection g1
  rw [hv2]
  refine ⟨_, _, ?_, I', J', rfl, rfl, fun q k h => ?_, g5⟩
  · rw [sg_X12_codesTell_0]
    have r1 : I1 100 (3 + f) = am_i a := by rw [o1 _ _ (by omega)]; exact a2
    by_cases q : f = 2
    · subst q
      have etk' : tk = 1 := etk
      subst etk'
      simp (disch := first | assumption | omega) only [rM hm, ly_csm, ly_cam, ly_cf, ly_kd, ly_ln, ↓Bool.cond_decide, cond_true, cond_false, ↓bI_p, ↓bV_p, ↓bL_p, bIJ_s, bVJ_s, bLJ_s, ↓am_let_s, Nat.blt, Nat.ble, Bool.and_true, Bool.true_and, Bool.and_self, Int.cast_ofNat_Int, am_i_add, am_i_sub, am_i_mul, am_ok_i, am_i_cl, n_lt, n_le, n_eq, n_lt0, n_le0, n_0lt, n_0le, n_eq0, ne_eq, ↓reduceIte, not_true_eq_false, not_false_eq_true, and_true, true_and, and_false, false_and, eq_T, eq_F, lt_T, lt_F, le_T, le_F, qn_T, qn_F, and_F, b01_T, b01_F, e_isIn, Int32.toInt_toInt64, am_i_toInt, am_l_toInt, Int.toNat_natCast, Int.reduceToNat, Int.reduceAdd, Int.reduceSub, Int.reduceMul, Int.reduceNeg, Nat.reduceAdd, Nat.reduceMul, Nat.add_zero, Nat.mul_zero, Nat.zero_add, am_zb0, am_zb1, am_up_o, a2]
      exact g3
    · have etk' : tk = 0 := by rw [etk, if_neg q]
      subst etk'
      simp (disch := first | assumption | omega) only [rM hm, ly_csm, ly_cam, ly_cf, ly_kd, ly_ln, ↓Bool.cond_decide, cond_true, cond_false, ↓bI_p, ↓bV_p, ↓bL_p, bIJ_s, bVJ_s, bLJ_s, ↓am_let_s, Nat.blt, Nat.ble, Bool.and_true, Bool.true_and, Bool.and_self, Int.cast_ofNat_Int, am_i_add, am_i_sub, am_i_mul, am_ok_i, am_i_cl, n_lt, n_le, n_eq, n_lt0, n_le0, n_0lt, n_0le, n_eq0, ne_eq, ↓reduceIte, not_true_eq_false, not_false_eq_true, and_true, true_and, and_false, false_and, eq_T, eq_F, lt_T, lt_F, le_T, le_F, qn_T, qn_F, and_F, b01_T, b01_F, e_isIn, Int32.toInt_toInt64, am_i_toInt, am_l_toInt, Int.toNat_natCast, Int.reduceToNat, Int.reduceAdd, Int.reduceSub, Int.reduceMul, Int.reduceNeg, Nat.reduceAdd, Nat.reduceMul, Nat.add_zero, Nat.mul_zero, Nat.zero_add, am_zb0, am_zb1, e3, am_up_o, a2]
      exact g3
  · have h' := mS2_f.mp h
    rw [g4 q k (by unfold mS1; simp; omega), o1 _ _ h']
theorem vl_1 {en : Nat → Int} (k x : Nat) : vl en e0 [(k, x)] = (evT en e0 [] (k, x)).headD 0 := rfl
theorem m_carried (hm : st_Rm R) (hb6 : b < 6) (hX : cxM last wd nb nt wf fm I) (h1 : s.mi ≤ last) (h2 : s.ti ≤ 99) (h3 : s.ro ≤ 99) (e1 : I 103 (1 + 11 * b) = am_i s.mi) (e2 : I 103 (2 + 11 * b) = am_i s.ti) (e3 : I 103 (3 + 11 * b) = am_i s.ro) (hv : v < 8) (hu : u ≤ 9) : Wp (fun r M => ∃ I' J', r = some (.int (am_i (rcS wf fm s v u))) ∧ M = (I', J', R, 138) ∧ fr mS I I' ∧ frJ J J') (am_E (d + 4) 207 0 [(0, .ref 64), (1, .int (am_i b)), (2, .int (am_i v)), (3, .int (am_i u))] [] (I, J, R, 138)) := by
  have hl := hX.2.1
  have w2 := hX.2.2.2.2.2.2.2.1 s.mi (by omega) v hv
  have w4 : wf s.mi / 2 ^ v % 2 < 2 := Nat.mod_lt _ (by decide)
  have t3 := fun d => e_mileOf (d := d) (I := I) (J := J) (b := (b : Int)) hm (by omega) (by omega)
  rw [Int.toNat_natCast] at t3
  have n1 : ((488 : Int) + 8 * (s.mi : Int) + (v : Int)).toNat = 488 + 8 * s.mi + v := by omega
  have eb := enS_b (v := v) (ti := s.ti) (ro := s.ro) (mi := s.mi) (u := u) (wt := 0) (by omega) h2 h3 (by omega) hu (by omega) (by omega)
  have vb := vl_ok (hX.2.2.2.2.2.2.2.2 0 (by decide)).2 eb
  rw [sg_X12_carriedBy_0]
  by_cases q : wf s.mi / 2 ^ v % 2 = 1
  · simp (disch := first | assumption | omega) only [rM hm, ly_csm, ly_cam, ly_cf, ly_kd, ly_ln, ↓Bool.cond_decide, cond_true, cond_false, ↓bI_p, ↓bV_p, ↓bL_p, bIJ_s, bVJ_s, bLJ_s, ↓am_let_s, Nat.blt, Nat.ble, Bool.and_true, Bool.true_and, Bool.and_self, Int.cast_ofNat_Int, am_i_add, am_i_sub, am_i_mul, am_ok_i, am_i_cl, n_lt, n_le, n_eq, n_lt0, n_le0, n_0lt, n_0le, n_eq0, ne_eq, ↓reduceIte, not_true_eq_false, not_false_eq_true, and_true, true_and, and_false, false_and, eq_T, eq_F, lt_T, lt_F, le_T, le_F, qn_T, qn_F, and_F, b01_T, b01_F, e_isIn, Int32.toInt_toInt64, am_i_toInt, am_l_toInt, Int.toNat_natCast, Int.reduceToNat, Int.reduceAdd, Int.reduceSub, Int.reduceMul, Int.reduceNeg, Nat.reduceAdd, Nat.reduceMul, Nat.add_zero, Nat.mul_zero, Nat.zero_add, am_zb0, am_zb1, t3, e1, n1, w2, q]
    exact Wp_r ⟨I, J, by unfold rcS; rw [if_pos q], rfl, fr_r _ _, frJ_r _⟩
  · have q0 : wf s.mi / 2 ^ v % 2 = 0 := by omega
    have o1 : ∀ q k, ¬ (q = 64 ∧ (k = 54 ∨ k = 55)) → am_up (am_up I 64 54 (am_i v)) 64 55 (am_i u) q k = I q k := fun q k h => by
      rw [am_up_o (by omega), am_up_o (by omega)]
    rcases (hX.2.2.2.2.2.2.2.2 0 (by decide)).1 with ⟨hn, hd⟩ | ⟨a, a1, a2, a3, a4⟩
    · have hn' : I 100 3 = am_i (-1) := hn
      have z : rcS wf fm s v u = 1 := by
        unfold rcS
        rw [if_neg q, hd]
        rfl
      simp (disch := first | assumption | omega) only [rM hm, ly_csm, ly_cam, ly_cf, ly_kd, ly_ln, ↓Bool.cond_decide, cond_true, cond_false, ↓bI_p, ↓bV_p, ↓bL_p, bIJ_s, bVJ_s, bLJ_s, ↓am_let_s, Nat.blt, Nat.ble, Bool.and_true, Bool.true_and, Bool.and_self, Int.cast_ofNat_Int, am_i_add, am_i_sub, am_i_mul, am_ok_i, am_i_cl, n_lt, n_le, n_eq, n_lt0, n_le0, n_0lt, n_0le, n_eq0, ne_eq, ↓reduceIte, not_true_eq_false, not_false_eq_true, and_true, true_and, and_false, false_and, eq_T, eq_F, lt_T, lt_F, le_T, le_F, qn_T, qn_F, and_F, b01_T, b01_F, e_isIn, Int32.toInt_toInt64, am_i_toInt, am_l_toInt, Int.toNat_natCast, Int.reduceToNat, Int.reduceAdd, Int.reduceSub, Int.reduceMul, Int.reduceNeg, Nat.reduceAdd, Nat.reduceMul, Nat.add_zero, Nat.mul_zero, Nat.zero_add, am_zb0, am_zb1, t3, e1, n1, w2, q0, am_up_o, hn', lc_ge, lc_le, l_toi]
      exact Wp_r ⟨_, J, by rw [z], rfl, fun q k h => o1 q k (by have := mS_f.mp h; omega), frJ_r _⟩
    · have a2' : I 100 3 = am_i a := a2
      simp (disch := first | assumption | omega) only [rM hm, ly_csm, ly_cam, ly_cf, ly_kd, ly_ln, ↓Bool.cond_decide, cond_true, cond_false, ↓bI_p, ↓bV_p, ↓bL_p, bIJ_s, bVJ_s, bLJ_s, ↓am_let_s, Nat.blt, Nat.ble, Bool.and_true, Bool.true_and, Bool.and_self, Int.cast_ofNat_Int, am_i_add, am_i_sub, am_i_mul, am_ok_i, am_i_cl, n_lt, n_le, n_eq, n_lt0, n_le0, n_0lt, n_0le, n_eq0, ne_eq, ↓reduceIte, not_true_eq_false, not_false_eq_true, and_true, true_and, and_false, false_and, eq_T, eq_F, lt_T, lt_F, le_T, le_F, qn_T, qn_F, and_F, b01_T, b01_F, e_isIn, Int32.toInt_toInt64, am_i_toInt, am_l_toInt, Int.toNat_natCast, Int.reduceToNat, Int.reduceAdd, Int.reduceSub, Int.reduceMul, Int.reduceNeg, Nat.reduceAdd, Nat.reduceMul, Nat.add_zero, Nat.mul_zero, Nat.zero_add, am_zb0, am_zb1, ↓bL_p, t3, e1, n1, w2, q0, am_up_o, a2']
      refine Wp_L (m_tell (f := 0) (en := enS v s.ti s.ro s.mi u 0) hm hb6 (by decide) (cxM_c (fun q k k1 k2 => o1 q k (by omega)) hX) ⟨?_, ?_, ?_, ?_, ?_, fun h => by cases h⟩ eb ?_) ?_
      · rw [am_up_o (by omega), am_up_e]; rfl
      · rw [o1 _ _ (by omega), e2]; rfl
      · rw [o1 _ _ (by omega), e3]; rfl
      · rw [o1 _ _ (by omega), e1]; rfl
      · rw [am_up_e]; rfl
      · rw [o1 _ _ (by omega), a2, ne_eq, n_eq (by omega) (by omega) (by omega) (by omega)]
        omega
      · rintro _ _ ⟨I', J', rfl, rfl, hf, hj⟩
        refine ⟨_, rfl, ?_⟩
        have fin : fr mS I I' := fun q k h => by
          have h' := mS_f.mp h
          rw [hf q k (mS2_f.mpr (by omega)), o1 q k (by omega)]
        have z : rcS wf fm s v u = clZ (-9) 9 (vl (enS v s.ti s.ro s.mi u 0) e0 (fm 0)) := by
          unfold rcS
          rw [if_neg q]
        unfold clZ at z
        by_cases c1 : vl (enS v s.ti s.ro s.mi u 0) e0 (fm 0) < -9
        · rw [if_pos c1] at z
          simp (disch := first | assumption | omega) only [am_i_add, am_i_sub, am_i_mul, am_ok_i, am_i_cl, n_lt, n_le, n_eq, n_lt0, n_le0, n_0lt, n_0le, n_eq0, ne_eq, ↓reduceIte, not_true_eq_false, not_false_eq_true, and_true, true_and, and_false, false_and, eq_T, eq_F, lt_T, lt_F, le_T, le_F, qn_T, qn_F, and_F, b01_T, b01_F, e_isIn, Int32.toInt_toInt64, am_i_toInt, am_l_toInt, Int.toNat_natCast, Int.reduceToNat, Int.reduceAdd, Int.reduceSub, Int.reduceMul, Int.reduceNeg, Nat.reduceAdd, Nat.reduceMul, Nat.add_zero, Nat.mul_zero, Nat.zero_add, am_zb0, am_zb1, ↓Bool.cond_decide, lc_ge, lc_le, l_toi]
          exact Wp_r ⟨I', J', by rw [z], rfl, fin, hj⟩
        · rw [if_neg c1] at z
          by_cases c2 : 9 < vl (enS v s.ti s.ro s.mi u 0) e0 (fm 0)
          · rw [if_pos c2] at z
            simp (disch := first | assumption | omega) only [am_i_add, am_i_sub, am_i_mul, am_ok_i, am_i_cl, n_lt, n_le, n_eq, n_lt0, n_le0, n_0lt, n_0le, n_eq0, ne_eq, ↓reduceIte, not_true_eq_false, not_false_eq_true, and_true, true_and, and_false, false_and, eq_T, eq_F, lt_T, lt_F, le_T, le_F, qn_T, qn_F, and_F, b01_T, b01_F, e_isIn, Int32.toInt_toInt64, am_i_toInt, am_l_toInt, Int.toNat_natCast, Int.reduceToNat, Int.reduceAdd, Int.reduceSub, Int.reduceMul, Int.reduceNeg, Nat.reduceAdd, Nat.reduceMul, Nat.add_zero, Nat.mul_zero, Nat.zero_add, am_zb0, am_zb1, ↓Bool.cond_decide, lc_ge, lc_le, l_toi]
            exact Wp_r ⟨I', J', by rw [z], rfl, fin, hj⟩
          · rw [if_neg c2] at z
            simp (disch := first | assumption | omega) only [am_i_add, am_i_sub, am_i_mul, am_ok_i, am_i_cl, n_lt, n_le, n_eq, n_lt0, n_le0, n_0lt, n_0le, n_eq0, ne_eq, ↓reduceIte, not_true_eq_false, not_false_eq_true, and_true, true_and, and_false, false_and, eq_T, eq_F, lt_T, lt_F, le_T, le_F, qn_T, qn_F, and_F, b01_T, b01_F, e_isIn, Int32.toInt_toInt64, am_i_toInt, am_l_toInt, Int.toNat_natCast, Int.reduceToNat, Int.reduceAdd, Int.reduceSub, Int.reduceMul, Int.reduceNeg, Nat.reduceAdd, Nat.reduceMul, Nat.add_zero, Nat.mul_zero, Nat.zero_add, am_zb0, am_zb1, ↓Bool.cond_decide, lc_ge, lc_le, l_toi]
            exact Wp_r ⟨I', J', by rw [z], rfl, fin, hj⟩
def mT (b q k : Nat) : Bool := mS2 q k || (q == 103 && (k == 2 + 11 * b || k == 3 + 11 * b))
theorem mT_f {b q k : Nat} : mT b q k = false ↔ ¬ (q = 64 ∧ (k = 51 ∨ k = 101)) ∧ ¬ (q = 103 ∧ (k = 2 + 11 * b ∨ k = 3 + 11 * b)) := by
  unfold mT
  rw [Bool.or_eq_false_iff, mS2_f]
  simp
theorem m_b181 {ro : Nat} (hm : st_Rm R) (hb6 : b < 6) (hr : ro ≤ 99) (h : I 103 (3 + 11 * b) = am_i ro) : am_E (d + 2) 208 181 [(0, .ref 64), (1, .int (am_i b))] [] (I, J, R, 138) = some (none, (if ro = 0 then I else am_up I 103 (3 + 11 * b) (am_i (ro - 1 : Nat)), J, R, 138)) := by
  have t2 := fun d => e_rosinOf (d := d) (I := I) (J := J) (b := (b : Int)) hm (by omega) (by omega)
  rw [Int.toNat_natCast] at t2
  have n1 : ((3 : Int) + 11 * (b : Int)).toNat = 3 + 11 * b := by omega
  rw [sg_X12_bow_181]
  by_cases q : ro = 0
  · simp (disch := first | assumption | omega) only [rM hm, ly_csm, ly_cam, ly_cf, ly_kd, ly_ln, ↓Bool.cond_decide, cond_true, cond_false, ↓bI_p, ↓bV_p, ↓bL_p, bIJ_s, bVJ_s, bLJ_s, ↓am_let_s, Nat.blt, Nat.ble, Bool.and_true, Bool.true_and, Bool.and_self, Int.cast_ofNat_Int, am_i_add, am_i_sub, am_i_mul, am_ok_i, am_i_cl, n_lt, n_le, n_eq, n_lt0, n_le0, n_0lt, n_0le, n_eq0, ne_eq, ↓reduceIte, not_true_eq_false, not_false_eq_true, and_true, true_and, and_false, false_and, eq_T, eq_F, lt_T, lt_F, le_T, le_F, qn_T, qn_F, and_F, b01_T, b01_F, e_isIn, Int32.toInt_toInt64, am_i_toInt, am_l_toInt, Int.toNat_natCast, Int.reduceToNat, Int.reduceAdd, Int.reduceSub, Int.reduceMul, Int.reduceNeg, Nat.reduceAdd, Nat.reduceMul, Nat.add_zero, Nat.mul_zero, Nat.zero_add, am_zb0, am_zb1, t2, h, sg_X12_bow_204]
  · have e2 : am_i ((ro : Int) - 1) = am_i ((ro - 1 : Nat) : Int) := by congr 1; omega
    simp (disch := first | assumption | omega) only [rM hm, ly_csm, ly_cam, ly_cf, ly_kd, ly_ln, ↓Bool.cond_decide, cond_true, cond_false, ↓bI_p, ↓bV_p, ↓bL_p, bIJ_s, bVJ_s, bLJ_s, ↓am_let_s, Nat.blt, Nat.ble, Bool.and_true, Bool.true_and, Bool.and_self, Int.cast_ofNat_Int, am_i_add, am_i_sub, am_i_mul, am_ok_i, am_i_cl, n_lt, n_le, n_eq, n_lt0, n_le0, n_0lt, n_0le, n_eq0, ne_eq, ↓reduceIte, not_true_eq_false, not_false_eq_true, and_true, true_and, and_false, false_and, eq_T, eq_F, lt_T, lt_F, le_T, le_F, qn_T, qn_F, and_F, b01_T, b01_F, e_isIn, Int32.toInt_toInt64, am_i_toInt, am_l_toInt, Int.toNat_natCast, Int.reduceToNat, Int.reduceAdd, Int.reduceSub, Int.reduceMul, Int.reduceNeg, Nat.reduceAdd, Nat.reduceMul, Nat.add_zero, Nat.mul_zero, Nat.zero_add, am_zb0, am_zb1, t2, h, n1, e2, sg_X12_bow_204]
theorem m_btail {en : Nat → Int} {ti ro : Nat} (hm : st_Rm R) (hb6 : b < 6) (hX : cxM last wd nb nt wf fm I) (hE : enM I b true en) (hb : ∀ w, -1000000 ≤ en w ∧ en w ≤ 1000000) (h3 : en 3 = ti) (ht : ti ≤ 99) (hr : ro ≤ 99) (h4 : I 103 (3 + 11 * b) = am_i ro) : Wp (fun r M => ∃ I' J', r = none ∧ M = (I', J', R, 138) ∧ fr (mT b) I I' ∧ frJ J J' ∧ I' 103 (2 + 11 * b) = am_i ((clZ 0 99 (vl en e0 (fm 1))).toNat : Nat) ∧ I' 103 (3 + 11 * b) = am_i (ro - 1 : Nat)) (am_E (d + 4) 208 124 [(0, .ref 64), (1, .int (am_i b))] [] (I, J, R, 138)) := by
  have cb := clZ_b (a := 0) (b := 99) (v := vl en e0 (fm 1)) (by omega)
  have vb := vl_ok (hX.2.2.2.2.2.2.2.2 1 (by decide)).2 hb
  have n1 : ((2 : Int) + 11 * (b : Int)).toNat = 2 + 11 * b := by omega
  /- behind the tightness -/
  have fin : ∀ d I2 J2 t, fr (mT b) I I2 → frJ J J2 → I2 103 (2 + 11 * b) = am_i (t : Nat) → I2 103 (3 + 11 * b) = am_i ro → t = (clZ 0 99 (vl en e0 (fm 1))).toNat → Wp (fun r M => ∃ I' J', r = none ∧ M = (I', J', R, 138) ∧ fr (mT b) I I' ∧ frJ J J' ∧ I' 103 (2 + 11 * b) = am_i ((clZ 0 99 (vl en e0 (fm 1))).toNat : Nat) ∧ I' 103 (3 + 11 * b) = am_i (ro - 1 : Nat)) (am_E (d + 2) 208 181 [(0, .ref 64), (1, .int (am_i b))] [] (I2, J2, R, 138)) := by
    intro d I2 J2 t f1 f2 f3 f4 f5
    refine Wp_e (m_b181 hm hb6 hr f4) ?_
    by_cases q : ro = 0
    · rw [if_pos q]
      exact Wp_r ⟨_, _, rfl, rfl, f1, f2, by rw [f3, f5], by rw [f4, q]⟩
    · rw [if_neg q]
      refine Wp_r ⟨_, _, rfl, rfl, fun q k h => ?_, f2, ?_, am_up_e⟩
      · have := mT_f.mp h
        rw [am_up_o (by omega)]
        exact f1 q k h
      · rw [am_up_o (by omega), f3, f5]
  rw [sg_X12_bow_124]
  rcases (hX.2.2.2.2.2.2.2.2 1 (by decide)).1 with ⟨hn, hd⟩ | ⟨a, a1, a2, a3, a4⟩
  · have hn' : I 100 4 = am_i (-1) := hn
    simp (disch := first | assumption | omega) only [rM hm, ly_csm, ly_cam, ly_cf, ly_kd, ly_ln, ↓Bool.cond_decide, cond_true, cond_false, ↓bI_p, ↓bV_p, ↓bL_p, bIJ_s, bVJ_s, bLJ_s, ↓am_let_s, Nat.blt, Nat.ble, Bool.and_true, Bool.true_and, Bool.and_self, Int.cast_ofNat_Int, am_i_add, am_i_sub, am_i_mul, am_ok_i, am_i_cl, n_lt, n_le, n_eq, n_lt0, n_le0, n_0lt, n_0le, n_eq0, ne_eq, ↓reduceIte, not_true_eq_false, not_false_eq_true, and_true, true_and, and_false, false_and, eq_T, eq_F, lt_T, lt_F, le_T, le_F, qn_T, qn_F, and_F, b01_T, b01_F, e_isIn, Int32.toInt_toInt64, am_i_toInt, am_l_toInt, Int.toNat_natCast, Int.reduceToNat, Int.reduceAdd, Int.reduceSub, Int.reduceMul, Int.reduceNeg, Nat.reduceAdd, Nat.reduceMul, Nat.add_zero, Nat.mul_zero, Nat.zero_add, am_zb0, am_zb1, hn']
    refine fin _ _ _ ti (fr_r _ _) (frJ_r _) (by rw [hE.2.1, h3]) h4 ?_
    have : vl en e0 (fm 1) = (ti : Int) := by
      rw [hd]
      exact h3
    rw [this]
    unfold clZ
    rw [if_neg (by omega), if_neg (by omega)]
    rfl
  · have a2' : I 100 4 = am_i a := a2
    simp (disch := first | assumption | omega) only [rM hm, ly_csm, ly_cam, ly_cf, ly_kd, ly_ln, ↓Bool.cond_decide, cond_true, cond_false, ↓bI_p, ↓bV_p, ↓bL_p, bIJ_s, bVJ_s, bLJ_s, ↓am_let_s, Nat.blt, Nat.ble, Bool.and_true, Bool.true_and, Bool.and_self, Int.cast_ofNat_Int, am_i_add, am_i_sub, am_i_mul, am_ok_i, am_i_cl, n_lt, n_le, n_eq, n_lt0, n_le0, n_0lt, n_0le, n_eq0, ne_eq, ↓reduceIte, not_true_eq_false, not_false_eq_true, and_true, true_and, and_false, false_and, eq_T, eq_F, lt_T, lt_F, le_T, le_F, qn_T, qn_F, and_F, b01_T, b01_F, e_isIn, Int32.toInt_toInt64, am_i_toInt, am_l_toInt, Int.toNat_natCast, Int.reduceToNat, Int.reduceAdd, Int.reduceSub, Int.reduceMul, Int.reduceNeg, Nat.reduceAdd, Nat.reduceMul, Nat.add_zero, Nat.mul_zero, Nat.zero_add, am_zb0, am_zb1, ↓bL_p, a2']
    have hE' : enM I b ((1 : Nat) == 2) en := ⟨hE.1, hE.2.1, hE.2.2.1, hE.2.2.2.1, hE.2.2.2.2.1, fun h => by cases h⟩
    refine Wp_L (m_tell (f := 1) (en := en) hm hb6 (by decide) hX hE' hb ?_) ?_
    · rw [a2, ne_eq, n_eq (by omega) (by omega) (by omega) (by omega)]
      omega
    · rintro _ _ ⟨I1, J1, rfl, rfl, hf, hj⟩
      refine ⟨_, rfl, ?_⟩
      have g4 : I1 103 (3 + 11 * b) = am_i ro := by rw [hf _ _ (mS2_f.mpr (by omega))]; exact h4
      have fi : ∀ x, fr (mT b) I (am_up I1 103 (2 + 11 * b) x) := fun x q k h => by
        have := mT_f.mp h
        rw [am_up_o (by omega), hf q k (mS2_f.mpr this.1)]
      have go : ∀ x, am_up I1 103 (2 + 11 * b) x 103 (3 + 11 * b) = am_i ro := fun x => by rw [am_up_o (by omega)]; exact g4
      by_cases c1 : vl en e0 (fm 1) < 0
      · simp (disch := first | assumption | omega) only [rM hm, ly_csm, ly_cam, ly_cf, ly_kd, ly_ln, ↓Bool.cond_decide, cond_true, cond_false, ↓bI_p, ↓bV_p, ↓bL_p, bIJ_s, bVJ_s, bLJ_s, ↓am_let_s, Nat.blt, Nat.ble, Bool.and_true, Bool.true_and, Bool.and_self, Int.cast_ofNat_Int, am_i_add, am_i_sub, am_i_mul, am_ok_i, am_i_cl, n_lt, n_le, n_eq, n_lt0, n_le0, n_0lt, n_0le, n_eq0, ne_eq, ↓reduceIte, not_true_eq_false, not_false_eq_true, and_true, true_and, and_false, false_and, eq_T, eq_F, lt_T, lt_F, le_T, le_F, qn_T, qn_F, and_F, b01_T, b01_F, e_isIn, Int32.toInt_toInt64, am_i_toInt, am_l_toInt, Int.toNat_natCast, Int.reduceToNat, Int.reduceAdd, Int.reduceSub, Int.reduceMul, Int.reduceNeg, Nat.reduceAdd, Nat.reduceMul, Nat.add_zero, Nat.mul_zero, Nat.zero_add, am_zb0, am_zb1, n1, lc_ge, lc_le, l_toi]
        exact fin _ _ _ 0 (fi _) hj am_up_e (go _) (by unfold clZ; rw [if_pos c1]; rfl)
      · by_cases c2 : 99 < vl en e0 (fm 1)
        · simp (disch := first | assumption | omega) only [rM hm, ly_csm, ly_cam, ly_cf, ly_kd, ly_ln, ↓Bool.cond_decide, cond_true, cond_false, ↓bI_p, ↓bV_p, ↓bL_p, bIJ_s, bVJ_s, bLJ_s, ↓am_let_s, Nat.blt, Nat.ble, Bool.and_true, Bool.true_and, Bool.and_self, Int.cast_ofNat_Int, am_i_add, am_i_sub, am_i_mul, am_ok_i, am_i_cl, n_lt, n_le, n_eq, n_lt0, n_le0, n_0lt, n_0le, n_eq0, ne_eq, ↓reduceIte, not_true_eq_false, not_false_eq_true, and_true, true_and, and_false, false_and, eq_T, eq_F, lt_T, lt_F, le_T, le_F, qn_T, qn_F, and_F, b01_T, b01_F, e_isIn, Int32.toInt_toInt64, am_i_toInt, am_l_toInt, Int.toNat_natCast, Int.reduceToNat, Int.reduceAdd, Int.reduceSub, Int.reduceMul, Int.reduceNeg, Nat.reduceAdd, Nat.reduceMul, Nat.add_zero, Nat.mul_zero, Nat.zero_add, am_zb0, am_zb1, n1, lc_ge, lc_le, l_toi]
          exact fin _ _ _ 99 (fi _) hj am_up_e (go _) (by unfold clZ; rw [if_neg c1, if_pos c2]; rfl)
        · simp (disch := first | assumption | omega) only [rM hm, ly_csm, ly_cam, ly_cf, ly_kd, ly_ln, ↓Bool.cond_decide, cond_true, cond_false, ↓bI_p, ↓bV_p, ↓bL_p, bIJ_s, bVJ_s, bLJ_s, ↓am_let_s, Nat.blt, Nat.ble, Bool.and_true, Bool.true_and, Bool.and_self, Int.cast_ofNat_Int, am_i_add, am_i_sub, am_i_mul, am_ok_i, am_i_cl, n_lt, n_le, n_eq, n_lt0, n_le0, n_0lt, n_0le, n_eq0, ne_eq, ↓reduceIte, not_true_eq_false, not_false_eq_true, and_true, true_and, and_false, false_and, eq_T, eq_F, lt_T, lt_F, le_T, le_F, qn_T, qn_F, and_F, b01_T, b01_F, e_isIn, Int32.toInt_toInt64, am_i_toInt, am_l_toInt, Int.toNat_natCast, Int.reduceToNat, Int.reduceAdd, Int.reduceSub, Int.reduceMul, Int.reduceNeg, Nat.reduceAdd, Nat.reduceMul, Nat.add_zero, Nat.mul_zero, Nat.zero_add, am_zb0, am_zb1, n1, lc_ge, lc_le, l_toi]
          refine fin _ _ _ (vl en e0 (fm 1)).toNat (fi _) hj ?_ (go _) (by unfold clZ; rw [if_neg c1, if_neg c2])
          rw [am_up_e]
          congr 1
          omega
def mbI (I : tI) (b mi' mi v u : Nat) : tI := am_up (am_up (am_up (am_up I 103 (1 + 11 * b) (am_i mi')) 64 54 (am_i v)) 64 55 (am_i u)) 64 56 (am_i ((mi' : Int) - mi))
theorem mbI_o {I : tI} {b mi' mi v u q k : Nat} (h : ¬ (q = 64 ∧ (k = 54 ∨ k = 55 ∨ k = 56))) (h2 : ¬ (q = 103 ∧ k = 1 + 11 * b)) : mbI I b mi' mi v u q k = I q k := by
  unfold mbI
  rw [am_up_o (by omega), am_up_o (by omega), am_up_o (by omega), am_up_o (by omega)]
theorem mbI_e {I : tI} {b mi' mi v u ti ro : Nat} (h3 : I 103 (2 + 11 * b) = am_i ti) (h4 : I 103 (3 + 11 * b) = am_i ro) : enM (mbI I b mi' mi v u) b true (enS v ti ro mi' u ((mi' : Int) - mi)) := by
  unfold mbI
  refine ⟨?_, ?_, ?_, ?_, ?_, fun _ => ?_⟩
  · rw [am_up_o (by omega), am_up_o (by omega), am_up_e]; rfl
  · rw [am_up_o (by omega), am_up_o (by omega), am_up_o (by omega), am_up_o (by omega), h3]; rfl
  · rw [am_up_o (by omega), am_up_o (by omega), am_up_o (by omega), am_up_o (by omega), h4]; rfl
  · rw [am_up_o (by omega), am_up_o (by omega), am_up_o (by omega), am_up_e]; rfl
  · rw [am_up_o (by omega), am_up_e]; rfl
  · rw [am_up_e]; rfl
/-- what bowing boat b may change -/
def mB (b q k : Nat) : Bool := mS q k || (q == 103 && Nat.ble (1 + 11 * b) k && Nat.ble k (4 + 11 * b))
theorem mB_f {b q k : Nat} : mB b q k = false ↔ ¬ (q = 64 ∧ (k = 51 ∨ k = 54 ∨ k = 55 ∨ k = 56 ∨ k = 101)) ∧ ¬ (q = 103 ∧ 1 + 11 * b ≤ k ∧ k ≤ 4 + 11 * b) := by
  unfold mB
  rw [Bool.or_eq_false_iff, mS_f, ← Bool.not_eq_true (q == 103 && Nat.ble (1 + 11 * b) k && Nat.ble k (4 + 11 * b)), Bool.and_eq_true, Bool.and_eq_true, Nat.ble_eq, Nat.ble_eq, beq_iff_eq, and_assoc]
theorem bX_i {f : Nat → Int32} {b n : Nat} {s : bt} : bX f (1 + 11 * b) n s ↔ f (1 + 11 * b) = am_i s.mi ∧ f (2 + 11 * b) = am_i s.ti ∧ f (3 + 11 * b) = am_i s.ro ∧ f (4 + 11 * b) = am_i s.su ∧ f (5 + 11 * b) = am_i s.pl ∧ ∀ k, k < n → f (6 + 11 * b + k) = am_i (s.sc k) := by
  unfold bX
  rw [show 1 + 11 * b + 1 = 2 + 11 * b by omega, show 1 + 11 * b + 2 = 3 + 11 * b by omega, show 1 + 11 * b + 3 = 4 + 11 * b by omega, show 1 + 11 * b + 4 = 5 + 11 * b by omega, show 1 + 11 * b + 5 = 6 + 11 * b by omega]
theorem m_bow (hm : st_Rm R) (hb6 : b < 6) (hX : cxM last wd nb nt wf fm I) (hO : bOK last n s) (hH : bX (I 103) (1 + 11 * b) n s) (hv : v < 8) (hu : u ≤ 9) : Wp (fun r M => ∃ I' J', r = none ∧ M = (I', J', R, 138) ∧ fr (mB b) I I' ∧ frJ J J' ∧ bX (I' 103) (1 + 11 * b) n (bwS last wf fm s v u)) (am_E (d + 5) 208 0 [(0, .ref 64), (1, .int (am_i b)), (2, .int (am_i v)), (3, .int (am_i u))] [] (I, J, R, 138)) := by
  obtain ⟨k1, k2, k3, k4, k5, k6, k7⟩ := hO
  obtain ⟨h1, h2, h3, h4, h5, h6⟩ := bX_i.mp hH
  have hl := hX.2.1
  have rb := rcS_b (wf := wf) (fm := fm) (s := s) (v := v) (u := u)
  have mb := miS_b (last := last) (wf := wf) (fm := fm) (s := s) (v := v) (u := u)
  have eb := enS_b (v := v) (ti := s.ti) (ro := s.ro) (mi := miS last wf fm s v u) (u := u) (wt := (miS last wf fm s v u : Int) - s.mi) (by omega) k2 k3 (by omega) hu (by omega) (by omega)
  have t3 := fun d (I : tI) (J : tJ) => e_mileOf (d := d) (I := I) (J := J) (b := (b : Int)) hm (by omega) (by omega)
  rw [Int.toNat_natCast] at t3
  have n1 : ((1 : Int) + 11 * (b : Int)).toNat = 1 + 11 * b := by omega
  have n4 : ((4 : Int) + 11 * (b : Int)).toNat = 4 + 11 * b := by omega
  /- behind the swamping -/
  have fin : ∀ I2 J2 su, fr (mB b) I I2 → frJ J J2 → enM I2 b true (enS v s.ti s.ro (miS last wf fm s v u) u ((miS last wf fm s v u : Int) - s.mi)) → I2 103 (3 + 11 * b) = am_i s.ro → I2 103 (4 + 11 * b) = am_i (su : Nat) → (bwS last wf fm s v u).su = su → Wp (fun r M => ∃ I' J', r = none ∧ M = (I', J', R, 138) ∧ fr (mB b) I I' ∧ frJ J J' ∧ bX (I' 103) (1 + 11 * b) n (bwS last wf fm s v u)) (am_E (d + 5) 208 124 [(0, .ref 64), (1, .int (am_i b))] [] (I2, J2, R, 138)) := by
    intro I2 J2 su f1 f2 f3 f4 f5 f6
    refine Wp_m (m_btail (d := d + 1) (ti := s.ti) hm hb6 (cxM_c (fun q k a1 a2 => f1 q k (mB_f.mpr (by omega))) hX) f3 eb rfl k2 k3 f4) ?_
    rintro _ _ ⟨I', J', rfl, rfl, g1, g2, g3, g4⟩
    refine ⟨I', J', rfl, rfl, fun q k h => ?_, frJ_t f2 g2, bX_i.mpr ⟨?_, g3, g4, ?_, ?_, fun k hk => ?_⟩⟩
    · have h' := mB_f.mp h
      rw [g1 q k (mT_f.mpr (by omega)), f1 q k h]
    · rw [g1 _ _ (mT_f.mpr (by omega))]
      exact f3.2.2.2.1
    · rw [g1 _ _ (mT_f.mpr (by omega)), f5, f6]
    · rw [g1 _ _ (mT_f.mpr (by omega)), f1 _ _ (mB_f.mpr (by omega))]
      exact h5
    · rw [g1 _ _ (mT_f.mpr (by omega)), f1 _ _ (mB_f.mpr (by omega))]
      exact h6 k hk
  rw [sg_X12_bow_0]
  simp (disch := first | assumption | omega) only [rM hm, ly_csm, ly_cam, ly_cf, ly_kd, ly_ln, ↓Bool.cond_decide, cond_true, cond_false, ↓bI_p, ↓bV_p, ↓bL_p, bIJ_s, bVJ_s, bLJ_s, ↓am_let_s, Nat.blt, Nat.ble, Bool.and_true, Bool.true_and, Bool.and_self, Int.cast_ofNat_Int, am_i_add, am_i_sub, am_i_mul, am_ok_i, am_i_cl, n_lt, n_le, n_eq, n_lt0, n_le0, n_0lt, n_0le, n_eq0, ne_eq, ↓reduceIte, not_true_eq_false, not_false_eq_true, and_true, true_and, and_false, false_and, eq_T, eq_F, lt_T, lt_F, le_T, le_F, qn_T, qn_F, and_F, b01_T, b01_F, e_isIn, Int32.toInt_toInt64, am_i_toInt, am_l_toInt, Int.toNat_natCast, Int.reduceToNat, Int.reduceAdd, Int.reduceSub, Int.reduceMul, Int.reduceNeg, Nat.reduceAdd, Nat.reduceMul, Nat.add_zero, Nat.mul_zero, Nat.zero_add, am_zb0, am_zb1, ↓bL_p, t3]
  refine Wp_I (m_carried (s := s) hm hb6 hX k1 k2 k3 h1 h2 h3 hv hu) ?_
  rintro _ _ ⟨I1, J1, rfl, rfl, hf1, hj1⟩
  refine ⟨_, rfl, ?_⟩
  have hX1 : cxM last wd nb nt wf fm I1 := cxM_c (fun q k a1 a2 => hf1 q k (mS_f.mpr (by omega))) hX
  have l1 : I1 93 3 = am_i last := hX1.1
  have g : ∀ q k, ¬ (q = 64 ∧ (k = 51 ∨ k = 54 ∨ k = 55 ∨ k = 56 ∨ k = 101)) → I1 q k = I q k := fun q k h => hf1 q k (mS_f.mpr h)
  have x2 : am_up (am_up (am_up (am_up I1 103 (1 + 11 * b) (am_i (miS last wf fm s v u))) 64 54 (am_i v)) 64 55 (am_i u)) 64 56 (am_i ((miS last wf fm s v u : Int) - s.mi)) = mbI I1 b (miS last wf fm s v u) s.mi v u := rfl
  have hfb : fr (mB b) I (mbI I1 b (miS last wf fm s v u) s.mi v u) := fun q k h => by
    have h' := mB_f.mp h
    rw [mbI_o (by omega) (by omega), g q k h'.1]
  have heb : enM (mbI I1 b (miS last wf fm s v u) s.mi v u) b true (enS v s.ti s.ro (miS last wf fm s v u) u ((miS last wf fm s v u : Int) - s.mi)) := mbI_e (by rw [g _ _ (by omega)]; exact h2) (by rw [g _ _ (by omega)]; exact h3)
  have r3 : mbI I1 b (miS last wf fm s v u) s.mi v u 103 (3 + 11 * b) = am_i s.ro := by
    rw [mbI_o (by omega) (by omega), g _ _ (by omega)]
    exact h3
  have r4 : mbI I1 b (miS last wf fm s v u) s.mi v u 103 (4 + 11 * b) = am_i s.su := by
    rw [mbI_o (by omega) (by omega), g _ _ (by omega)]
    exact h4
  have r1 : mbI I1 b (miS last wf fm s v u) s.mi v u 103 (1 + 11 * b) = am_i (miS last wf fm s v u) := heb.2.2.2.1
  have r93 : mbI I1 b (miS last wf fm s v u) s.mi v u 93 3 = am_i last := by
    rw [mbI_o (by omega) (by omega)]
    exact l1
  have mL := fun d (J : tJ) => e_mLanded (d := d) (J := J) (b := (b : Int)) (I := mbI I1 b (miS last wf fm s v u) s.mi v u) (v := miS last wf fm s v u) (w := last) hm (by omega) (by omega) (by rw [Int.toNat_natCast]; exact r1) r93 (by omega) hl
  have hXb : cxM last wd nb nt wf fm (mbI I1 b (miS last wf fm s v u) s.mi v u) := cxM_c (fun q k a1 a2 => mbI_o (by omega) (by omega)) hX1
  have vb := vl_ok (hX.2.2.2.2.2.2.2.2 2 (by decide)).2 eb
  have three : ((s.mi : Int) + rcS wf fm s v u < 0 ∧ am_i 0 = am_i (miS last wf fm s v u)) ∨ (0 ≤ (s.mi : Int) + rcS wf fm s v u ∧ (s.mi : Int) + rcS wf fm s v u ≤ last ∧ am_i ((s.mi : Int) + rcS wf fm s v u) = am_i (miS last wf fm s v u)) ∨ ((last : Int) < (s.mi : Int) + rcS wf fm s v u ∧ am_i last = am_i (miS last wf fm s v u)) := by
    by_cases c1 : (s.mi : Int) + rcS wf fm s v u < 0
    · refine Or.inl ⟨c1, ?_⟩
      rw [mb.1]
      unfold clZ
      rw [if_pos c1]
    · by_cases c2 : (last : Int) < (s.mi : Int) + rcS wf fm s v u
      · refine Or.inr (Or.inr ⟨c2, ?_⟩)
        rw [mb.1]
        unfold clZ
        rw [if_neg c1, if_pos c2]
      · refine Or.inr (Or.inl ⟨by omega, by omega, ?_⟩)
        rw [mb.1]
        unfold clZ
        rw [if_neg c1, if_neg c2]
  have su0 : ∀ p : Prop, (bwS last wf fm s v u).su = (if miS last wf fm s v u ≠ last ∧ vlS last wf fm s v u 2 = 1 then 1 else s.su) := fun _ => rfl
  have main : Wp (fun r M => ∃ I' J', r = none ∧ M = (I', J', R, 138) ∧ fr (mB b) I I' ∧ frJ J J' ∧ bX (I' 103) (1 + 11 * b) n (bwS last wf fm s v u)) (if I1 100 5 = am_i (-1) then am_E (d + 5) 208 124 [(0, .ref 64), (1, .int (am_i b))] [] (mbI I1 b (miS last wf fm s v u) s.mi v u, J1, R, 138) else bIJ (fun v4 M4 => (bif decide (v4 ≠ 0) then am_E (d + 5) 208 124 [(0, .ref 64), (1, .int (am_i b))] [] M4 else (bif am_cf M4.2.2.2 64 12 then am_bL (am_E (d + 4) 206 0 [(0, .ref 64), (1, .int (am_i 2)), (2, .int (am_i b))] [] M4) (fun v5 M5 => (bif decide ((lg_cmp v5 (am_l 1)) ≠ 0) then am_E (d + 5) 208 124 [(0, .ref 64), (1, .int (am_i b))] [] M5 else (bif am_cf M5.2.2.2 64 12 then (bif am_ca M5.2.2.2 (M5.2.2.1 64 52) 1 ((am_i 4) + ((am_i 11) * am_i b)) then (am_let (am_up M5.1 (M5.2.2.1 64 52) ((am_i 4) + ((am_i 11) * am_i b)).toNatClampNeg (am_i 1)) (fun I6 => am_E (d + 5) 208 124 [(0, .ref 64), (1, .int (am_i b))] [] (I6, M5.2.1, M5.2.2.1, M5.2.2.2))) else none) else none))) else none))) (am_E (d + 4) 204 0 [(0, .ref 64), (1, .int (am_i b))] [] (mbI I1 b (miS last wf fm s v u) s.mi v u, J1, R, 138))) := by
    rcases (hX1.2.2.2.2.2.2.2.2 2 (by decide)).1 with ⟨hn, hd⟩ | ⟨a, a1, a2, a3, a4⟩
    · have hn' : I1 100 5 = am_i (-1) := hn
      rw [if_pos hn']
      refine fin _ _ _ hfb hj1 heb r3 r4 ?_
      have : vlS last wf fm s v u 2 = 0 := by
        unfold vlS
        rw [hd]
        rfl
      rw [su0 True, if_neg (by rw [this]; omega)]
    · have a2' : I1 100 5 = am_i a := a2
      have a5 : ¬ I1 100 5 = am_i (-1) := by rw [a2', n_eq (by omega) (by omega) (by omega) (by omega)]; omega
      rw [if_neg a5]
      by_cases c : miS last wf fm s v u = last
      · simp (disch := first | assumption | omega) only [rM hm, ly_csm, ly_cam, ly_cf, ly_kd, ly_ln, ↓Bool.cond_decide, cond_true, cond_false, ↓bI_p, ↓bV_p, ↓bL_p, bIJ_s, bVJ_s, bLJ_s, ↓am_let_s, Nat.blt, Nat.ble, Bool.and_true, Bool.true_and, Bool.and_self, Int.cast_ofNat_Int, am_i_add, am_i_sub, am_i_mul, am_ok_i, am_i_cl, n_lt, n_le, n_eq, n_lt0, n_le0, n_0lt, n_0le, n_eq0, ne_eq, ↓reduceIte, not_true_eq_false, not_false_eq_true, and_true, true_and, and_false, false_and, eq_T, eq_F, lt_T, lt_F, le_T, le_F, qn_T, qn_F, and_F, b01_T, b01_F, e_isIn, Int32.toInt_toInt64, am_i_toInt, am_l_toInt, Int.toNat_natCast, Int.reduceToNat, Int.reduceAdd, Int.reduceSub, Int.reduceMul, Int.reduceNeg, Nat.reduceAdd, Nat.reduceMul, Nat.add_zero, Nat.mul_zero, Nat.zero_add, am_zb0, am_zb1, ↓bL_p, mL, b01_t c]
        refine fin _ _ _ hfb hj1 heb r3 r4 ?_
        rw [su0 True, if_neg (fun e => e.1 c)]
      · simp (disch := first | assumption | omega) only [rM hm, ly_csm, ly_cam, ly_cf, ly_kd, ly_ln, ↓Bool.cond_decide, cond_true, cond_false, ↓bI_p, ↓bV_p, ↓bL_p, bIJ_s, bVJ_s, bLJ_s, ↓am_let_s, Nat.blt, Nat.ble, Bool.and_true, Bool.true_and, Bool.and_self, Int.cast_ofNat_Int, am_i_add, am_i_sub, am_i_mul, am_ok_i, am_i_cl, n_lt, n_le, n_eq, n_lt0, n_le0, n_0lt, n_0le, n_eq0, ne_eq, ↓reduceIte, not_true_eq_false, not_false_eq_true, and_true, true_and, and_false, false_and, eq_T, eq_F, lt_T, lt_F, le_T, le_F, qn_T, qn_F, and_F, b01_T, b01_F, e_isIn, Int32.toInt_toInt64, am_i_toInt, am_l_toInt, Int.toNat_natCast, Int.reduceToNat, Int.reduceAdd, Int.reduceSub, Int.reduceMul, Int.reduceNeg, Nat.reduceAdd, Nat.reduceMul, Nat.add_zero, Nat.mul_zero, Nat.zero_add, am_zb0, am_zb1, ↓bL_p, mL, b01_f c]
        refine Wp_L (m_tell (f := 2) (en := enS v s.ti s.ro (miS last wf fm s v u) u ((miS last wf fm s v u : Int) - s.mi)) hm hb6 (by decide) hXb heb eb (by rw [mbI_o (by omega) (by omega)]; exact a5)) ?_
        rintro _ _ ⟨I3, J3, rfl, rfl, hf3, hj3⟩
        refine ⟨_, rfl, ?_⟩
        have g3 : ∀ q k, ¬ (q = 64 ∧ (k = 51 ∨ k = 101)) → I3 q k = mbI I1 b (miS last wf fm s v u) s.mi v u q k := fun q k h => hf3 q k (mS2_f.mpr h)
        by_cases c2 : vl (enS v s.ti s.ro (miS last wf fm s v u) u ((miS last wf fm s v u : Int) - s.mi)) e0 (fm 2) = 1
        · simp (disch := first | assumption | omega) only [rM hm, ly_csm, ly_cam, ly_cf, ly_kd, ly_ln, ↓Bool.cond_decide, cond_true, cond_false, ↓bI_p, ↓bV_p, ↓bL_p, bIJ_s, bVJ_s, bLJ_s, ↓am_let_s, Nat.blt, Nat.ble, Bool.and_true, Bool.true_and, Bool.and_self, Int.cast_ofNat_Int, am_i_add, am_i_sub, am_i_mul, am_ok_i, am_i_cl, n_lt, n_le, n_eq, n_lt0, n_le0, n_0lt, n_0le, n_eq0, ne_eq, ↓reduceIte, not_true_eq_false, not_false_eq_true, and_true, true_and, and_false, false_and, eq_T, eq_F, lt_T, lt_F, le_T, le_F, qn_T, qn_F, and_F, b01_T, b01_F, e_isIn, Int32.toInt_toInt64, am_i_toInt, am_l_toInt, Int.toNat_natCast, Int.reduceToNat, Int.reduceAdd, Int.reduceSub, Int.reduceMul, Int.reduceNeg, Nat.reduceAdd, Nat.reduceMul, Nat.add_zero, Nat.mul_zero, Nat.zero_add, am_zb0, am_zb1, lc_eq, n4]
          refine fin _ _ 1 (fun q k h => ?_) (frJ_t hj1 hj3) ⟨?_, ?_, ?_, ?_, ?_, fun _ => ?_⟩ ?_ am_up_e ?_
          · have h' := mB_f.mp h
            rw [am_up_o (by omega), g3 q k (by omega), hfb q k h]
          · rw [am_up_o (by omega), g3 _ _ (by omega)]; exact heb.1
          · rw [am_up_o (by omega), g3 _ _ (by omega)]; exact heb.2.1
          · rw [am_up_o (by omega), g3 _ _ (by omega)]; exact heb.2.2.1
          · rw [am_up_o (by omega), g3 _ _ (by omega)]; exact heb.2.2.2.1
          · rw [am_up_o (by omega), g3 _ _ (by omega)]; exact heb.2.2.2.2.1
          · rw [am_up_o (by omega), g3 _ _ (by omega)]; exact heb.2.2.2.2.2 rfl
          · rw [am_up_o (by omega), g3 _ _ (by omega)]; exact r3
          · rw [su0 True, if_pos ⟨c, c2⟩]
        · simp (disch := first | assumption | omega) only [rM hm, ly_csm, ly_cam, ly_cf, ly_kd, ly_ln, ↓Bool.cond_decide, cond_true, cond_false, ↓bI_p, ↓bV_p, ↓bL_p, bIJ_s, bVJ_s, bLJ_s, ↓am_let_s, Nat.blt, Nat.ble, Bool.and_true, Bool.true_and, Bool.and_self, Int.cast_ofNat_Int, am_i_add, am_i_sub, am_i_mul, am_ok_i, am_i_cl, n_lt, n_le, n_eq, n_lt0, n_le0, n_0lt, n_0le, n_eq0, ne_eq, ↓reduceIte, not_true_eq_false, not_false_eq_true, and_true, true_and, and_false, false_and, eq_T, eq_F, lt_T, lt_F, le_T, le_F, qn_T, qn_F, and_F, b01_T, b01_F, e_isIn, Int32.toInt_toInt64, am_i_toInt, am_l_toInt, Int.toNat_natCast, Int.reduceToNat, Int.reduceAdd, Int.reduceSub, Int.reduceMul, Int.reduceNeg, Nat.reduceAdd, Nat.reduceMul, Nat.add_zero, Nat.mul_zero, Nat.zero_add, am_zb0, am_zb1, lc_eq, n4]
          refine fin _ _ s.su (fun q k h => ?_) (frJ_t hj1 hj3) ⟨?_, ?_, ?_, ?_, ?_, fun _ => ?_⟩ ?_ ?_ ?_
          · have h' := mB_f.mp h
            rw [g3 q k (by omega), hfb q k h]
          · rw [g3 _ _ (by omega)]; exact heb.1
          · rw [g3 _ _ (by omega)]; exact heb.2.1
          · rw [g3 _ _ (by omega)]; exact heb.2.2.1
          · rw [g3 _ _ (by omega)]; exact heb.2.2.2.1
          · rw [g3 _ _ (by omega)]; exact heb.2.2.2.2.1
          · rw [g3 _ _ (by omega)]; exact heb.2.2.2.2.2 rfl
          · rw [g3 _ _ (by omega)]; exact r3
          · rw [g3 _ _ (by omega)]; exact r4
          · rw [su0 True, if_neg (fun e => c2 e.2)]
  rcases three with ⟨c, z⟩ | ⟨c, c', z⟩ | ⟨c, z⟩
  · simp (disch := first | assumption | omega) only [rM hm, ly_csm, ly_cam, ly_cf, ly_kd, ly_ln, ↓Bool.cond_decide, cond_true, cond_false, ↓bI_p, ↓bV_p, ↓bL_p, bIJ_s, bVJ_s, bLJ_s, ↓am_let_s, Nat.blt, Nat.ble, Bool.and_true, Bool.true_and, Bool.and_self, Int.cast_ofNat_Int, am_i_add, am_i_sub, am_i_mul, am_ok_i, am_i_cl, n_lt, n_le, n_eq, n_lt0, n_le0, n_0lt, n_0le, n_eq0, ne_eq, ↓reduceIte, not_true_eq_false, not_false_eq_true, and_true, true_and, and_false, false_and, eq_T, eq_F, lt_T, lt_F, le_T, le_F, qn_T, qn_F, and_F, b01_T, b01_F, e_isIn, Int32.toInt_toInt64, am_i_toInt, am_l_toInt, Int.toNat_natCast, Int.reduceToNat, Int.reduceAdd, Int.reduceSub, Int.reduceMul, Int.reduceNeg, Nat.reduceAdd, Nat.reduceMul, Nat.add_zero, Nat.mul_zero, Nat.zero_add, am_zb0, am_zb1, ↓bL_p, h1, l1, n1, t3, z, am_up_o, am_up_e, x2, mbI_o]
    exact main
  · simp (disch := first | assumption | omega) only [rM hm, ly_csm, ly_cam, ly_cf, ly_kd, ly_ln, ↓Bool.cond_decide, cond_true, cond_false, ↓bI_p, ↓bV_p, ↓bL_p, bIJ_s, bVJ_s, bLJ_s, ↓am_let_s, Nat.blt, Nat.ble, Bool.and_true, Bool.true_and, Bool.and_self, Int.cast_ofNat_Int, am_i_add, am_i_sub, am_i_mul, am_ok_i, am_i_cl, n_lt, n_le, n_eq, n_lt0, n_le0, n_0lt, n_0le, n_eq0, ne_eq, ↓reduceIte, not_true_eq_false, not_false_eq_true, and_true, true_and, and_false, false_and, eq_T, eq_F, lt_T, lt_F, le_T, le_F, qn_T, qn_F, and_F, b01_T, b01_F, e_isIn, Int32.toInt_toInt64, am_i_toInt, am_l_toInt, Int.toNat_natCast, Int.reduceToNat, Int.reduceAdd, Int.reduceSub, Int.reduceMul, Int.reduceNeg, Nat.reduceAdd, Nat.reduceMul, Nat.add_zero, Nat.mul_zero, Nat.zero_add, am_zb0, am_zb1, ↓bL_p, h1, l1, n1, t3, z, am_up_o, am_up_e, x2, mbI_o]
    exact main
  · simp (disch := first | assumption | omega) only [rM hm, ly_csm, ly_cam, ly_cf, ly_kd, ly_ln, ↓Bool.cond_decide, cond_true, cond_false, ↓bI_p, ↓bV_p, ↓bL_p, bIJ_s, bVJ_s, bLJ_s, ↓am_let_s, Nat.blt, Nat.ble, Bool.and_true, Bool.true_and, Bool.and_self, Int.cast_ofNat_Int, am_i_add, am_i_sub, am_i_mul, am_ok_i, am_i_cl, n_lt, n_le, n_eq, n_lt0, n_le0, n_0lt, n_0le, n_eq0, ne_eq, ↓reduceIte, not_true_eq_false, not_false_eq_true, and_true, true_and, and_false, false_and, eq_T, eq_F, lt_T, lt_F, le_T, le_F, qn_T, qn_F, and_F, b01_T, b01_F, e_isIn, Int32.toInt_toInt64, am_i_toInt, am_l_toInt, Int.toNat_natCast, Int.reduceToNat, Int.reduceAdd, Int.reduceSub, Int.reduceMul, Int.reduceNeg, Nat.reduceAdd, Nat.reduceMul, Nat.add_zero, Nat.mul_zero, Nat.zero_add, am_zb0, am_zb1, ↓bL_p, h1, l1, n1, t3, z, am_up_o, am_up_e, x2, mbI_o]
    exact main
end MBOW
