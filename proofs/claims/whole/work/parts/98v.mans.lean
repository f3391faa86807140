/-! ===== the reference's answer to a question ===== -/
section MANS
variable {d : Nat} {I : tI} {J : tJ} {R : tR} {b last wd nb n h u : Nat} {nt wf : Nat → Nat} {fm : Nat → List tok} {s : bt} {l : List tok} {bb : Bool}
theorem q_part (hm : st_Rm R) (hb6 : b < 6) (h51 : I 64 51 = am_i 2) (h55 : I 64 55 = am_i u) (hu : u ≤ 9) (hn : I 96 (27 + 4 * b) = am_i n) (hn6 : n ≤ 6) (hO : bOK last n s) (hl : last ≤ 60) (hH : bX (I 103) (1 + 11 * b) n s) (h0 : I 103 0 = am_i h) (hh : h ≤ 999) {w : Nat} (hw : wdOK true false w) : am_E (d + 3) 282 0 [(0, .ref 64), (1, .int (am_i (wnoM w))), (2, .int (am_i b))] [] (I, J, R, 138) = some (some (.long (am_l (enQ n b h u s w))), (I, J, R, 138)) := by
  have eb := enQ_b (b := b) (h := h) (u := u) hO hl hb6 hh hu
  obtain ⟨h1, h2, h3, h4, h5, h6⟩ := bX_i.mp hH
  obtain ⟨o1, o2, o3, o4, o5, o6, o7⟩ := hO
  have t1 := fun d => e_tightOf (d := d) (I := I) (J := J) (b := (b : Int)) hm (by omega) (by omega)
  have t2 := fun d => e_rosinOf (d := d) (I := I) (J := J) (b := (b : Int)) hm (by omega) (by omega)
  have t3 := fun d => e_mileOf (d := d) (I := I) (J := J) (b := (b : Int)) hm (by omega) (by omega)
  have t4 := fun d => e_noteMany (d := d) (I := I) (J := J) (b := (b : Int)) hm (by omega) (by omega)
  have t5 := fun d => e_placeOf (d := d) (I := I) (J := J) (b := (b : Int)) hm (by omega) (by omega)
  have t7 := fun d => e_isSunk (d := d) (I := I) (J := J) (b := (b : Int)) (v := s.su) hm (by omega) (by omega) (by rw [Int.toNat_natCast]; exact h4) o4
  rw [Int.toNat_natCast] at t1 t2 t3 t4 t5
  have nx : ∀ d, am_E (d + 2) 203 0 [(0, .ref 64), (1, .int (am_i b))] [] (I, J, R, 138) = some (some (.int (am_i (if n = 0 then -1 else (s.sc s.pl : Int)))), (I, J, R, 138)) := fun d => by
    rw [sg_X12_nextOf_0]
    by_cases q : n = 0
    · subst q
      have hn' : I 96 (27 + 4 * b) = am_i 0 := hn
      rw [if_pos rfl]
      simp (disch := first | assumption | omega) only [rM hm, ly_csm, ly_cam, ly_cf, ly_kd, ly_ln, ↓Bool.cond_decide, cond_true, cond_false, ↓bI_p, ↓bV_p, ↓bL_p, bIJ_s, bVJ_s, bLJ_s, ↓am_let_s, Nat.blt, Nat.ble, Bool.and_true, Bool.true_and, Bool.and_self, Int.cast_ofNat_Int, am_i_add, am_i_sub, am_i_mul, am_ok_i, am_i_cl, n_lt, n_le, n_eq, n_lt0, n_le0, n_0lt, n_0le, n_eq0, ne_eq, ↓reduceIte, not_true_eq_false, not_false_eq_true, and_true, true_and, and_false, false_and, eq_T, eq_F, lt_T, lt_F, le_T, le_F, qn_T, qn_F, and_F, b01_T, b01_F, e_isIn, Int32.toInt_toInt64, am_i_toInt, am_l_toInt, Int.toNat_natCast, Int.reduceToNat, Int.reduceAdd, Int.reduceSub, Int.reduceMul, Int.reduceNeg, Nat.reduceAdd, Nat.reduceMul, Nat.add_zero, Nat.mul_zero, Nat.zero_add, am_zb0, am_zb1, t4, hn']
    · have pn : s.pl < n := by omega
      have t6 := fun d => e_noteOf (d := d) (I := I) (J := J) (b := (b : Int)) (k := (s.pl : Int)) hm (by omega) (by omega) (by omega) (by omega)
      rw [Int.toNat_natCast, Int.toNat_natCast] at t6
      have h6' := h6 s.pl pn
      rw [if_neg q]
      simp (disch := first | assumption | omega) only [rM hm, ly_csm, ly_cam, ly_cf, ly_kd, ly_ln, ↓Bool.cond_decide, cond_true, cond_false, ↓bI_p, ↓bV_p, ↓bL_p, bIJ_s, bVJ_s, bLJ_s, ↓am_let_s, Nat.blt, Nat.ble, Bool.and_true, Bool.true_and, Bool.and_self, Int.cast_ofNat_Int, am_i_add, am_i_sub, am_i_mul, am_ok_i, am_i_cl, n_lt, n_le, n_eq, n_lt0, n_le0, n_0lt, n_0le, n_eq0, ne_eq, ↓reduceIte, not_true_eq_false, not_false_eq_true, and_true, true_and, and_false, false_and, eq_T, eq_F, lt_T, lt_F, le_T, le_F, qn_T, qn_F, and_F, b01_T, b01_F, e_isIn, Int32.toInt_toInt64, am_i_toInt, am_l_toInt, Int.toNat_natCast, Int.reduceToNat, Int.reduceAdd, Int.reduceSub, Int.reduceMul, Int.reduceNeg, Nat.reduceAdd, Nat.reduceMul, Nat.add_zero, Nat.mul_zero, Nat.zero_add, am_zb0, am_zb1, t4, hn, t5, h5, t6, h6']
  have e14 := eb 14
  rw [sg_X12_qPartOf_0]
  rcases hw with q | q | q | q | q | ⟨q0, q⟩ | ⟨q0, q⟩
  · obtain rfl : w = 14 := q
    have e14' : -1000000 ≤ (if n = 0 then -1 else (s.sc s.pl : Int)) ∧ (if n = 0 then -1 else (s.sc s.pl : Int)) ≤ 1000000 := e14
    have ee : enQ n b h u s 14 = (if n = 0 then -1 else (s.sc s.pl : Int)) := rfl
    rw [ee]
    generalize (if n = 0 then -1 else (s.sc s.pl : Int)) = x at *
    simp (disch := first | assumption | omega) only [rM hm, ly_csm, ly_cam, ly_cf, ly_kd, ly_ln, ↓Bool.cond_decide, cond_true, cond_false, ↓bI_p, ↓bV_p, ↓bL_p, bIJ_s, bVJ_s, bLJ_s, ↓am_let_s, Nat.blt, Nat.ble, Bool.and_true, Bool.true_and, Bool.and_self, Int.cast_ofNat_Int, am_i_add, am_i_sub, am_i_mul, am_ok_i, am_i_cl, n_lt, n_le, n_eq, n_lt0, n_le0, n_0lt, n_0le, n_eq0, ne_eq, ↓reduceIte, not_true_eq_false, not_false_eq_true, and_true, true_and, and_false, false_and, eq_T, eq_F, lt_T, lt_F, le_T, le_F, qn_T, qn_F, and_F, b01_T, b01_F, e_isIn, Int32.toInt_toInt64, am_i_toInt, am_l_toInt, Int.toNat_natCast, Int.reduceToNat, Int.reduceAdd, Int.reduceSub, Int.reduceMul, Int.reduceNeg, Nat.reduceAdd, Nat.reduceMul, Nat.add_zero, Nat.mul_zero, Nat.zero_add, am_zb0, am_zb1, wnoM, h51, nx, i_tol]
  · obtain rfl : w = 3 := q
    have ee : enQ n b h u s 3 = s.ti := rfl
    rw [ee]
    simp (disch := first | assumption | omega) only [rM hm, ly_csm, ly_cam, ly_cf, ly_kd, ly_ln, ↓Bool.cond_decide, cond_true, cond_false, ↓bI_p, ↓bV_p, ↓bL_p, bIJ_s, bVJ_s, bLJ_s, ↓am_let_s, Nat.blt, Nat.ble, Bool.and_true, Bool.true_and, Bool.and_self, Int.cast_ofNat_Int, am_i_add, am_i_sub, am_i_mul, am_ok_i, am_i_cl, n_lt, n_le, n_eq, n_lt0, n_le0, n_0lt, n_0le, n_eq0, ne_eq, ↓reduceIte, not_true_eq_false, not_false_eq_true, and_true, true_and, and_false, false_and, eq_T, eq_F, lt_T, lt_F, le_T, le_F, qn_T, qn_F, and_F, b01_T, b01_F, e_isIn, Int32.toInt_toInt64, am_i_toInt, am_l_toInt, Int.toNat_natCast, Int.reduceToNat, Int.reduceAdd, Int.reduceSub, Int.reduceMul, Int.reduceNeg, Nat.reduceAdd, Nat.reduceMul, Nat.add_zero, Nat.mul_zero, Nat.zero_add, am_zb0, am_zb1, wnoM, t1, h2, i_tol]
  · obtain rfl : w = 4 := q
    have ee : enQ n b h u s 4 = s.ro := rfl
    rw [ee]
    simp (disch := first | assumption | omega) only [rM hm, ly_csm, ly_cam, ly_cf, ly_kd, ly_ln, ↓Bool.cond_decide, cond_true, cond_false, ↓bI_p, ↓bV_p, ↓bL_p, bIJ_s, bVJ_s, bLJ_s, ↓am_let_s, Nat.blt, Nat.ble, Bool.and_true, Bool.true_and, Bool.and_self, Int.cast_ofNat_Int, am_i_add, am_i_sub, am_i_mul, am_ok_i, am_i_cl, n_lt, n_le, n_eq, n_lt0, n_le0, n_0lt, n_0le, n_eq0, ne_eq, ↓reduceIte, not_true_eq_false, not_false_eq_true, and_true, true_and, and_false, false_and, eq_T, eq_F, lt_T, lt_F, le_T, le_F, qn_T, qn_F, and_F, b01_T, b01_F, e_isIn, Int32.toInt_toInt64, am_i_toInt, am_l_toInt, Int.toNat_natCast, Int.reduceToNat, Int.reduceAdd, Int.reduceSub, Int.reduceMul, Int.reduceNeg, Nat.reduceAdd, Nat.reduceMul, Nat.add_zero, Nat.mul_zero, Nat.zero_add, am_zb0, am_zb1, wnoM, t2, h3, i_tol]
  · obtain rfl : w = 15 := q
    have ee : enQ n b h u s 15 = s.mi := rfl
    rw [ee]
    simp (disch := first | assumption | omega) only [rM hm, ly_csm, ly_cam, ly_cf, ly_kd, ly_ln, ↓Bool.cond_decide, cond_true, cond_false, ↓bI_p, ↓bV_p, ↓bL_p, bIJ_s, bVJ_s, bLJ_s, ↓am_let_s, Nat.blt, Nat.ble, Bool.and_true, Bool.true_and, Bool.and_self, Int.cast_ofNat_Int, am_i_add, am_i_sub, am_i_mul, am_ok_i, am_i_cl, n_lt, n_le, n_eq, n_lt0, n_le0, n_0lt, n_0le, n_eq0, ne_eq, ↓reduceIte, not_true_eq_false, not_false_eq_true, and_true, true_and, and_false, false_and, eq_T, eq_F, lt_T, lt_F, le_T, le_F, qn_T, qn_F, and_F, b01_T, b01_F, e_isIn, Int32.toInt_toInt64, am_i_toInt, am_l_toInt, Int.toNat_natCast, Int.reduceToNat, Int.reduceAdd, Int.reduceSub, Int.reduceMul, Int.reduceNeg, Nat.reduceAdd, Nat.reduceMul, Nat.add_zero, Nat.mul_zero, Nat.zero_add, am_zb0, am_zb1, wnoM, t3, h1, i_tol]
  · obtain rfl : w = 12 := q
    have ee : enQ n b h u s 12 = u := rfl
    rw [ee]
    simp (disch := first | assumption | omega) only [rM hm, ly_csm, ly_cam, ly_cf, ly_kd, ly_ln, ↓Bool.cond_decide, cond_true, cond_false, ↓bI_p, ↓bV_p, ↓bL_p, bIJ_s, bVJ_s, bLJ_s, ↓am_let_s, Nat.blt, Nat.ble, Bool.and_true, Bool.true_and, Bool.and_self, Int.cast_ofNat_Int, am_i_add, am_i_sub, am_i_mul, am_ok_i, am_i_cl, n_lt, n_le, n_eq, n_lt0, n_le0, n_0lt, n_0le, n_eq0, ne_eq, ↓reduceIte, not_true_eq_false, not_false_eq_true, and_true, true_and, and_false, false_and, eq_T, eq_F, lt_T, lt_F, le_T, le_F, qn_T, qn_F, and_F, b01_T, b01_F, e_isIn, Int32.toInt_toInt64, am_i_toInt, am_l_toInt, Int.toNat_natCast, Int.reduceToNat, Int.reduceAdd, Int.reduceSub, Int.reduceMul, Int.reduceNeg, Nat.reduceAdd, Nat.reduceMul, Nat.add_zero, Nat.mul_zero, Nat.zero_add, am_zb0, am_zb1, wnoM, h55, i_tol]
  · cases q0
  · have q' : w = 17 ∨ w = 18 ∨ w = 19 := q
    rcases q' with rfl | rfl | rfl
    · have ee : enQ n b h u s 17 = b := rfl
      rw [ee]
      simp (disch := first | assumption | omega) only [rM hm, ly_csm, ly_cam, ly_cf, ly_kd, ly_ln, ↓Bool.cond_decide, cond_true, cond_false, ↓bI_p, ↓bV_p, ↓bL_p, bIJ_s, bVJ_s, bLJ_s, ↓am_let_s, Nat.blt, Nat.ble, Bool.and_true, Bool.true_and, Bool.and_self, Int.cast_ofNat_Int, am_i_add, am_i_sub, am_i_mul, am_ok_i, am_i_cl, n_lt, n_le, n_eq, n_lt0, n_le0, n_0lt, n_0le, n_eq0, ne_eq, ↓reduceIte, not_true_eq_false, not_false_eq_true, and_true, true_and, and_false, false_and, eq_T, eq_F, lt_T, lt_F, le_T, le_F, qn_T, qn_F, and_F, b01_T, b01_F, e_isIn, Int32.toInt_toInt64, am_i_toInt, am_l_toInt, Int.toNat_natCast, Int.reduceToNat, Int.reduceAdd, Int.reduceSub, Int.reduceMul, Int.reduceNeg, Nat.reduceAdd, Nat.reduceMul, Nat.add_zero, Nat.mul_zero, Nat.zero_add, am_zb0, am_zb1, wnoM, i_tol]
    · have ee : enQ n b h u s 18 = s.su := rfl
      rw [ee]
      have o4' : s.su = 0 ∨ s.su = 1 := by omega
      rcases o4' with c | c
      · rw [c] at t7 ⊢
        have t7' : ∀ d, am_E (d + 1) 198 0 [(0, .ref 64), (1, .int (am_i b))] [] (I, J, R, 138) = some (some (.int (am_i 0)), (I, J, R, 138)) := t7
        simp (disch := first | assumption | omega) only [rM hm, ly_csm, ly_cam, ly_cf, ly_kd, ly_ln, ↓Bool.cond_decide, cond_true, cond_false, ↓bI_p, ↓bV_p, ↓bL_p, bIJ_s, bVJ_s, bLJ_s, ↓am_let_s, Nat.blt, Nat.ble, Bool.and_true, Bool.true_and, Bool.and_self, Int.cast_ofNat_Int, am_i_add, am_i_sub, am_i_mul, am_ok_i, am_i_cl, n_lt, n_le, n_eq, n_lt0, n_le0, n_0lt, n_0le, n_eq0, ne_eq, ↓reduceIte, not_true_eq_false, not_false_eq_true, and_true, true_and, and_false, false_and, eq_T, eq_F, lt_T, lt_F, le_T, le_F, qn_T, qn_F, and_F, b01_T, b01_F, e_isIn, Int32.toInt_toInt64, am_i_toInt, am_l_toInt, Int.toNat_natCast, Int.reduceToNat, Int.reduceAdd, Int.reduceSub, Int.reduceMul, Int.reduceNeg, Nat.reduceAdd, Nat.reduceMul, Nat.add_zero, Nat.mul_zero, Nat.zero_add, am_zb0, am_zb1, wnoM, t7']
      · rw [c] at t7 ⊢
        have t7' : ∀ d, am_E (d + 1) 198 0 [(0, .ref 64), (1, .int (am_i b))] [] (I, J, R, 138) = some (some (.int (am_i 1)), (I, J, R, 138)) := t7
        simp (disch := first | assumption | omega) only [rM hm, ly_csm, ly_cam, ly_cf, ly_kd, ly_ln, ↓Bool.cond_decide, cond_true, cond_false, ↓bI_p, ↓bV_p, ↓bL_p, bIJ_s, bVJ_s, bLJ_s, ↓am_let_s, Nat.blt, Nat.ble, Bool.and_true, Bool.true_and, Bool.and_self, Int.cast_ofNat_Int, am_i_add, am_i_sub, am_i_mul, am_ok_i, am_i_cl, n_lt, n_le, n_eq, n_lt0, n_le0, n_0lt, n_0le, n_eq0, ne_eq, ↓reduceIte, not_true_eq_false, not_false_eq_true, and_true, true_and, and_false, false_and, eq_T, eq_F, lt_T, lt_F, le_T, le_F, qn_T, qn_F, and_F, b01_T, b01_F, e_isIn, Int32.toInt_toInt64, am_i_toInt, am_l_toInt, Int.toNat_natCast, Int.reduceToNat, Int.reduceAdd, Int.reduceSub, Int.reduceMul, Int.reduceNeg, Nat.reduceAdd, Nat.reduceMul, Nat.add_zero, Nat.mul_zero, Nat.zero_add, am_zb0, am_zb1, wnoM, t7']
    · have ee : enQ n b h u s 19 = h := rfl
      rw [ee]
      simp (disch := first | assumption | omega) only [rM hm, ly_csm, ly_cam, ly_cf, ly_kd, ly_ln, ↓Bool.cond_decide, cond_true, cond_false, ↓bI_p, ↓bV_p, ↓bL_p, bIJ_s, bVJ_s, bLJ_s, ↓am_let_s, Nat.blt, Nat.ble, Bool.and_true, Bool.true_and, Bool.and_self, Int.cast_ofNat_Int, am_i_add, am_i_sub, am_i_mul, am_ok_i, am_i_cl, n_lt, n_le, n_eq, n_lt0, n_le0, n_0lt, n_0le, n_eq0, ne_eq, ↓reduceIte, not_true_eq_false, not_false_eq_true, and_true, true_and, and_false, false_and, eq_T, eq_F, lt_T, lt_F, le_T, le_F, qn_T, qn_F, and_F, b01_T, b01_F, e_isIn, Int32.toInt_toInt64, am_i_toInt, am_l_toInt, Int.toNat_natCast, Int.reduceToNat, Int.reduceAdd, Int.reduceSub, Int.reduceMul, Int.reduceNeg, Nat.reduceAdd, Nat.reduceMul, Nat.add_zero, Nat.mul_zero, Nat.zero_add, am_zb0, am_zb1, wnoM, h0, i_tol]
theorem q_of (hm : st_Rm R) (hb6 : b < 6) (hn : I 96 (27 + 4 * b) = am_i n) (hn6 : n ≤ 6) (hO : bOK last n s) (hH : bX (I 103) (1 + 11 * b) n s) (hC : ∀ j, j < 8 → I 105 (8 * b + j) = am_i (rcS wf fm s j u)) {w : Nat} {v : Int} (hw : w = 9 ∨ w = 5) (v1 : -1000000 ≤ v) (v2 : v ≤ 1000000) : am_E (d + 3) 283 0 [(0, .ref 64), (1, .int (am_i (if w = 9 then 0 else 1))), (2, .long (am_l v)), (4, .int (am_i b))] [] (I, J, R, 138) = some (some (.long (am_l (e1Q n u wf fm s w v))), (I, J, R, 138)) := by
  rw [sg_X12_qOf_0]
  unfold e1Q
  rcases hw with rfl | rfl
  · rw [if_pos rfl, if_pos rfl]
    by_cases q : 0 ≤ v ∧ v < 8
    · obtain ⟨m, rfl⟩ : ∃ m : Nat, v = m := ⟨v.toNat, by omega⟩
      rw [if_pos q, Int.toNat_natCast]
      have hc := hC m (by omega)
      have rb := rcS_b (wf := wf) (fm := fm) (s := s) (v := m) (u := u)
      have q' : (0 : Int) ≤ (m : Int) ∧ (m : Int) ≤ 7 := by omega
      have en : (8 * (b : Int) + (m : Int)).toNat = 8 * b + m := by omega
      simp (disch := first | assumption | omega) only [rM hm, ly_csm, ly_cam, ly_cf, ly_kd, ly_ln, ↓Bool.cond_decide, cond_true, cond_false, ↓bI_p, ↓bV_p, ↓bL_p, bIJ_s, bVJ_s, bLJ_s, ↓am_let_s, Nat.blt, Nat.ble, Bool.and_true, Bool.true_and, Bool.and_self, Int.cast_ofNat_Int, am_i_add, am_i_sub, am_i_mul, am_ok_i, am_i_cl, n_lt, n_le, n_eq, n_lt0, n_le0, n_0lt, n_0le, n_eq0, ne_eq, ↓reduceIte, not_true_eq_false, not_false_eq_true, and_true, true_and, and_false, false_and, eq_T, eq_F, lt_T, lt_F, le_T, le_F, qn_T, qn_F, and_F, b01_T, b01_F, e_isIn, Int32.toInt_toInt64, am_i_toInt, am_l_toInt, Int.toNat_natCast, Int.reduceToNat, Int.reduceAdd, Int.reduceSub, Int.reduceMul, Int.reduceNeg, Nat.reduceAdd, Nat.reduceMul, Nat.add_zero, Nat.mul_zero, Nat.zero_add, am_zb0, am_zb1, l_toi, en, hc, i_tol, if_pos q']
    · rw [if_neg q]
      have q' : ¬ (0 ≤ v ∧ v ≤ 7) := by omega
      simp (disch := first | assumption | omega) only [rM hm, ly_csm, ly_cam, ly_cf, ly_kd, ly_ln, ↓Bool.cond_decide, cond_true, cond_false, ↓bI_p, ↓bV_p, ↓bL_p, bIJ_s, bVJ_s, bLJ_s, ↓am_let_s, Nat.blt, Nat.ble, Bool.and_true, Bool.true_and, Bool.and_self, Int.cast_ofNat_Int, am_i_add, am_i_sub, am_i_mul, am_ok_i, am_i_cl, n_lt, n_le, n_eq, n_lt0, n_le0, n_0lt, n_0le, n_eq0, ne_eq, ↓reduceIte, not_true_eq_false, not_false_eq_true, and_true, true_and, and_false, false_and, eq_T, eq_F, lt_T, lt_F, le_T, le_F, qn_T, qn_F, and_F, b01_T, b01_F, e_isIn, Int32.toInt_toInt64, am_i_toInt, am_l_toInt, Int.toNat_natCast, Int.reduceToNat, Int.reduceAdd, Int.reduceSub, Int.reduceMul, Int.reduceNeg, Nat.reduceAdd, Nat.reduceMul, Nat.add_zero, Nat.mul_zero, Nat.zero_add, am_zb0, am_zb1, if_neg q']
  · rw [if_neg (by decide), if_neg (by decide)]
    have mp := fun d => e_misPlace (d := d) (I := I) (J := J) (b := (b : Int)) (k := v) (n := n) hm (by omega) (by omega) (by rw [Int.toNat_natCast]; exact hn) hn6 (by omega) (by omega)
    rw [i_tol (by omega) (by omega)] at mp
    by_cases q : 0 ≤ v ∧ v < n
    · obtain ⟨m, rfl⟩ : ∃ m : Nat, v = m := ⟨v.toNat, by omega⟩
      have t6 := fun d => e_noteOf (d := d) (I := I) (J := J) (b := (b : Int)) (k := (m : Int)) hm (by omega) (by omega) (by omega) (by omega)
      rw [Int.toNat_natCast, Int.toNat_natCast] at t6
      obtain ⟨h1, h2, h3, h4, h5, h6⟩ := bX_i.mp hH
      have h6' := h6 m (by omega)
      have o7 := hO.2.2.2.2.2.2 m (by omega)
      rw [if_pos q, Int.toNat_natCast]
      simp (disch := first | assumption | omega) only [rM hm, ly_csm, ly_cam, ly_cf, ly_kd, ly_ln, ↓Bool.cond_decide, cond_true, cond_false, ↓bI_p, ↓bV_p, ↓bL_p, bIJ_s, bVJ_s, bLJ_s, ↓am_let_s, Nat.blt, Nat.ble, Bool.and_true, Bool.true_and, Bool.and_self, Int.cast_ofNat_Int, am_i_add, am_i_sub, am_i_mul, am_ok_i, am_i_cl, n_lt, n_le, n_eq, n_lt0, n_le0, n_0lt, n_0le, n_eq0, ne_eq, ↓reduceIte, not_true_eq_false, not_false_eq_true, and_true, true_and, and_false, false_and, eq_T, eq_F, lt_T, lt_F, le_T, le_F, qn_T, qn_F, and_F, b01_T, b01_F, e_isIn, Int32.toInt_toInt64, am_i_toInt, am_l_toInt, Int.toNat_natCast, Int.reduceToNat, Int.reduceAdd, Int.reduceSub, Int.reduceMul, Int.reduceNeg, Nat.reduceAdd, Nat.reduceMul, Nat.add_zero, Nat.mul_zero, Nat.zero_add, am_zb0, am_zb1, mp, b01_t q, l_toi, t6, h6', i_tol]
    · rw [if_neg q]
      simp (disch := first | assumption | omega) only [rM hm, ly_csm, ly_cam, ly_cf, ly_kd, ly_ln, ↓Bool.cond_decide, cond_true, cond_false, ↓bI_p, ↓bV_p, ↓bL_p, bIJ_s, bVJ_s, bLJ_s, ↓am_let_s, Nat.blt, Nat.ble, Bool.and_true, Bool.true_and, Bool.and_self, Int.cast_ofNat_Int, am_i_add, am_i_sub, am_i_mul, am_ok_i, am_i_cl, n_lt, n_le, n_eq, n_lt0, n_le0, n_0lt, n_0le, n_eq0, ne_eq, ↓reduceIte, not_true_eq_false, not_false_eq_true, and_true, true_and, and_false, false_and, eq_T, eq_F, lt_T, lt_F, le_T, le_F, qn_T, qn_F, and_F, b01_T, b01_F, e_isIn, Int32.toInt_toInt64, am_i_toInt, am_l_toInt, Int.toNat_natCast, Int.reduceToNat, Int.reduceAdd, Int.reduceSub, Int.reduceMul, Int.reduceNeg, Nat.reduceAdd, Nat.reduceMul, Nat.add_zero, Nat.mul_zero, Nat.zero_add, am_zb0, am_zb1, mp, b01_f q]
/-- a question's value for a boat -/
theorem q_told (hm : st_Rm R) (hb6 : b < 6) (h51 : I 64 51 = am_i 2) (h55 : I 64 55 = am_i u) (hu : u ≤ 9) (hn : I 96 (27 + 4 * b) = am_i n) (hn6 : n ≤ 6) (hO : bOK last n s) (hl : last ≤ 60) (hH : bX (I 103) (1 + 11 * b) n s) (h0 : I 103 0 = am_i h) (hh : h ≤ 999) (hC : ∀ j, j < 8 → I 105 (8 * b + j) = am_i (rcS wf fm s j u)) (h95 : I 64 95 = am_i l.length) (hl6 : l.length ≤ 1600) (hL : ∀ k t, l[k]? = some t → I 134 k = am_i (encM t)) (hOK : tokOK [] l = some [bb]) (hW : ∀ t ∈ l, tokW true false t) : ∃ I' J', am_E (d + 4) 284 0 [(0, .ref 64), (1, .int (am_i b))] [] (I, J, R, 138) = some (some (.long (am_l (vl (enQ n b h u s) (e1Q n u wf fm s) l))), (I', J', R, 138)) ∧ vOK bb (vl (enQ n b h u s) (e1Q n u wf fm s) l) ∧ fr mS1 I I' ∧ frJ J J' := by
  obtain ⟨I1, hI1⟩ : ∃ I1, I1 = am_up I 64 101 (am_i 0) := ⟨_, rfl⟩
  have o1 : ∀ I2, fr mS1 I1 I2 → ∀ q k, ¬ (q = 64 ∧ k = 101) → I2 q k = I q k := fun I2 hf q k e => by
    rw [hf q k (by unfold mS1; simp; omega), hI1, am_up_o e]
  obtain ⟨v, g1, g2, I', J', g3, g4, g5⟩ := q_loop (d := d) (J0 := J) (R := R) (bb := b) (e := l.length) (en := enQ n b h u s) (e1 := e1Q n u wf fm s) (b := bb) (I0 := I1) hm hl6 (by rw [hI1, am_up_o (by omega)]; exact h95) (fun w hw => ⟨(enQ_b hO hl hb6 hh hu w).1, (enQ_b hO hl hb6 hh hu w).2, fun d I2 J2 hf => by
      have o := o1 I2 hf
      have e103 : I2 103 = I 103 := funext fun k => o 103 k (by omega)
      exact q_part hm hb6 (by rw [o _ _ (by omega)]; exact h51) (by rw [o _ _ (by omega)]; exact h55) hu (by rw [o _ _ (by omega)]; exact hn) hn6 hO hl (by rw [e103]; exact hH) (by rw [e103]; exact h0) hh hw⟩) (fun w v hw v1 v2 => ⟨(e1Q_b hO w v).1, (e1Q_b hO w v).2, fun d I2 J2 hf => by
      have o := o1 I2 hf
      have e103 : I2 103 = I 103 := funext fun k => o 103 k (by omega)
      exact q_of hm hb6 (by rw [o _ _ (by omega)]; exact hn) hn6 hO (by rw [e103]; exact hH) (fun j hj => by rw [o _ _ (by omega)]; exact hC j hj) hw v1 v2⟩) l 0 [] [] I1 J hOK hW (by decide) trivial (fr_r _ _) (frJ_r _) trivial (by rw [hI1]; exact am_up_e) (by omega) (fun k t e => by rw [Nat.zero_add, hI1, am_up_o (by omega)]; exact hL k t e)
  have ev : vl (enQ n b h u s) (e1Q n u wf fm s) l = v := by unfold vl; rw [g1]; rfl
  rw [ev]
  refine ⟨I', J', ?_, g2, fun q k e => ?_, g5⟩
  · rw [sg_X12_qTold_0]
    simp (disch := first | assumption | omega) only [rM hm, ly_csm, ly_cam, ly_cf, ly_kd, ly_ln, ↓Bool.cond_decide, cond_true, cond_false, ↓bI_p, ↓bV_p, ↓bL_p, bIJ_s, bVJ_s, bLJ_s, ↓am_let_s, Nat.blt, Nat.ble, Bool.and_true, Bool.true_and, Bool.and_self, Int.cast_ofNat_Int, am_i_add, am_i_sub, am_i_mul, am_ok_i, am_i_cl, n_lt, n_le, n_eq, n_lt0, n_le0, n_0lt, n_0le, n_eq0, ne_eq, ↓reduceIte, not_true_eq_false, not_false_eq_true, and_true, true_and, and_false, false_and, eq_T, eq_F, lt_T, lt_F, le_T, le_F, qn_T, qn_F, and_F, b01_T, b01_F, e_isIn, Int32.toInt_toInt64, am_i_toInt, am_l_toInt, Int.toNat_natCast, Int.reduceToNat, Int.reduceAdd, Int.reduceSub, Int.reduceMul, Int.reduceNeg, Nat.reduceAdd, Nat.reduceMul, Nat.add_zero, Nat.mul_zero, Nat.zero_add, am_zb0, am_zb1]
    rw [← hI1]
    exact g3
  · rw [g4 q k e, hI1, am_up_o (by unfold mS1 at e; simp at e; omega)]
theorem m_takesQ (hm : st_Rm R) {k : Nat} {r v : Int} (hk : k ≤ 5) (hb : b < 6) (hr : -9000000 ≤ r ∧ r ≤ 9000000) (hv : -1000000 ≤ v ∧ v ≤ 1000000) (h01 : k ≤ 2 → v = 0 ∨ v = 1) (hJ : J 64 102 = am_l r) (hI : I 64 103 = am_i (if b = 0 then 1 else 0)) : ∃ J', am_E (d + 1) 286 0 [(0, .ref 64), (1, .int (am_i k)), (2, .long (am_l v)), (4, .int (am_i b))] [] (I, J, R, 138) = some (none, (am_up I 64 103 (am_i 0), J', R, 138)) ∧ J' 64 102 = am_l (anT (k + 26) r v b) ∧ ∀ q j, ¬ (q = 64 ∧ j = 102) → J' q j = J q j := by
  obtain ⟨r1, r2⟩ := hr
  obtain ⟨v1, v2⟩ := hv
  have eb : (am_i b).toInt64 = am_l b := i_tol (by omega) (by omega)
  have k6 : k = 0 ∨ k = 1 ∨ k = 2 ∨ k = 3 ∨ k = 4 ∨ k = 5 := by omega
  have up : ∀ x : Int64, am_up J 64 102 x 64 102 = x ∧ ∀ q j, ¬ (q = 64 ∧ j = 102) → am_up J 64 102 x q j = J q j := fun x => ⟨am_up_e, fun q j e => am_up_o e⟩
  rcases k6 with rfl | rfl | rfl | rfl | rfl | rfl
  · rcases h01 (by omega) with rfl | rfl
    · refine ⟨J, ?_, ?_, fun _ _ _ => rfl⟩
      · rw [sg_X12_qTakes_0]
        simp (disch := first | assumption | omega) only [rM hm, ly_csm, ly_cam, ly_cf, ly_kd, ly_ln, ↓Bool.cond_decide, cond_true, cond_false, ↓bI_p, ↓bV_p, ↓bL_p, bIJ_s, bVJ_s, bLJ_s, ↓am_let_s, Nat.blt, Nat.ble, Bool.and_true, Bool.true_and, Bool.and_self, Int.cast_ofNat_Int, am_i_add, am_i_sub, am_i_mul, am_ok_i, am_i_cl, n_lt, n_le, n_eq, n_lt0, n_le0, n_0lt, n_0le, n_eq0, ne_eq, ↓reduceIte, not_true_eq_false, not_false_eq_true, and_true, true_and, and_false, false_and, eq_T, eq_F, lt_T, lt_F, le_T, le_F, qn_T, qn_F, and_F, b01_T, b01_F, e_isIn, Int32.toInt_toInt64, am_i_toInt, am_l_toInt, Int.toNat_natCast, Int.reduceToNat, Int.reduceAdd, Int.reduceSub, Int.reduceMul, Int.reduceNeg, Nat.reduceAdd, Nat.reduceMul, Nat.add_zero, Nat.mul_zero, Nat.zero_add, am_zb0, am_zb1, lc_eq, sg_X12_qTakes_15, sg_X12_qTakes_38, sg_X12_qTakes_55, sg_X12_qTakes_75, sg_X12_qTakes_90, sg_X12_qTakes_133]
      · rw [hJ]; unfold anT; rw [if_pos rfl, if_neg (by omega)]
    · by_cases q : r = -1
      · subst q
        refine ⟨am_up J 64 102 (am_l b), ?_, ?_, (up _).2⟩
        · rw [sg_X12_qTakes_0]
          simp (disch := first | assumption | omega) only [rM hm, ly_csm, ly_cam, ly_cf, ly_kd, ly_ln, ↓Bool.cond_decide, cond_true, cond_false, ↓bI_p, ↓bV_p, ↓bL_p, bIJ_s, bVJ_s, bLJ_s, ↓am_let_s, Nat.blt, Nat.ble, Bool.and_true, Bool.true_and, Bool.and_self, Int.cast_ofNat_Int, am_i_add, am_i_sub, am_i_mul, am_ok_i, am_i_cl, n_lt, n_le, n_eq, n_lt0, n_le0, n_0lt, n_0le, n_eq0, ne_eq, ↓reduceIte, not_true_eq_false, not_false_eq_true, and_true, true_and, and_false, false_and, eq_T, eq_F, lt_T, lt_F, le_T, le_F, qn_T, qn_F, and_F, b01_T, b01_F, e_isIn, Int32.toInt_toInt64, am_i_toInt, am_l_toInt, Int.toNat_natCast, Int.reduceToNat, Int.reduceAdd, Int.reduceSub, Int.reduceMul, Int.reduceNeg, Nat.reduceAdd, Nat.reduceMul, Nat.add_zero, Nat.mul_zero, Nat.zero_add, am_zb0, am_zb1, lc_eq, hJ, eb, sg_X12_qTakes_48, sg_X12_qTakes_55, sg_X12_qTakes_75, sg_X12_qTakes_90, sg_X12_qTakes_133]
        · rw [(up _).1]; unfold anT; rw [if_pos rfl, if_pos ⟨rfl, rfl⟩]
      · refine ⟨J, ?_, ?_, fun _ _ _ => rfl⟩
        · rw [sg_X12_qTakes_0]
          simp (disch := first | assumption | omega) only [rM hm, ly_csm, ly_cam, ly_cf, ly_kd, ly_ln, ↓Bool.cond_decide, cond_true, cond_false, ↓bI_p, ↓bV_p, ↓bL_p, bIJ_s, bVJ_s, bLJ_s, ↓am_let_s, Nat.blt, Nat.ble, Bool.and_true, Bool.true_and, Bool.and_self, Int.cast_ofNat_Int, am_i_add, am_i_sub, am_i_mul, am_ok_i, am_i_cl, n_lt, n_le, n_eq, n_lt0, n_le0, n_0lt, n_0le, n_eq0, ne_eq, ↓reduceIte, not_true_eq_false, not_false_eq_true, and_true, true_and, and_false, false_and, eq_T, eq_F, lt_T, lt_F, le_T, le_F, qn_T, qn_F, and_F, b01_T, b01_F, e_isIn, Int32.toInt_toInt64, am_i_toInt, am_l_toInt, Int.toNat_natCast, Int.reduceToNat, Int.reduceAdd, Int.reduceSub, Int.reduceMul, Int.reduceNeg, Nat.reduceAdd, Nat.reduceMul, Nat.add_zero, Nat.mul_zero, Nat.zero_add, am_zb0, am_zb1, lc_eq, hJ, sg_X12_qTakes_38, sg_X12_qTakes_55, sg_X12_qTakes_75, sg_X12_qTakes_90, sg_X12_qTakes_133]
        · rw [hJ]; unfold anT; rw [if_pos rfl, if_neg (by omega)]
  · rcases h01 (by omega) with rfl | rfl
    · refine ⟨J, ?_, ?_, fun _ _ _ => rfl⟩
      · rw [sg_X12_qTakes_0]
        simp (disch := first | assumption | omega) only [rM hm, ly_csm, ly_cam, ly_cf, ly_kd, ly_ln, ↓Bool.cond_decide, cond_true, cond_false, ↓bI_p, ↓bV_p, ↓bL_p, bIJ_s, bVJ_s, bLJ_s, ↓am_let_s, Nat.blt, Nat.ble, Bool.and_true, Bool.true_and, Bool.and_self, Int.cast_ofNat_Int, am_i_add, am_i_sub, am_i_mul, am_ok_i, am_i_cl, n_lt, n_le, n_eq, n_lt0, n_le0, n_0lt, n_0le, n_eq0, ne_eq, ↓reduceIte, not_true_eq_false, not_false_eq_true, and_true, true_and, and_false, false_and, eq_T, eq_F, lt_T, lt_F, le_T, le_F, qn_T, qn_F, and_F, b01_T, b01_F, e_isIn, Int32.toInt_toInt64, am_i_toInt, am_l_toInt, Int.toNat_natCast, Int.reduceToNat, Int.reduceAdd, Int.reduceSub, Int.reduceMul, Int.reduceNeg, Nat.reduceAdd, Nat.reduceMul, Nat.add_zero, Nat.mul_zero, Nat.zero_add, am_zb0, am_zb1, lc_eq, sg_X12_qTakes_15, sg_X12_qTakes_38, sg_X12_qTakes_55, sg_X12_qTakes_75, sg_X12_qTakes_90, sg_X12_qTakes_133]
      · rw [hJ]; unfold anT; rw [if_neg (by decide), if_pos rfl, if_neg (by omega)]
    · refine ⟨am_up J 64 102 (am_l b), ?_, ?_, (up _).2⟩
      · rw [sg_X12_qTakes_0]
        simp (disch := first | assumption | omega) only [rM hm, ly_csm, ly_cam, ly_cf, ly_kd, ly_ln, ↓Bool.cond_decide, cond_true, cond_false, ↓bI_p, ↓bV_p, ↓bL_p, bIJ_s, bVJ_s, bLJ_s, ↓am_let_s, Nat.blt, Nat.ble, Bool.and_true, Bool.true_and, Bool.and_self, Int.cast_ofNat_Int, am_i_add, am_i_sub, am_i_mul, am_ok_i, am_i_cl, n_lt, n_le, n_eq, n_lt0, n_le0, n_0lt, n_0le, n_eq0, ne_eq, ↓reduceIte, not_true_eq_false, not_false_eq_true, and_true, true_and, and_false, false_and, eq_T, eq_F, lt_T, lt_F, le_T, le_F, qn_T, qn_F, and_F, b01_T, b01_F, e_isIn, Int32.toInt_toInt64, am_i_toInt, am_l_toInt, Int.toNat_natCast, Int.reduceToNat, Int.reduceAdd, Int.reduceSub, Int.reduceMul, Int.reduceNeg, Nat.reduceAdd, Nat.reduceMul, Nat.add_zero, Nat.mul_zero, Nat.zero_add, am_zb0, am_zb1, lc_eq, eb, sg_X12_qTakes_38, sg_X12_qTakes_48, sg_X12_qTakes_55, sg_X12_qTakes_75, sg_X12_qTakes_90, sg_X12_qTakes_133]
      · rw [(up _).1]; unfold anT; rw [if_neg (by decide), if_pos rfl, if_pos rfl]
  · rcases h01 (by omega) with rfl | rfl
    · refine ⟨J, ?_, ?_, fun _ _ _ => rfl⟩
      · rw [sg_X12_qTakes_0]
        simp (disch := first | assumption | omega) only [rM hm, ly_csm, ly_cam, ly_cf, ly_kd, ly_ln, ↓Bool.cond_decide, cond_true, cond_false, ↓bI_p, ↓bV_p, ↓bL_p, bIJ_s, bVJ_s, bLJ_s, ↓am_let_s, Nat.blt, Nat.ble, Bool.and_true, Bool.true_and, Bool.and_self, Int.cast_ofNat_Int, am_i_add, am_i_sub, am_i_mul, am_ok_i, am_i_cl, n_lt, n_le, n_eq, n_lt0, n_le0, n_0lt, n_0le, n_eq0, ne_eq, ↓reduceIte, not_true_eq_false, not_false_eq_true, and_true, true_and, and_false, false_and, eq_T, eq_F, lt_T, lt_F, le_T, le_F, qn_T, qn_F, and_F, b01_T, b01_F, e_isIn, Int32.toInt_toInt64, am_i_toInt, am_l_toInt, Int.toNat_natCast, Int.reduceToNat, Int.reduceAdd, Int.reduceSub, Int.reduceMul, Int.reduceNeg, Nat.reduceAdd, Nat.reduceMul, Nat.add_zero, Nat.mul_zero, Nat.zero_add, am_zb0, am_zb1, lc_eq, sg_X12_qTakes_15, sg_X12_qTakes_38, sg_X12_qTakes_55, sg_X12_qTakes_75, sg_X12_qTakes_90, sg_X12_qTakes_133]
      · rw [hJ]; unfold anT; rw [if_neg (by decide), if_neg (by decide), if_pos rfl, if_neg (by omega)]
    · refine ⟨am_up J 64 102 (am_l (r + 1)), ?_, ?_, (up _).2⟩
      · rw [sg_X12_qTakes_0]
        simp (disch := first | assumption | omega) only [rM hm, ly_csm, ly_cam, ly_cf, ly_kd, ly_ln, ↓Bool.cond_decide, cond_true, cond_false, ↓bI_p, ↓bV_p, ↓bL_p, bIJ_s, bVJ_s, bLJ_s, ↓am_let_s, Nat.blt, Nat.ble, Bool.and_true, Bool.true_and, Bool.and_self, Int.cast_ofNat_Int, am_i_add, am_i_sub, am_i_mul, am_ok_i, am_i_cl, n_lt, n_le, n_eq, n_lt0, n_le0, n_0lt, n_0le, n_eq0, ne_eq, ↓reduceIte, not_true_eq_false, not_false_eq_true, and_true, true_and, and_false, false_and, eq_T, eq_F, lt_T, lt_F, le_T, le_F, qn_T, qn_F, and_F, b01_T, b01_F, e_isIn, Int32.toInt_toInt64, am_i_toInt, am_l_toInt, Int.toNat_natCast, Int.reduceToNat, Int.reduceAdd, Int.reduceSub, Int.reduceMul, Int.reduceNeg, Nat.reduceAdd, Nat.reduceMul, Nat.add_zero, Nat.mul_zero, Nat.zero_add, am_zb0, am_zb1, lc_eq, hJ, am_l_add, sg_X12_qTakes_38, sg_X12_qTakes_55, sg_X12_qTakes_75, sg_X12_qTakes_90, sg_X12_qTakes_133]
      · rw [(up _).1]; unfold anT; rw [if_neg (by decide), if_neg (by decide), if_pos rfl, if_pos rfl]
  · refine ⟨am_up J 64 102 (am_l (r + v)), ?_, ?_, (up _).2⟩
    · rw [sg_X12_qTakes_0]
      simp (disch := first | assumption | omega) only [rM hm, ly_csm, ly_cam, ly_cf, ly_kd, ly_ln, ↓Bool.cond_decide, cond_true, cond_false, ↓bI_p, ↓bV_p, ↓bL_p, bIJ_s, bVJ_s, bLJ_s, ↓am_let_s, Nat.blt, Nat.ble, Bool.and_true, Bool.true_and, Bool.and_self, Int.cast_ofNat_Int, am_i_add, am_i_sub, am_i_mul, am_ok_i, am_i_cl, n_lt, n_le, n_eq, n_lt0, n_le0, n_0lt, n_0le, n_eq0, ne_eq, ↓reduceIte, not_true_eq_false, not_false_eq_true, and_true, true_and, and_false, false_and, eq_T, eq_F, lt_T, lt_F, le_T, le_F, qn_T, qn_F, and_F, b01_T, b01_F, e_isIn, Int32.toInt_toInt64, am_i_toInt, am_l_toInt, Int.toNat_natCast, Int.reduceToNat, Int.reduceAdd, Int.reduceSub, Int.reduceMul, Int.reduceNeg, Nat.reduceAdd, Nat.reduceMul, Nat.add_zero, Nat.mul_zero, Nat.zero_add, am_zb0, am_zb1, hJ, am_l_add, sg_X12_qTakes_15, sg_X12_qTakes_38, sg_X12_qTakes_55, sg_X12_qTakes_75, sg_X12_qTakes_90, sg_X12_qTakes_133]
    · rw [(up _).1]; rfl
  · have eT : anT (4 + 26) r v b = if b = 0 ∨ r < v then v else r := rfl
    rw [eT]
    by_cases q : b = 0
    · rw [if_pos q] at hI
      have hI' : I 64 103 = am_i 1 := hI
      refine ⟨am_up J 64 102 (am_l v), ?_, ?_, (up _).2⟩
      · rw [sg_X12_qTakes_0]
        simp (disch := first | assumption | omega) only [rM hm, ly_csm, ly_cam, ly_cf, ly_kd, ly_ln, ↓Bool.cond_decide, cond_true, cond_false, ↓bI_p, ↓bV_p, ↓bL_p, bIJ_s, bVJ_s, bLJ_s, ↓am_let_s, Nat.blt, Nat.ble, Bool.and_true, Bool.true_and, Bool.and_self, Int.cast_ofNat_Int, am_i_add, am_i_sub, am_i_mul, am_ok_i, am_i_cl, n_lt, n_le, n_eq, n_lt0, n_le0, n_0lt, n_0le, n_eq0, ne_eq, ↓reduceIte, not_true_eq_false, not_false_eq_true, and_true, true_and, and_false, false_and, eq_T, eq_F, lt_T, lt_F, le_T, le_F, qn_T, qn_F, and_F, b01_T, b01_F, e_isIn, Int32.toInt_toInt64, am_i_toInt, am_l_toInt, Int.toNat_natCast, Int.reduceToNat, Int.reduceAdd, Int.reduceSub, Int.reduceMul, Int.reduceNeg, Nat.reduceAdd, Nat.reduceMul, Nat.add_zero, Nat.mul_zero, Nat.zero_add, am_zb0, am_zb1, hI', sg_X12_qTakes_15, sg_X12_qTakes_38, sg_X12_qTakes_55, sg_X12_qTakes_75, sg_X12_qTakes_90, sg_X12_qTakes_128, sg_X12_qTakes_133]
      · rw [(up _).1, if_pos (Or.inl q)]
    · rw [if_neg q] at hI
      have hI' : I 64 103 = am_i 0 := hI
      by_cases q2 : r < v
      · refine ⟨am_up J 64 102 (am_l v), ?_, ?_, (up _).2⟩
        · rw [sg_X12_qTakes_0]
          simp (disch := first | assumption | omega) only [rM hm, ly_csm, ly_cam, ly_cf, ly_kd, ly_ln, ↓Bool.cond_decide, cond_true, cond_false, ↓bI_p, ↓bV_p, ↓bL_p, bIJ_s, bVJ_s, bLJ_s, ↓am_let_s, Nat.blt, Nat.ble, Bool.and_true, Bool.true_and, Bool.and_self, Int.cast_ofNat_Int, am_i_add, am_i_sub, am_i_mul, am_ok_i, am_i_cl, n_lt, n_le, n_eq, n_lt0, n_le0, n_0lt, n_0le, n_eq0, ne_eq, ↓reduceIte, not_true_eq_false, not_false_eq_true, and_true, true_and, and_false, false_and, eq_T, eq_F, lt_T, lt_F, le_T, le_F, qn_T, qn_F, and_F, b01_T, b01_F, e_isIn, Int32.toInt_toInt64, am_i_toInt, am_l_toInt, Int.toNat_natCast, Int.reduceToNat, Int.reduceAdd, Int.reduceSub, Int.reduceMul, Int.reduceNeg, Nat.reduceAdd, Nat.reduceMul, Nat.add_zero, Nat.mul_zero, Nat.zero_add, am_zb0, am_zb1, hI', hJ, lc_le, sg_X12_qTakes_15, sg_X12_qTakes_38, sg_X12_qTakes_55, sg_X12_qTakes_75, sg_X12_qTakes_90, sg_X12_qTakes_128, sg_X12_qTakes_133]
        · rw [(up _).1, if_pos (Or.inr q2)]
      · refine ⟨J, ?_, ?_, fun _ _ _ => rfl⟩
        · rw [sg_X12_qTakes_0]
          simp (disch := first | assumption | omega) only [rM hm, ly_csm, ly_cam, ly_cf, ly_kd, ly_ln, ↓Bool.cond_decide, cond_true, cond_false, ↓bI_p, ↓bV_p, ↓bL_p, bIJ_s, bVJ_s, bLJ_s, ↓am_let_s, Nat.blt, Nat.ble, Bool.and_true, Bool.true_and, Bool.and_self, Int.cast_ofNat_Int, am_i_add, am_i_sub, am_i_mul, am_ok_i, am_i_cl, n_lt, n_le, n_eq, n_lt0, n_le0, n_0lt, n_0le, n_eq0, ne_eq, ↓reduceIte, not_true_eq_false, not_false_eq_true, and_true, true_and, and_false, false_and, eq_T, eq_F, lt_T, lt_F, le_T, le_F, qn_T, qn_F, and_F, b01_T, b01_F, e_isIn, Int32.toInt_toInt64, am_i_toInt, am_l_toInt, Int.toNat_natCast, Int.reduceToNat, Int.reduceAdd, Int.reduceSub, Int.reduceMul, Int.reduceNeg, Nat.reduceAdd, Nat.reduceMul, Nat.add_zero, Nat.mul_zero, Nat.zero_add, am_zb0, am_zb1, hI', hJ, lc_le, sg_X12_qTakes_15, sg_X12_qTakes_38, sg_X12_qTakes_55, sg_X12_qTakes_75, sg_X12_qTakes_90, sg_X12_qTakes_128, sg_X12_qTakes_133]
        · rw [hJ, if_neg (by omega)]
  · have eT : anT (5 + 26) r v b = if b = 0 ∨ v < r then v else r := rfl
    rw [eT]
    by_cases q : b = 0
    · rw [if_pos q] at hI
      have hI' : I 64 103 = am_i 1 := hI
      refine ⟨am_up J 64 102 (am_l v), ?_, ?_, (up _).2⟩
      · rw [sg_X12_qTakes_0]
        simp (disch := first | assumption | omega) only [rM hm, ly_csm, ly_cam, ly_cf, ly_kd, ly_ln, ↓Bool.cond_decide, cond_true, cond_false, ↓bI_p, ↓bV_p, ↓bL_p, bIJ_s, bVJ_s, bLJ_s, ↓am_let_s, Nat.blt, Nat.ble, Bool.and_true, Bool.true_and, Bool.and_self, Int.cast_ofNat_Int, am_i_add, am_i_sub, am_i_mul, am_ok_i, am_i_cl, n_lt, n_le, n_eq, n_lt0, n_le0, n_0lt, n_0le, n_eq0, ne_eq, ↓reduceIte, not_true_eq_false, not_false_eq_true, and_true, true_and, and_false, false_and, eq_T, eq_F, lt_T, lt_F, le_T, le_F, qn_T, qn_F, and_F, b01_T, b01_F, e_isIn, Int32.toInt_toInt64, am_i_toInt, am_l_toInt, Int.toNat_natCast, Int.reduceToNat, Int.reduceAdd, Int.reduceSub, Int.reduceMul, Int.reduceNeg, Nat.reduceAdd, Nat.reduceMul, Nat.add_zero, Nat.mul_zero, Nat.zero_add, am_zb0, am_zb1, hI', sg_X12_qTakes_15, sg_X12_qTakes_38, sg_X12_qTakes_55, sg_X12_qTakes_75, sg_X12_qTakes_90, sg_X12_qTakes_128, sg_X12_qTakes_133]
      · rw [(up _).1, if_pos (Or.inl q)]
    · rw [if_neg q] at hI
      have hI' : I 64 103 = am_i 0 := hI
      by_cases q2 : v < r
      · refine ⟨am_up J 64 102 (am_l v), ?_, ?_, (up _).2⟩
        · rw [sg_X12_qTakes_0]
          simp (disch := first | assumption | omega) only [rM hm, ly_csm, ly_cam, ly_cf, ly_kd, ly_ln, ↓Bool.cond_decide, cond_true, cond_false, ↓bI_p, ↓bV_p, ↓bL_p, bIJ_s, bVJ_s, bLJ_s, ↓am_let_s, Nat.blt, Nat.ble, Bool.and_true, Bool.true_and, Bool.and_self, Int.cast_ofNat_Int, am_i_add, am_i_sub, am_i_mul, am_ok_i, am_i_cl, n_lt, n_le, n_eq, n_lt0, n_le0, n_0lt, n_0le, n_eq0, ne_eq, ↓reduceIte, not_true_eq_false, not_false_eq_true, and_true, true_and, and_false, false_and, eq_T, eq_F, lt_T, lt_F, le_T, le_F, qn_T, qn_F, and_F, b01_T, b01_F, e_isIn, Int32.toInt_toInt64, am_i_toInt, am_l_toInt, Int.toNat_natCast, Int.reduceToNat, Int.reduceAdd, Int.reduceSub, Int.reduceMul, Int.reduceNeg, Nat.reduceAdd, Nat.reduceMul, Nat.add_zero, Nat.mul_zero, Nat.zero_add, am_zb0, am_zb1, hI', hJ, lc_ge, sg_X12_qTakes_15, sg_X12_qTakes_38, sg_X12_qTakes_55, sg_X12_qTakes_75, sg_X12_qTakes_90, sg_X12_qTakes_128, sg_X12_qTakes_133]
        · rw [(up _).1, if_pos (Or.inr q2)]
      · refine ⟨J, ?_, ?_, fun _ _ _ => rfl⟩
        · rw [sg_X12_qTakes_0]
          simp (disch := first | assumption | omega) only [rM hm, ly_csm, ly_cam, ly_cf, ly_kd, ly_ln, ↓Bool.cond_decide, cond_true, cond_false, ↓bI_p, ↓bV_p, ↓bL_p, bIJ_s, bVJ_s, bLJ_s, ↓am_let_s, Nat.blt, Nat.ble, Bool.and_true, Bool.true_and, Bool.and_self, Int.cast_ofNat_Int, am_i_add, am_i_sub, am_i_mul, am_ok_i, am_i_cl, n_lt, n_le, n_eq, n_lt0, n_le0, n_0lt, n_0le, n_eq0, ne_eq, ↓reduceIte, not_true_eq_false, not_false_eq_true, and_true, true_and, and_false, false_and, eq_T, eq_F, lt_T, lt_F, le_T, le_F, qn_T, qn_F, and_F, b01_T, b01_F, e_isIn, Int32.toInt_toInt64, am_i_toInt, am_l_toInt, Int.toNat_natCast, Int.reduceToNat, Int.reduceAdd, Int.reduceSub, Int.reduceMul, Int.reduceNeg, Nat.reduceAdd, Nat.reduceMul, Nat.add_zero, Nat.mul_zero, Nat.zero_add, am_zb0, am_zb1, hI', hJ, lc_ge, sg_X12_qTakes_15, sg_X12_qTakes_38, sg_X12_qTakes_55, sg_X12_qTakes_75, sg_X12_qTakes_90, sg_X12_qTakes_128, sg_X12_qTakes_133]
        · rw [hJ, if_neg (by omega)]
end MANS
section MANS2
variable {d : Nat} {R : tR} {last wd nb h : Nat} {nt wf : Nat → Nat} {fm : Nat → List tok} {s : Nat → bt} {l : List tok} {bb : Bool}
theorem m_many (hm : st_Rm R) {I : tI} {J : tJ} (h : I 94 3 = am_i nb) : am_E (d + 1) 192 0 [(0, .ref 64)] [] (I, J, R, 138) = some (some (.int (am_i nb)), (I, J, R, 138)) := by
  rw [sg_X12_boatMany_0]
  simp (disch := first | assumption | omega) only [rM hm, ly_csm, ly_cam, ly_cf, ly_kd, ly_ln, ↓Bool.cond_decide, cond_true, cond_false, ↓bI_p, ↓bV_p, ↓bL_p, bIJ_s, bVJ_s, bLJ_s, ↓am_let_s, Nat.blt, Nat.ble, Bool.and_true, Bool.true_and, Bool.and_self, Int.cast_ofNat_Int, am_i_add, am_i_sub, am_i_mul, am_ok_i, am_i_cl, n_lt, n_le, n_eq, n_lt0, n_le0, n_0lt, n_0le, n_eq0, ne_eq, ↓reduceIte, not_true_eq_false, not_false_eq_true, and_true, true_and, and_false, false_and, eq_T, eq_F, lt_T, lt_F, le_T, le_F, qn_T, qn_F, and_F, b01_T, b01_F, e_isIn, Int32.toInt_toInt64, am_i_toInt, am_l_toInt, Int.toNat_natCast, Int.reduceToNat, Int.reduceAdd, Int.reduceSub, Int.reduceMul, Int.reduceNeg, Nat.reduceAdd, Nat.reduceMul, Nat.add_zero, Nat.mul_zero, Nat.zero_add, am_zb0, am_zb1, h]
/-- what the loop over notes and boats may change -/
def qL (q k : Nat) : Prop := (q = 64 ∧ (k = 51 ∨ k = 54 ∨ k = 55 ∨ k = 56 ∨ k = 101)) ∨ q = 105
theorem m_203 (hm : st_Rm R) {k b : Nat} (hk : k ≤ 5) (hb : b < nb) {I0 : tI} {J0 : tJ} (hX : cxM last wd nb nt wf fm I0) (hRM : rwM nb nt last h s I0) : ∀ (m v : Nat) (I : tI) (J : tJ), v + m = 8 → (∀ q j, ¬ qL q j → I q j = I0 q j) → frJ J0 J → I 64 55 = am_i wd → (∀ j, j < 8 * b + v → I 105 j = am_i (rcS wf fm (s (j / 8)) (j % 8) wd)) → ∃ I' J', am_E (d + 5) 287 203 [(0, .ref 64), (1, .int (am_i k)), (2, .int (am_i b)), (3, .int (am_i v))] [] (I, J, R, 138) = am_E (d + 5) 287 193 [(0, .ref 64), (1, .int (am_i k)), (2, .int (am_i (b + 1 : Nat)))] [] (I', J', R, 138) ∧ (∀ q j, ¬ qL q j → I' q j = I0 q j) ∧ frJ J0 J' ∧ I' 64 55 = am_i wd ∧ ∀ j, j < 8 * (b + 1) → I' 105 j = am_i (rcS wf fm (s (j / 8)) (j % 8) wd)
  | 0, v, I, J, hv, hf, hj, h55, hC => by
    obtain rfl : v = 8 := by omega
    refine ⟨I, J, ?_, hf, hj, h55, fun j hj' => hC j (by omega)⟩
    have n6 := hX.2.2.2.2.2.1
    rw [sg_X12_ask_203]
    simp (disch := first | assumption | omega) only [rM hm, ly_csm, ly_cam, ly_cf, ly_kd, ly_ln, ↓Bool.cond_decide, cond_true, cond_false, ↓bI_p, ↓bV_p, ↓bL_p, bIJ_s, bVJ_s, bLJ_s, ↓am_let_s, Nat.blt, Nat.ble, Bool.and_true, Bool.true_and, Bool.and_self, Int.cast_ofNat_Int, am_i_add, am_i_sub, am_i_mul, am_ok_i, am_i_cl, n_lt, n_le, n_eq, n_lt0, n_le0, n_0lt, n_0le, n_eq0, ne_eq, ↓reduceIte, not_true_eq_false, not_false_eq_true, and_true, true_and, and_false, false_and, eq_T, eq_F, lt_T, lt_F, le_T, le_F, qn_T, qn_F, and_F, b01_T, b01_F, e_isIn, Int32.toInt_toInt64, am_i_toInt, am_l_toInt, Int.toNat_natCast, Int.reduceToNat, Int.reduceAdd, Int.reduceSub, Int.reduceMul, Int.reduceNeg, Nat.reduceAdd, Nat.reduceMul, Nat.add_zero, Nat.mul_zero, Nat.zero_add, am_zb0, am_zb1, am_i_s]
  | m + 1, v, I, J, hv, hf, hj, h55, hC => by
    have n6 := hX.2.2.2.2.2.1
    have hX1 : cxM last wd nb nt wf fm I := cxM_c (fun q j a1 a2 => hf q j (by unfold qL; omega)) hX
    have e103 : I 103 = I0 103 := funext fun j => hf 103 j (by unfold qL; omega)
    obtain ⟨hO, hB⟩ := hRM.2.2 b hb
    obtain ⟨y1, y2, y3, y4, y5, y6⟩ := bX_i.mp hB
    obtain ⟨r, M, e, I1, J1, rfl, rfl, hf1, hj1, h1⟩ := m_carriedW (d := d) (J := J) (b := b) (s := s b) (v := v) (u := wd) hm (by omega) hX1 hO.1 hO.2.1 hO.2.2.1 (by rw [e103]; exact y1) (by rw [e103]; exact y2) (by rw [e103]; exact y3) (by omega) hX.2.2.2.1
    have m4 : I 93 4 = am_i wd := hX1.2.2.1
    have en : (8 * (b : Int) + (v : Int)).toNat = 8 * b + v := by omega
    obtain ⟨I2, J2, g1, g2, g3, g4, g5⟩ := m_203 hm hk hb hX hRM m (v + 1) (am_up I1 105 (8 * b + v) (am_i (rcS wf fm (s b) v wd))) J1 (by omega) (fun q j ne => by
      unfold qL at ne
      rw [am_up_o (by omega), hf1 q j (mS_f.mpr (by omega)), hf q j (by unfold qL; omega)]) (frJ_t hj hj1) (by rw [am_up_o (by omega)]; exact h1 h55) (fun j hj' => by
      by_cases q : j = 8 * b + v
      · subst q
        rw [am_up_e, show (8 * b + v) / 8 = b by omega, show (8 * b + v) % 8 = v by omega]
      · rw [am_up_o (by omega), hf1 105 j (mS_f.mpr (by omega))]
        exact hC j (by omega))
    refine ⟨I2, J2, ?_, g2, g3, g4, g5⟩
    rw [← g1]
    conv => lhs; rw [sg_X12_ask_203]
    simp (disch := first | assumption | omega) only [rM hm, ly_csm, ly_cam, ly_cf, ly_kd, ly_ln, ↓Bool.cond_decide, cond_true, cond_false, ↓bI_p, ↓bV_p, ↓bL_p, bIJ_s, bVJ_s, bLJ_s, ↓am_let_s, Nat.blt, Nat.ble, Bool.and_true, Bool.true_and, Bool.and_self, Int.cast_ofNat_Int, am_i_add, am_i_sub, am_i_mul, am_ok_i, am_i_cl, n_lt, n_le, n_eq, n_lt0, n_le0, n_0lt, n_0le, n_eq0, ne_eq, ↓reduceIte, not_true_eq_false, not_false_eq_true, and_true, true_and, and_false, false_and, eq_T, eq_F, lt_T, lt_F, le_T, le_F, qn_T, qn_F, and_F, b01_T, b01_F, e_isIn, Int32.toInt_toInt64, am_i_toInt, am_l_toInt, Int.toNat_natCast, Int.reduceToNat, Int.reduceAdd, Int.reduceSub, Int.reduceMul, Int.reduceNeg, Nat.reduceAdd, Nat.reduceMul, Nat.add_zero, Nat.mul_zero, Nat.zero_add, am_zb0, am_zb1, m4, e, en, am_i_s]
theorem m_193 (hm : st_Rm R) {k : Nat} (hk : k ≤ 5) {I0 : tI} {J0 : tJ} (hX : cxM last wd nb nt wf fm I0) (hRM : rwM nb nt last h s I0) : ∀ (m b : Nat) (I : tI) (J : tJ), b + m = nb → (∀ q j, ¬ qL q j → I q j = I0 q j) → frJ J0 J → I 64 55 = am_i wd → (∀ j, j < 8 * b → I 105 j = am_i (rcS wf fm (s (j / 8)) (j % 8) wd)) → ∃ I' J', am_E (d + 5) 287 193 [(0, .ref 64), (1, .int (am_i k)), (2, .int (am_i b))] [] (I, J, R, 138) = am_E (d + 5) 287 251 [(0, .ref 64), (1, .int (am_i k)), (2, .int (am_i 0))] [] (I', J', R, 138) ∧ (∀ q j, ¬ qL q j → I' q j = I0 q j) ∧ frJ J0 J' ∧ I' 64 51 = am_i 2 ∧ I' 64 55 = am_i wd ∧ ∀ j, j < 8 * nb → I' 105 j = am_i (rcS wf fm (s (j / 8)) (j % 8) wd)
  | 0, b, I, J, hb, hf, hj, h55, hC => by
    obtain rfl : b = nb := by omega
    have n6 := hX.2.2.2.2.2.1
    have mm := fun d => m_many (d := d) (J := J) (nb := b) hm (I := I) (by rw [hf _ _ (by unfold qL; omega)]; exact hX.2.2.2.2.1)
    refine ⟨am_up I 64 51 (am_i 2), J, ?_, fun q j e => ?_, hj, am_up_e, by rw [am_up_o (by omega)]; exact h55, fun j hj' => by rw [am_up_o (by omega)]; exact hC j hj'⟩
    · rw [sg_X12_ask_193]
      simp (disch := first | assumption | omega) only [rM hm, ly_csm, ly_cam, ly_cf, ly_kd, ly_ln, ↓Bool.cond_decide, cond_true, cond_false, ↓bI_p, ↓bV_p, ↓bL_p, bIJ_s, bVJ_s, bLJ_s, ↓am_let_s, Nat.blt, Nat.ble, Bool.and_true, Bool.true_and, Bool.and_self, Int.cast_ofNat_Int, am_i_add, am_i_sub, am_i_mul, am_ok_i, am_i_cl, n_lt, n_le, n_eq, n_lt0, n_le0, n_0lt, n_0le, n_eq0, ne_eq, ↓reduceIte, not_true_eq_false, not_false_eq_true, and_true, true_and, and_false, false_and, eq_T, eq_F, lt_T, lt_F, le_T, le_F, qn_T, qn_F, and_F, b01_T, b01_F, e_isIn, Int32.toInt_toInt64, am_i_toInt, am_l_toInt, Int.toNat_natCast, Int.reduceToNat, Int.reduceAdd, Int.reduceSub, Int.reduceMul, Int.reduceNeg, Nat.reduceAdd, Nat.reduceMul, Nat.add_zero, Nat.mul_zero, Nat.zero_add, am_zb0, am_zb1, mm]
    · rw [am_up_o (by unfold qL at e; omega)]
      exact hf q j e
  | m + 1, b, I, J, hb, hf, hj, h55, hC => by
    have n6 := hX.2.2.2.2.2.1
    have mm := fun d => m_many (d := d) (J := J) (nb := nb) hm (I := I) (by rw [hf _ _ (by unfold qL; omega)]; exact hX.2.2.2.2.1)
    obtain ⟨I1, J1, g1, g2, g3, g4, g5⟩ := m_203 (d := d) hm (k := k) (b := b) hk (by omega) hX hRM 8 0 I J (by omega) hf hj h55 (fun j hj' => hC j (by omega))
    have g1' : am_E (d + 5) 287 203 [(0, .ref 64), (1, .int (am_i k)), (2, .int (am_i b)), (3, .int (am_i 0))] [] (I, J, R, 138) = _ := g1
    obtain ⟨I2, J2, c1, c2, c3, c4, c5, c6⟩ := m_193 hm hk hX hRM m (b + 1) I1 J1 (by omega) g2 g3 g4 (fun j hj' => g5 j hj')
    refine ⟨I2, J2, ?_, c2, c3, c4, c5, c6⟩
    rw [← c1, ← g1', sg_X12_ask_193]
    simp (disch := first | assumption | omega) only [rM hm, ly_csm, ly_cam, ly_cf, ly_kd, ly_ln, ↓Bool.cond_decide, cond_true, cond_false, ↓bI_p, ↓bV_p, ↓bL_p, bIJ_s, bVJ_s, bLJ_s, ↓am_let_s, Nat.blt, Nat.ble, Bool.and_true, Bool.true_and, Bool.and_self, Int.cast_ofNat_Int, am_i_add, am_i_sub, am_i_mul, am_ok_i, am_i_cl, n_lt, n_le, n_eq, n_lt0, n_le0, n_0lt, n_0le, n_eq0, ne_eq, ↓reduceIte, not_true_eq_false, not_false_eq_true, and_true, true_and, and_false, false_and, eq_T, eq_F, lt_T, lt_F, le_T, le_F, qn_T, qn_F, and_F, b01_T, b01_F, e_isIn, Int32.toInt_toInt64, am_i_toInt, am_l_toInt, Int.toNat_natCast, Int.reduceToNat, Int.reduceAdd, Int.reduceSub, Int.reduceMul, Int.reduceNeg, Nat.reduceAdd, Nat.reduceMul, Nat.add_zero, Nat.mul_zero, Nat.zero_add, am_zb0, am_zb1, mm]
theorem m_251 (hm : st_Rm R) {k : Nat} (hk : k ≤ 5) (hOK : tokOK [] l = some [bb]) (hW : ∀ t ∈ l, tokW true false t) (hbb : k ≤ 2 → bb = true) {I0 : tI} {J0 : tJ} (hX : cxM last wd nb nt wf fm I0) (hRM : rwM nb nt last h s I0) (h51 : I0 64 51 = am_i 2) (h55 : I0 64 55 = am_i wd) (hC : ∀ j, j < 8 * nb → I0 105 j = am_i (rcS wf fm (s (j / 8)) (j % 8) wd)) (h95 : I0 64 95 = am_i l.length) (hl6 : l.length ≤ 1600) (hL : ∀ k t, l[k]? = some t → I0 134 k = am_i (encM t)) : ∀ (m i : Nat) (I : tI) (J : tJ), i + m = nb → (∀ q j, ¬ (q = 64 ∧ (j = 101 ∨ j = 103)) → I q j = I0 q j) → (∀ q j, q ≠ 136 → ¬ (q = 64 ∧ j = 102) → J q j = J0 q j) → I 64 103 = am_i (if i = 0 then 1 else 0) → J 64 102 = am_l (anS (k + 26) (vlQ wd h nt wf fm s l nb) i) → ∃ I' J', am_E (d + 5) 287 251 [(0, .ref 64), (1, .int (am_i k)), (2, .int (am_i i))] [] (I, J, R, 138) = some (some (.long (am_l (anS (k + 26) (vlQ wd h nt wf fm s l nb) nb))), (I', J', R, 138)) ∧ (∀ q j, ¬ (q = 64 ∧ (j = 101 ∨ j = 103)) → I' q j = I0 q j) ∧ ∀ q j, q ≠ 136 → ¬ (q = 64 ∧ j = 102) → J' q j = J0 q j
  | 0, i, I, J, hi, hf, hj, h103, h102 => by
    obtain rfl : i = nb := by omega
    have n6 := hX.2.2.2.2.2.1
    have mm := fun d => m_many (d := d) (J := J) (nb := i) hm (I := I) (by rw [hf _ _ (by omega)]; exact hX.2.2.2.2.1)
    refine ⟨I, J, ?_, hf, hj⟩
    rw [sg_X12_ask_251]
    simp (disch := first | assumption | omega) only [rM hm, ly_csm, ly_cam, ly_cf, ly_kd, ly_ln, ↓Bool.cond_decide, cond_true, cond_false, ↓bI_p, ↓bV_p, ↓bL_p, bIJ_s, bVJ_s, bLJ_s, ↓am_let_s, Nat.blt, Nat.ble, Bool.and_true, Bool.true_and, Bool.and_self, Int.cast_ofNat_Int, am_i_add, am_i_sub, am_i_mul, am_ok_i, am_i_cl, n_lt, n_le, n_eq, n_lt0, n_le0, n_0lt, n_0le, n_eq0, ne_eq, ↓reduceIte, not_true_eq_false, not_false_eq_true, and_true, true_and, and_false, false_and, eq_T, eq_F, lt_T, lt_F, le_T, le_F, qn_T, qn_F, and_F, b01_T, b01_F, e_isIn, Int32.toInt_toInt64, am_i_toInt, am_l_toInt, Int.toNat_natCast, Int.reduceToNat, Int.reduceAdd, Int.reduceSub, Int.reduceMul, Int.reduceNeg, Nat.reduceAdd, Nat.reduceMul, Nat.add_zero, Nat.mul_zero, Nat.zero_add, am_zb0, am_zb1, mm, h102]
  | m + 1, i, I, J, hi, hf, hj, h103, h102 => by
    have n6 := hX.2.2.2.2.2.1
    have hi' : i < nb := by omega
    have mm := fun d => m_many (d := d) (J := J) (nb := nb) hm (I := I) (by rw [hf _ _ (by omega)]; exact hX.2.2.2.2.1)
    have e103 : I 103 = I0 103 := funext fun j => hf 103 j (by omega)
    obtain ⟨hO, hB⟩ := hRM.2.2 i hi'
    obtain ⟨nt6, nt1⟩ := hX.2.2.2.2.2.2.1 i hi'
    have bnd : ∀ b, -1000000 ≤ vlQ wd h nt wf fm s l nb b ∧ vlQ wd h nt wf fm s l nb b ≤ 1000000 := fun b => by
      unfold vlQ
      split
      · next q =>
        obtain ⟨hO', hB'⟩ := hRM.2.2 b q
        obtain ⟨_, _, -, w2, -⟩ := q_told (d := d) (J := J) (I := I) (b := b) (n := nt b) (h := h) (u := wd) (s := s b) (wf := wf) (fm := fm) (l := l) (bb := bb) hm (by omega) (by rw [hf _ _ (by omega)]; exact h51) (by rw [hf _ _ (by omega)]; exact h55) hX.2.2.2.1 (by rw [hf _ _ (by omega)]; exact (hX.2.2.2.2.2.2.1 b q).2) (hX.2.2.2.2.2.2.1 b q).1 hO' hX.2.1 (by rw [e103]; exact hB') (by rw [e103]; exact hRM.2.1) hRM.1 (fun j hj' => by rw [hf _ _ (by omega), hC (8 * b + j) (by omega), show (8 * b + j) / 8 = b by omega, show (8 * b + j) % 8 = j by omega]) (by rw [hf _ _ (by omega)]; exact h95) hl6 (fun k t e => by rw [hf _ _ (by omega)]; exact hL k t e) hOK hW
        exact ⟨w2.1, w2.2.1⟩
      · omega
    obtain ⟨I1, J1, a1, a2, a3, a4⟩ := q_told (d := d) (J := J) (I := I) (b := i) (n := nt i) (h := h) (u := wd) (s := s i) (wf := wf) (fm := fm) (l := l) (bb := bb) hm (by omega) (by rw [hf _ _ (by omega)]; exact h51) (by rw [hf _ _ (by omega)]; exact h55) hX.2.2.2.1 (by rw [hf _ _ (by omega)]; exact nt1) nt6 hO hX.2.1 (by rw [e103]; exact hB) (by rw [e103]; exact hRM.2.1) hRM.1 (fun j hj' => by rw [hf _ _ (by omega), hC (8 * i + j) (by omega), show (8 * i + j) / 8 = i by omega, show (8 * i + j) % 8 = j by omega]) (by rw [hf _ _ (by omega)]; exact h95) hl6 (fun k t e => by rw [hf _ _ (by omega)]; exact hL k t e) hOK hW
    have ev : vl (enQ (nt i) i h wd (s i)) (e1Q (nt i) wd wf fm (s i)) l = vlQ wd h nt wf fm s l nb i := by unfold vlQ; rw [if_pos hi']
    rw [ev] at a1 a2
    have ab := anS_b (k := k + 26) bnd i (by omega)
    have vb := bnd i
    have o1 : ∀ q j, ¬ (q = 64 ∧ j = 101) → I1 q j = I q j := fun q j e => a3 q j (by unfold mS1; simp; omega)
    obtain ⟨J2, c1, c2, c3⟩ := m_takesQ (d := d + 3) (I := I1) (J := J1) (R := R) (b := i) (k := k) (r := anS (k + 26) (vlQ wd h nt wf fm s l nb) i) (v := vlQ wd h nt wf fm s l nb i) hm hk (by omega) (by omega) vb (fun e => a2.2.2 (hbb e)) (by rw [a4 64 102 (by omega)]; exact h102) (by rw [o1 _ _ (by omega)]; exact h103)
    obtain ⟨I3, J3, g1, g2, g3⟩ := m_251 (J0 := J0) hm hk hOK hW hbb hX hRM h51 h55 hC h95 hl6 hL m (i + 1) (am_up I1 64 103 (am_i 0)) J2 (by omega) (fun q j e => by rw [am_up_o (by omega), o1 _ _ (by omega)]; exact hf q j e) (fun q j e1 e2 => by rw [c3 q j e2, a4 q j e1]; exact hj q j e1 e2) (by rw [am_up_e, if_neg (by omega)]) c2
    refine ⟨I3, J3, ?_, g2, g3⟩
    have a1' : am_E (d + 4) 284 0 [(0, .ref 64), (1, .int (am_i i))] [] (I, J, R, 138) = _ := a1
    have c1' : am_E (d + 4) 286 0 [(0, .ref 64), (1, .int (am_i k)), (2, .long (am_l (vlQ wd h nt wf fm s l nb i))), (4, .int (am_i i))] [] (I1, J1, R, 138) = _ := c1
    rw [← g1]
    conv => lhs; rw [sg_X12_ask_251]
    simp (disch := first | assumption | omega) only [rM hm, ly_csm, ly_cam, ly_cf, ly_kd, ly_ln, ↓Bool.cond_decide, cond_true, cond_false, ↓bI_p, ↓bV_p, ↓bL_p, bIJ_s, bVJ_s, bLJ_s, ↓am_let_s, Nat.blt, Nat.ble, Bool.and_true, Bool.true_and, Bool.and_self, Int.cast_ofNat_Int, am_i_add, am_i_sub, am_i_mul, am_ok_i, am_i_cl, n_lt, n_le, n_eq, n_lt0, n_le0, n_0lt, n_0le, n_eq0, ne_eq, ↓reduceIte, not_true_eq_false, not_false_eq_true, and_true, true_and, and_false, false_and, eq_T, eq_F, lt_T, lt_F, le_T, le_F, qn_T, qn_F, and_F, b01_T, b01_F, e_isIn, Int32.toInt_toInt64, am_i_toInt, am_l_toInt, Int.toNat_natCast, Int.reduceToNat, Int.reduceAdd, Int.reduceSub, Int.reduceMul, Int.reduceNeg, Nat.reduceAdd, Nat.reduceMul, Nat.add_zero, Nat.mul_zero, Nat.zero_add, am_zb0, am_zb1, mm, a1', c1', am_i_s]
end MANS2
